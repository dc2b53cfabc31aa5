/-! the model's found speeds -/
theorem emod_0 {x s : Int} : (x.tmod s = 0) = (x % s = 0) := by
  apply propext
  constructor
  · intro q
    exact Int.emod_eq_zero_of_dvd (Int.dvd_of_tmod_eq_zero q)
  · intro q
    exact Int.tmod_eq_zero_of_dvd (Int.dvd_of_emod_eq_zero q)
def FnAt (A : Nat → Nat → Int32) (p : Nat → Int) (ex : Int) (n : Nat) : Prop := ∀ j : Nat, j < n → fitL p ex j = true → A 4 (cnt (fitL p ex) j) = i32 ((j : Int) - p 93)
