/-! the model goes to an opening -/
def GI (p : Nat → Int) (S : Nat → Int32) (t : Nat) (w : Bool) : Prop :=
  ∀ c, cnt (opn p) t = c + 1 → ft p c < t ∧ opn p (ft p c) = true ∧ cnt (opn p) (ft p c) = c ∧ S 14 = i32 (ft p c : Nat) ∧
    (w = true → S 15 = i32 ((t : Int) - 1) ∧ ∀ j, ft p c ≤ j → j < t → op p j = true) ∧ (w = false → S 15 = i32 ((en p (ft p c) : Int) - 1))
theorem ft_at {p : Nat → Int} {t c : Nat} (ht : t < 1001) (h : opn p t = true) (hc : cnt (opn p) t = c) : ft p c = t := by
  have lt : c < cnt (opn p) 1001 := by
    have a := cnt_mono (opn p) (show t + 1 ≤ 1001 by omega)
    have e : cnt (opn p) (t + 1) = cnt (opn p) t + (if opn p t = true then 1 else 0) := rfl
    rw [e, if_pos h] at a
    omega
  obtain ⟨n1, n2, n3⟩ := nth_ok (opn p) lt
  exact cnt_inj n2 h (n3.trans hc.symm)
