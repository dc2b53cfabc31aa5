/-! the whole relation -/
def PV (P : Nat → Nat → Int) (bk : Nat) : Prop := ∀ j, j < bk → VP (P j)
theorem PV.psh {p : Nat → Int} {P : Nat → Nat → Int} {bk : Nat} (hV : VP p) (H : PV P bk) (h8 : bk ≤ 8) : PV (psh p P) (nb bk) := by
  intro j hj
  show VP (if j = 0 then p else P (j - 1))
  unfold nb at hj
  split
  · exact hV
  · split at hj
    · exact H _ (by omega)
    · exact H _ (by omega)
theorem PV.pop {P : Nat → Nat → Int} {bk : Nat} (H : PV P bk) : PV (pop P) (bk - 1) := fun j hj => H (j + 1) (by omega)
theorem RC.re {h h' : XH} {p : Nat → Int} {P : Nat → Nat → Int} {bk : Nat} {T : Nat → Int} {tl : Nat} {fk : Int} (R : RC h p P bk T tl fk) (u : ∀ x, x < 102 → h' x = h x) : RC h' p P bk T tl fk := by
  obtain ⟨N, ⟨nx, H⟩, X, ⟨q, W⟩, C⟩ := R
  exact ⟨N.fr (fun x hx => u x (by omega)), ⟨nx, H.fr (fun x hx => u x (by omega))⟩, X.fr (fun x hx => u x (by omega)), ⟨q, W.fr (fun k hk => u _ (by omega))⟩, C.fr (fun x hx => u x (by omega))⟩
section
variable {h : XH} {Z : Int64} {p : Nat → Int} {P : Nat → Nat → Int} {bk : Nat} {T : Nat → Int} {tl : Nat} {fk : Int}
end
