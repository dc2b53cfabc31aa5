/-! a step of the law -/
theorem xsc_ok {N0 : Nat} {xs : Nat → Int32} {k : Nat} (hN : N0 ≤ 1536) (hk : k < N0) : xsc N0 xs (i32 (k : Nat)) = some (xs k) := by
  unfold xsc
  rw [if_pos (bnd_ok (i := (k : Int)) (n := N0) (by omega) (by omega)), i32_clamp (by omega), Int.toNat_natCast]
