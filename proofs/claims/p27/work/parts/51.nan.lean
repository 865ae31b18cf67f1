/-! ===== the mean age is a number ===== -/
theorem nn_of {r : UInt32} (h : r.toNat % 2 ^ 31 ≤ 2139095040) : vf_n32 r := by
  unfold vf_n32
  rw [UInt32.le_iff_toNat_le, UInt32.toNat_and]
  show r.toNat &&& 2147483647 ≤ 2139095040
  rw [show 2147483647 = 2 ^ 31 - 1 by decide, Nat.and_two_pow_sub_one_eq_mod]
  exact h

theorem nn_age {a b : Nat} (h1 : 1 ≤ b) (h2 : b < 2 ^ 31) : vf_n32 (FP.fdiv (FP.i2f (nI a)) (FP.i2f (nI b))) := by
  refine nn_of (Nat.le_of_not_lt (fun hx => ?_))
  rcases (FP.Core.fdiv_nan_iff _ _).mp ((FP.Core.isNaN_bits32 _).mpr hx) with h | h | ⟨s, t, h, g⟩ | ⟨h, g⟩
  · obtain ⟨s, x, y, q⟩ := FP.Core.i2f_fin (nI a)
    exact FP.Core.Datum.noConfusion (q.symm.trans h)
  · obtain ⟨s, x, y, q⟩ := FP.Core.i2f_fin (nI b)
    exact FP.Core.Datum.noConfusion (q.symm.trans h)
  · obtain ⟨s, x, y, q⟩ := FP.Core.i2f_fin (nI a)
    exact FP.Core.Datum.noConfusion (q.symm.trans h)
  · exact FP.Core.i2f_ne_zero (v := nI b) (fun q => absurd ((nI_eq h2 (by decide)).mp (q.trans nI_0.symm)) (by omega)) ((FP.Core.zero_bits232 _).mp g)
