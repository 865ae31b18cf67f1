/-! ===== the mean age lies between the least and the greatest ===== -/
theorem two_pos (n : Nat) : 0 < 2 ^ n := Nat.two_pow_pos n
theorem fl_whole {a : Nat} (ha : 1 ≤ a) (h : a ≤ 2 ^ 24) : ∃ c q, FP.Core.val32 (FP.i2f (nI a)) = .fin false c q ∧ FP.Core.fits FP.Core.b32 (.fin false c q) ∧ ∀ N : Nat, 0 ≤ q + N → c * 2 ^ (q + N).toNat = a * 2 ^ N := by
  have h1 : FP.Core.FInt (nI a).toInt (FP.i2f (nI a)) := FP.Core.i2f_int (by rw [nI_toInt (by omega)]; omega)
  rw [nI_toInt (by omega)] at h1
  unfold FP.Core.FInt at h1
  have hf := FP.Core.val32_fits (FP.i2f (nI a))
  cases hv : FP.Core.val32 (FP.i2f (nI a)) with
  | nan => rw [hv] at h1; exact h1.elim
  | inf s => rw [hv] at h1; exact h1.elim
  | fin s c q =>
    rw [hv] at h1 hf
    have h1 : FP.Core.signed s (c * 2 ^ q.toNat) = (a : Int) * ((2 ^ (-q).toNat : Nat) : Int) := h1
    rw [← Int.natCast_mul] at h1
    have hp : 0 < a * 2 ^ (-q).toNat := Nat.mul_pos (by omega) (two_pos _)
    cases s with
    | true =>
      have h1 : -((c * 2 ^ q.toNat : Nat) : Int) = ((a * 2 ^ (-q).toNat : Nat) : Int) := h1
      generalize c * 2 ^ q.toNat = x at h1
      generalize a * 2 ^ (-q).toNat = y at h1 hp
      omega
    | false =>
      have h1 : ((c * 2 ^ q.toNat : Nat) : Int) = ((a * 2 ^ (-q).toNat : Nat) : Int) := h1
      have h2 : c * 2 ^ q.toNat = a * 2 ^ (-q).toNat := Int.ofNat.inj h1
      refine ⟨c, q, rfl, hf, fun N hN => ?_⟩
      by_cases hq : 0 ≤ q
      · rw [show (-q).toNat = 0 by omega, Nat.pow_zero, Nat.mul_one] at h2
        rw [show (q + N).toNat = q.toNat + N by omega, Nat.pow_add, ← Nat.mul_assoc, h2]
      · rw [show q.toNat = 0 by omega, Nat.pow_zero, Nat.mul_one] at h2
        rw [h2, Nat.mul_assoc, ← Nat.pow_add, show (-q).toNat + (q + N).toNat = N by omega]
theorem fl_quo {a b m : Nat} (ha : 1 ≤ a) (ha2 : a ≤ 2 ^ 24) (hb : 1 ≤ b) (hb2 : b ≤ 2 ^ 24) (hm : 1 ≤ m) (hm2 : m ≤ 2 ^ 24) :
    (m * b ≤ a → (FP.fcmp (FP.fdiv (FP.i2f (nI a)) (FP.i2f (nI b))) (FP.i2f (nI m)) = some .gt ∨ FP.fcmp (FP.fdiv (FP.i2f (nI a)) (FP.i2f (nI b))) (FP.i2f (nI m)) = some .eq)) ∧
    (a ≤ m * b → (FP.fcmp (FP.fdiv (FP.i2f (nI a)) (FP.i2f (nI b))) (FP.i2f (nI m)) = some .lt ∨ FP.fcmp (FP.fdiv (FP.i2f (nI a)) (FP.i2f (nI b))) (FP.i2f (nI m)) = some .eq)) := by
  obtain ⟨c, q, e1, f1, w1⟩ := fl_whole ha ha2
  obtain ⟨d, r, e2, f2, w2⟩ := fl_whole hb hb2
  obtain ⟨c', q', e3, f3, w3⟩ := fl_whole hm hm2
  have k1 := w1 2000 (by have := f1.2.1; have : FP.Core.b32.qmin = -149 := by decide +kernel
                         omega)
  have hqm : FP.Core.b32.qmin = -149 := by decide +kernel
  have hqx : FP.Core.b32.qmax = 104 := by decide +kernel
  have g1 := f1.2.1
  have g2 := f2.2.1
  have g3 := f3.2.1
  have x1 := f1.2.2.1
  have x2 := f2.2.2.1
  have x3 := f3.2.2.1
  have hd : d ≠ 0 := fun q0 => by
    have := w2 1000 (by omega)
    rw [q0, Nat.zero_mul] at this
    have := Nat.mul_pos (show 0 < b by omega) (two_pos 1000)
    omega
  have hv : FP.Core.val32 (FP.fdiv (FP.i2f (nI a)) (FP.i2f (nI b))) = FP.Core.roundRatio FP.Core.b32 false c d (q - r) := by
    have h9 : FP.Core.val32 (FP.fdiv (FP.i2f (nI a)) (FP.i2f (nI b))) = FP.Core.quotient FP.Core.b32 (FP.Core.val32 (FP.i2f (nI a))) (FP.Core.val32 (FP.i2f (nI b))) := FP.Core.val32_fdiv _ _
    rw [h9, e1, e2]
    show (if d = 0 then _ else FP.Core.roundRatio FP.Core.b32 (false != false) c d (q - r)) = _
    rw [if_neg hd]
    rfl
  have hnn : FP.Core.val32 (FP.fdiv (FP.i2f (nI a)) (FP.i2f (nI b))) ≠ .nan := by rw [hv]; exact FP.Core.roundRatio_ne_nan _ _ _ _ _
  have hn3 : FP.Core.val32 (FP.i2f (nI m)) ≠ .nan := by rw [e3]; exact FP.Core.Datum.noConfusion
  have hz : FP.Core.zval FP.Core.b32 (FP.Core.val32 (FP.fdiv (FP.i2f (nI a)) (FP.i2f (nI b)))) = (FP.Core.zmag FP.Core.b32 (FP.Core.roundRatio FP.Core.b32 false c d (q - r)) : Int) := by
    rw [hv]
    unfold FP.Core.zval
    rw [FP.Core.sgn_roundRatio]
    rfl
  have hz3 : FP.Core.zval FP.Core.b32 (FP.Core.val32 (FP.i2f (nI m))) = (FP.Core.zmag FP.Core.b32 (.fin false c' q') : Int) := by rw [e3]; rfl
  have key : FP.Core.zmag FP.Core.b32 (.fin false c' q') * 2 ^ (FP.Core.b32.qmin - (-1000)).toNat = c' * 2 ^ (q' + 1000).toNat := by
    show c' * 2 ^ (q' - FP.Core.b32.qmin).toNat * 2 ^ (FP.Core.b32.qmin - (-1000)).toNat = _
    rw [Nat.mul_assoc, ← Nat.pow_add, hqm, show (q' - -149).toNat + (-149 - (-1000) : Int).toNat = (q' + 1000).toNat by omega]
  have hB := two_pos (r + 1000).toNat
  have l1 : c' * 2 ^ (q' + 1000).toNat * d * 2 ^ (r + 1000).toNat = m * b * 2 ^ 2000 := by
    have y3 : c' * 2 ^ (q' + 1000).toNat = m * 2 ^ 1000 := w3 1000 (by omega)
    have y2 : d * 2 ^ (r + 1000).toNat = b * 2 ^ 1000 := w2 1000 (by omega)
    rw [y3, Nat.mul_assoc, y2, show (2000 : Nat) = 1000 + 1000 from rfl, Nat.pow_add]
    generalize 2 ^ 1000 = x
    ac_rfl
  have l2 : FP.Core.inUnits c (q - r) (-1000) * 2 ^ (r + 1000).toNat = a * 2 ^ 2000 := by
    show c * 2 ^ (q - r - (-1000)).toNat * 2 ^ (r + 1000).toNat = _
    rw [Nat.mul_assoc, ← Nat.pow_add, show (q - r - (-1000)).toNat + (r + 1000).toNat = (q + 2000).toNat by omega]
    exact k1
  refine ⟨fun h => FP.Core.fcmp_ge.mpr ⟨hnn, hn3, ?_⟩, fun h => FP.Core.fcmp_le.mpr ⟨hnn, hn3, ?_⟩⟩
  · rw [hz, hz3]
    refine Int.ofNat_le.mpr (FP.Core.zmag_roundRatio_ge FP.Core.good_b32 (e0 := -1000) (by omega) f3 (by omega) (by omega) ?_)
    rw [key]
    refine Nat.le_of_mul_le_mul_right ?_ hB
    rw [l1, l2]
    exact Nat.mul_le_mul_right _ h
  · rw [hz, hz3]
    refine Int.ofNat_le.mpr (FP.Core.zmag_roundRatio_le FP.Core.good_b32 (e0 := -1000) (by omega) f3 FP.Core.Datum.noConfusion (by omega) (by omega) ?_)
    rw [key]
    refine Nat.le_of_mul_le_mul_right ?_ hB
    rw [l1, l2]
    exact Nat.mul_le_mul_right _ h
theorem cmp_lo {r : Option Ordering} (h : r = some .gt ∨ r = some .eq) : ¬ Op.cmpValue r .l < 0 := by
  rcases h with rfl | rfl <;> decide
theorem cmp_hi {r : Option Ordering} (h : r = some .lt ∨ r = some .eq) : ¬ 0 < Op.cmpValue r .g := by
  rcases h with rfl | rfl <;> decide
