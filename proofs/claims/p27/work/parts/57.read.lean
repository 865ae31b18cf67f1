/-! ===== each question of the law, by its number ===== -/
theorem gCl {i : Nat} (hi : i < 10) {w : Int32} (h : inR w 0 6) : gCellOf (nI i) w = none := (gCell_p (nI_10 hi)).trans (gRg_p h)
theorem rCl0 {z : kSt} {i : Nat} (hi : i < 10) : rCellOf z (nI i) 0 = nI (unS (sR z i)) := by rw [rCellOf, if_pos (by decide), cN_nI (by omega)]
theorem rCl1 {z : kSt} {i : Nat} (hi : i < 10) : rCellOf z (nI i) 1 = nI (sK z i).2.1 := by rw [rCellOf, if_neg (by decide), if_pos (by decide), cN_nI (by omega)]
theorem rCl2 {z : kSt} {i : Nat} (hi : i < 10) : rCellOf z (nI i) 2 = nI (sK z i).2.2.1 := by rw [rCellOf, if_neg (by decide), if_neg (by decide), if_pos (by decide), cN_nI (by omega)]
theorem rCl3 {z : kSt} {i : Nat} (hi : i < 10) : rCellOf z (nI i) 3 = ldI (sK z i).1 := by rw [rCellOf, if_neg (by decide), if_neg (by decide), if_neg (by decide), if_pos (by decide), cN_nI (by omega)]
theorem rCl4 {z : kSt} {i : Nat} (hi : i < 10) : rCellOf z (nI i) 4 = nI (trvF (sK z) (i + 1) i) := by rw [rCellOf, if_neg (by decide), if_neg (by decide), if_neg (by decide), if_neg (by decide), if_pos (by decide), trvI, cN_nI (by omega)]
theorem rCl5 {z : kSt} {i : Nat} (hi : i < 10) : rCellOf z (nI i) 5 = nI (sK z i).2.2.2.1 := by rw [rCellOf, if_neg (by decide), if_neg (by decide), if_neg (by decide), if_neg (by decide), if_neg (by decide), if_pos (by decide), cN_nI (by omega)]
theorem rCl6 {z : kSt} {i : Nat} (hi : i < 10) : rCellOf z (nI i) 6 = fyS (sR z i) := by rw [rCellOf, if_neg (by decide), if_neg (by decide), if_neg (by decide), if_neg (by decide), if_neg (by decide), if_neg (by decide), cN_nI (by omega)]
theorem rFl0 {z : kSt} : rFlow z 0 = nI (unS (sR z 10)) := by rw [rFlow, if_pos (by decide)]
theorem rFl1 {z : kSt} : rFlow z 1 = nI (niS (sR z 10)) := by rw [rFlow, if_neg (by decide), if_pos (by decide)]
theorem rFl2 {z : kSt} : rFlow z 2 = coS (sR z 10) 0 := by rw [rFlow, if_neg (by decide), if_neg (by decide), if_pos (by decide)]
theorem rFl3 {z : kSt} : rFlow z 3 = olI (sR z 10) := by rw [rFlow, if_neg (by decide), if_neg (by decide), if_neg (by decide)]
theorem gWo {z : kSt} {i : Nat} (hi : i < sWn z) (h6 : sWn z ≤ 6) {w : Int32} (h : inR w 0 3) : gWellOf z (nI i) w = none := (gIx_p ⟨nI_pos' (by omega), nI_lt hi (by omega)⟩).trans (gRg_p h)
theorem rWo0 {z : kSt} {i : Nat} (hi : i < 6) : rWellOf z (nI i) 0 = nI (sW z i).1 := by rw [rWellOf, if_pos (by decide), cN_nI (by omega)]
theorem rWo1 {z : kSt} {i : Nat} (hi : i < 6) : rWellOf z (nI i) 1 = nI (sW z i).2.1 := by rw [rWellOf, if_neg (by decide), if_pos (by decide), cN_nI (by omega)]
theorem rWo2 {z : kSt} {i : Nat} (hi : i < 6) : rWellOf z (nI i) 2 = nI (sW z i).2.2 := by rw [rWellOf, if_neg (by decide), if_neg (by decide), if_pos (by decide), cN_nI (by omega)]
theorem rWo3 {z : kSt} {i : Nat} (hi : i < 6) : rWellOf z (nI i) 3 = nI (rMay z i) := by rw [rWellOf, if_neg (by decide), if_neg (by decide), if_neg (by decide), cN_nI (by omega)]
theorem gLx {z : kSt} {i : Nat} (hi : i < sLn z) (h40 : sLn z ≤ 40) : 0 ≤ nI i ∧ nI i < nI (sLn z) := ⟨nI_pos' (by omega), nI_lt hi (by omega)⟩
theorem gLf {z : kSt} {i : Nat} (hi : i < sLn z) (h40 : sLn z ≤ 40) {w : Int32} (h : inR w 0 10) : gLotOf z (nI i) w = none := (gIx_p (gLx hi h40)).trans (gRg_p h)
theorem rLo0 {z : kSt} {i : Nat} (hi : i < 40) : rLotOf z (nI i) 0 = (nI (sLo z i).1) := by rw [rLotOf, if_pos (by decide), cN_nI (by omega)]
theorem rLo1 {z : kSt} {i : Nat} (hi : i < 40) : rLotOf z (nI i) 1 = (nI (unS (sR z (11 + i)))) := by rw [rLotOf, if_neg (by decide), if_pos (by decide), cN_nI (by omega)]
theorem rLo2 {z : kSt} {i : Nat} (hi : i < 40) : rLotOf z (nI i) 2 = (nI (niS (sR z (11 + i)))) := by rw [rLotOf, if_neg (by decide), if_neg (by decide), if_pos (by decide), cN_nI (by omega)]
theorem rLo3 {z : kSt} {i : Nat} (hi : i < 40) : rLotOf z (nI i) 3 = (nI (sLo z i).2.1) := by rw [rLotOf, if_neg (by decide), if_neg (by decide), if_neg (by decide), if_pos (by decide), cN_nI (by omega)]
theorem rLo4 {z : kSt} {i : Nat} (hi : i < 40) : rLotOf z (nI i) 4 = (coS (sR z (11 + i)) 0) := by rw [rLotOf, if_neg (by decide), if_neg (by decide), if_neg (by decide), if_neg (by decide), if_pos (by decide), cN_nI (by omega)]
theorem rLo5 {z : kSt} {i : Nat} (hi : i < 40) : rLotOf z (nI i) 5 = (nI (sLo z i).2.1 - yoI (sR z (11 + i))) := by rw [rLotOf, if_neg (by decide), if_neg (by decide), if_neg (by decide), if_neg (by decide), if_neg (by decide), if_pos (by decide), cN_nI (by omega)]
theorem rLo6 {z : kSt} {i : Nat} (hi : i < 40) : rLotOf z (nI i) 6 = (nI (sLo z i).2.1 - olI (sR z (11 + i))) := by rw [rLotOf, if_neg (by decide), if_neg (by decide), if_neg (by decide), if_neg (by decide), if_neg (by decide), if_neg (by decide), if_pos (by decide), cN_nI (by omega)]
theorem rLo7 {z : kSt} {i : Nat} (hi : i < 40) : rLotOf z (nI i) 7 = ((sLo z i).2.2.1) := by rw [rLotOf, if_neg (by decide), if_neg (by decide), if_neg (by decide), if_neg (by decide), if_neg (by decide), if_neg (by decide), if_neg (by decide), if_pos (by decide), cN_nI (by omega)]
theorem rLo8 {z : kSt} {i : Nat} (hi : i < 40) : rLotOf z (nI i) 8 = ((sLo z i).2.2.2.1) := by rw [rLotOf, if_neg (by decide), if_neg (by decide), if_neg (by decide), if_neg (by decide), if_neg (by decide), if_neg (by decide), if_neg (by decide), if_neg (by decide), if_pos (by decide), cN_nI (by omega)]
theorem rLo9 {z : kSt} {i : Nat} (hi : i < 40) : rLotOf z (nI i) 9 = (truI (sLo z i).2.2.2.1 (sLo z i).2.2.2.2.1) := by rw [rLotOf, if_neg (by decide), if_neg (by decide), if_neg (by decide), if_neg (by decide), if_neg (by decide), if_neg (by decide), if_neg (by decide), if_neg (by decide), if_neg (by decide), if_pos (by decide), cN_nI (by omega)]
theorem rLo10 {z : kSt} {i : Nat} (hi : i < 40) : rLotOf z (nI i) 10 = (if (sLo z i).2.2.2.2.2 = 0 then 0 else 1) := by rw [rLotOf, if_neg (by decide), if_neg (by decide), if_neg (by decide), if_neg (by decide), if_neg (by decide), if_neg (by decide), if_neg (by decide), if_neg (by decide), if_neg (by decide), if_neg (by decide), cN_nI (by omega)]
theorem rSu0 {z : kSt} : rSum z 0 = nL (sFal z) := by rw [rSum, if_pos (by decide)]
theorem rSu1 {z : kSt} : rSum z 1 = nL (fIn z) := by rw [rSum, if_neg (by decide), if_pos (by decide)]
theorem rSu2 {z : kSt} : rSum z 2 = nL (sSpr z) := by rw [rSum, if_neg (by decide), if_neg (by decide), if_pos (by decide)]
theorem rSu3 {z : kSt} : rSum z 3 = nL (fBot z) := by rw [rSum, if_neg (by decide), if_neg (by decide), if_neg (by decide), if_pos (by decide)]
theorem rSu4 {z : kSt} : rSum z 4 = nL (sPai z) := by rw [rSum, if_neg (by decide), if_neg (by decide), if_neg (by decide), if_neg (by decide), if_pos (by decide)]
theorem rSu5 {z : kSt} : rSum z 5 = nL (sVil z) := by rw [rSum, if_neg (by decide), if_neg (by decide), if_neg (by decide), if_neg (by decide), if_neg (by decide), if_pos (by decide)]
theorem rSu6 {z : kSt} : rSum z 6 = nL (fFal z) := by rw [rSum, if_neg (by decide), if_neg (by decide), if_neg (by decide), if_neg (by decide), if_neg (by decide), if_neg (by decide)]
theorem gBe {z : kSt} {i : Nat} (hi : i < sLn z) (h40 : sLn z ≤ 40) : gBest z (nI i) = none := gIx_p (gLx hi h40)
theorem gAg {z : kSt} {i : Nat} (hi : i < sLn z) (h40 : sLn z ≤ 40) : gAge z (nI i) = none := gIx_p (gLx hi h40)
theorem gFr {z : kSt} {i c : Nat} (hi : i < sLn z) (h40 : sLn z ≤ 40) (hc : c < 10) : gFrom z (nI i) (nI c) = none := (gIx_p (gLx hi h40)).trans (gIx_p (nI_10 hc))
theorem gWh {z : kSt} {i j : Nat} (hi : i < sLn z) (h40 : sLn z ≤ 40) (hj : j < 8) : gWhence z (nI i) (nI j) = none := (gIx_p (gLx hi h40)).trans (gIx_p ⟨nI_pos' (by omega), nI_lt hj (by decide)⟩)
theorem rFr {z : kSt} {i : Nat} (hi : i < 40) {c y : Int32} : rFrom z (nI i) c y = nI (frS c y (sR z (11 + i))) := by rw [rFrom, cN_nI (by omega)]
theorem rWh {z : kSt} {i : Nat} (hi : i < 40) {q : Int32} : rWhence z (nI i) q = whI (eaC (bitI q) (sR z (11 + i)) none) := by rw [rWhence, cN_nI (by omega)]
theorem age_nn {z : kSt} (hs : sOk z) : ∀ i, i < sLn z → vf_n32 (ageF z i) := fun i hi => by
  have h := (hs.2.2.2.1.2 i hi).2.2.2.2.2.2
  exact nn_age h.1 (by omega)
theorem rAg {z : kSt} {i : Nat} (hi : i < 40) : ageF z (cN (nI i)) = ageF z i := by rw [cN_nI (by omega)]
