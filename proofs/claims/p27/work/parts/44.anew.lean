def faV (z : kSt) (l c y : Int32) (J : List kJe) (F : kF) : Nat := (fol (cN c) y (11 + cN l) J (emF F)).1
def faC (z : kSt) (l c y : Int32) (J : List kJe) (F : kF) : Nat := if gFrom z l c = none then (fol (cN c) y (11 + cN l) J (emF F)).2 else 0
def faF (l c y : Int32) (J : List kJe) (F : kF) : kF := folF (cN c) y (11 + cN l) J (emF F)
section Anew
variable {l : Launch} {D : va_G} {σ : kS} {aO : Nat} {z : kSt} {J : List kJe} {F : kF}
theorem k147_J : ∀ k, k147 k → kJn k := fun k q => by
  rcases q with q | q | q
  · exact Or.inl q
  · exact Or.inr (Or.inr (Or.inl q))
  · exact Or.inr (Or.inr (Or.inr q))
theorem k147_9 : ∀ k, k147 k → k9F k := fun k q => by
  rcases q with q | q | q <;> subst q <;> exact Or.inl (by decide)
set_option maxHeartbeats 1000000 in
set_option maxRecDepth 100000 in
theorem c_X9_fromAnew (hl : l.stackTraces = false) (hs : sOk z) (h : cl9 D aO z J F σ) {l9 c9 y9 : Int32} (hok : ∀ i fc, i < sLn z → fc < 10 → folK fc y9 (11 + i) J (emF F)) : kMh hX9_fromAnew l D yX9_fromAnew 8 (2 + faC z l9 c9 y9 J F) (12 + 3 * faC z l9 c9 y9 J F) [.ref aO, .int l9, .int c9, .int y9] σ (fun v s2 => gFrom z l9 c9 = none ∧ v = some (.int (nI (faV z l9 c9 y9 J F))) ∧ cl9 D aO z J (faF l9 c9 y9 J F) s2 ∧ kFr k9F σ s2) (fun E => gFrom z l9 c9 = some E) := by
  refine kM_of (L := [some (.ref aO), some (.int l9), some (.int c9), some (.int y9)]) (by decide +kernel) hl (List.forall_mem_cons.mpr ⟨rfl, (List.forall_mem_cons.mpr ⟨rfl, (List.forall_mem_cons.mpr ⟨rfl, (List.forall_mem_cons.mpr ⟨rfl, (fun _ h => absurd h List.not_mem_nil)⟩)⟩)⟩)⟩) (Nat.le_of_ble_eq_true rfl) rfl ?_
  intro p e s m args below meth c B hr hex hnm
  have B : kB p l s m args meth c D (kA σ s.heap.size) 4 cX9_fromAnew RX9 := B
  obtain ⟨cA, wA, lA, aJ, cad, ra, wad, lad, R, h⟩ := h
  have hl40 := hs.2.2.2.1.1
  generalize hPN : faC z l9 c9 y9 J F = PN
  refine k_iload_n B dX9_fromAnew_0 rfl ?_
  refine k_aload_n B dX9_fromAnew_1 rfl (by first | exact kRf_r _ | exact kRf_q _ | exact kRf_n) ?_
  refine gf_X9_177 B dX9_fromAnew_2 h.o rfl ?_
  refine cl_X9_83 B (c_X9_needIndex hl) dX9_fromAnew_5 (by first | exact Nat.le_of_ble_eq_true rfl | omega | (simp only [kR, Value.category, kCat_q, List.map, List.sum_cons, List.sum_nil]; omega)) (by first | exact Nat.le_of_ble_eq_true rfl | omega | (simp only [kR, Value.category, kCat_q, List.map, List.sum_cons, List.sum_nil]; omega)) (by first | exact Nat.le_of_ble_eq_true rfl | omega | (simp only [kR, Value.category, kCat_q, List.map, List.sum_cons, List.sum_nil]; omega)) (by first | exact Nat.le_of_ble_eq_true rfl | omega | (simp only [kR, Value.category, kCat_q, List.map, List.sum_cons, List.sum_nil]; omega)) (by first | exact Nat.le_of_ble_eq_true rfl | omega | (simp only [kR, Value.category, kCat_q, List.map, List.sum_cons, List.sum_nil]; omega)) (fun E hE => k_xout B hex (fun _ _ h => h) (gIx_n hE) (by omega) (by omega)) (fun v5 s5 hp5 => ?_)
  obtain ⟨rfl, e5, g1⟩ := hp5
  rw [e5]
  refine k_iload_n B dX9_fromAnew_8 rfl ?_
  refine k_bipush B (v := 10) dX9_fromAnew_9 (by decide) ?_
  refine cl_X9_83 B (c_X9_needIndex hl) dX9_fromAnew_11 (by first | exact Nat.le_of_ble_eq_true rfl | omega | (simp only [kR, Value.category, kCat_q, List.map, List.sum_cons, List.sum_nil]; omega)) (by first | exact Nat.le_of_ble_eq_true rfl | omega | (simp only [kR, Value.category, kCat_q, List.map, List.sum_cons, List.sum_nil]; omega)) (by first | exact Nat.le_of_ble_eq_true rfl | omega | (simp only [kR, Value.category, kCat_q, List.map, List.sum_cons, List.sum_nil]; omega)) (by first | exact Nat.le_of_ble_eq_true rfl | omega | (simp only [kR, Value.category, kCat_q, List.map, List.sum_cons, List.sum_nil]; omega)) (by first | exact Nat.le_of_ble_eq_true rfl | omega | (simp only [kR, Value.category, kCat_q, List.map, List.sum_cons, List.sum_nil]; omega)) (fun E hE => k_xout B hex (fun _ _ h => h) ((gIx_p g1).trans (gIx_n hE)) (by omega) (by omega)) (fun v11 s11 hp11 => ?_)
  obtain ⟨rfl, e11, g2⟩ := hp11
  rw [e11]
  obtain ⟨i, hi, ei⟩ := ix_of (by omega) g1
  subst ei
  obtain ⟨fc, hfc, efc⟩ := ix_of (n := 10) (by decide) g2
  subst efc
  have hgn : gFrom z (nI i) (nI fc) = none := (gIx_p g1).trans (gIx_p g2)
  have hN : PN = (fol fc y9 (11 + i) J (emF F)).2 := by rw [← hPN, faC, if_pos hgn, cN_nI (by omega), cN_nI (by omega)]
  have hV : faV z (nI i) (nI fc) y9 J F = (fol fc y9 (11 + i) J (emF F)).1 := by rw [faV, cN_nI (by omega), cN_nI (by omega)]
  have hFF : faF (nI i) (nI fc) y9 J F = folF fc y9 (11 + i) J (emF F) := by rw [faF, cN_nI (by omega), cN_nI (by omega)]
  obtain ⟨tk, tad, Jp, j1, j2, j3, j4⟩ := h.j
  have hok2 := hok i fc hi hfc
  subst j4
  obtain ⟨tk9, f9, z9, sp9, hJ9⟩ := h.j.cell
  refine k_aload_n B dX9_fromAnew_14 rfl (by first | exact kRf_r _ | exact kRf_q _ | exact kRf_n) ?_
  refine gf_X9_44 B dX9_fromAnew_15 h.o rfl ?_
  refine k_iload_n B dX9_fromAnew_18 rfl ?_
  refine k_iload_n B dX9_fromAnew_19 rfl ?_
  refine k_bipush B (v := 10) dX9_fromAnew_20 (by decide) ?_
  refine k_iload_n B dX9_fromAnew_22 rfl ?_
  refine k_iadd B dX9_fromAnew_23 ?_
  refine kK.rei (y := nI (11 + i - 1)) (by
    rw [show 11 + i - 1 = 10 + i by omega]
    exact nI_add 10 i) ?_
  refine cl_X9_263 B (c_X1_follow hl (yI := y9) j1 j2 hfc (show 11 ≤ 11 + i by omega) (show 11 + i < 100 by omega) hok2) hJ9 dX9_fromAnew_24 (by first | exact Nat.le_of_ble_eq_true rfl | omega | (simp only [kR, Value.category, kCat_q, List.map, List.sum_cons, List.sum_nil]; omega)) (by first | exact Nat.le_of_ble_eq_true rfl | omega | (simp only [kR, Value.category, kCat_q, List.map, List.sum_cons, List.sum_nil]; omega)) (by first | exact Nat.le_of_ble_eq_true rfl | omega | (simp only [kR, Value.category, kCat_q, List.map, List.sum_cons, List.sum_nil]; omega)) (by first | exact Nat.le_of_ble_eq_true rfl | omega | (simp only [kR, Value.category, kCat_q, List.map, List.sum_cons, List.sum_nil]; omega)) (by first | exact Nat.le_of_ble_eq_true rfl | omega | (simp only [kR, Value.category, kCat_q, List.map, List.sum_cons, List.sum_nil]; omega)) (fun _ hx => hx.elim) (fun v24 s24 hp24 => ?_)
  obtain ⟨rfl, m1, m2⟩ := hp24
  refine kK.rev (y := .int (nI (fol fc y9 (11 + i) (jCon Jp) (emF F)).1)) rfl ?_
  refine k_iret B hr dX9_fromAnew_27 ?_ (by first | exact Nat.le_of_ble_eq_true rfl | omega | (simp only [kR, Value.category, kCat_q, List.map, List.sum_cons, List.sum_nil]; omega)) (by first | exact Nat.le_of_ble_eq_true rfl | omega | (simp only [kR, Value.category, kCat_q, List.map, List.sum_cons, List.sum_nil]; omega))
  refine ⟨hgn, by rw [hV], ⟨cA, wA, lA, aJ, cad, ra, wad, lad, R, ?_⟩, m2.mono k147_9⟩
  rw [hFF]
  refine h.jn ⟨tk, tad, Jp, m1, gSeg_keep j2 (fun b hb e he => ?_), j3, rfl⟩ (m2.mono k147_J)
  obtain ⟨p1, y1, hh⟩ := gSeg_adr j2 hb
  rw [hh] at he
  cases he
  exact m2 _ _ hh (fun q => by rcases q with q | q | q <;> cases q)
end Anew
