section Ops4
variable {l : Launch} {D : va_G} {σ : kS} {aO cA wA lA aJ : Nat} {cad ra wad lad : Nat → Nat} {R : Nat → kPs} {z : kSt} {J : List kJe} {F : kF}
set_option maxRecDepth 100000 in
theorem c_X9_mayTakeStill (hl : l.stackTraces = false) (hs : sOk z) (h : cI D aO cA wA lA aJ cad ra wad lad R z J F σ) {i : Nat} (hi : i < sWn z) : kMh hX9_mayTakeStill l D yX9_mayTakeStill 1 0 0 [.ref aO, .ref (wad i)] σ (fun v s2 => v = some (.int (nI (rMay z i))) ∧ s2 = σ) (fun _ => False) := by
  refine kM_of (L := [some (.ref aO), some (.ref (wad i)), none, none]) (by decide +kernel) hl (List.forall_mem_cons.mpr ⟨rfl, (List.forall_mem_cons.mpr ⟨rfl, (fun _ h => absurd h List.not_mem_nil)⟩)⟩) (Nat.le_of_ble_eq_true rfl) rfl ?_
  intro p e s m args below meth c B hr hex hnm
  have B : kB p l s m args meth c D (kA σ s.heap.size) 4 cX9_mayTakeStill RX9 := B
  have hw := h.w.1 i hi
  have hwk := hs.2.2.1.2 i hi
  have hdr := hs.1.2.2.1
  have hl1 := hs.1.2.2.2
  have hc := h.c (sDr z) hdr
  have hρ := h.row (i := sDr z) (by omega)
  have hu := hs.un (i := sDr z) (by omega)
  have fin : ∀ mm : Nat, rMay z i = mm - (sW z i).2.2 → mm < 2 ^ 30 → kK p l e (kR 1 0 0) s m args below meth c D (kA σ s.heap.size) 4 (kQ below args s D σ (fun v s2 => v = some (.int (nI (rMay z i))) ∧ s2 = σ) (fun _ => False) 0 0) σ 0 0 44 [some (.ref aO), some (.ref (wad i)), some (.int (nI (unS (sR z (sDr z))))), some (.int (nI mm))] [] := by
    intro mm hm hmb
    refine k_iconst B (v := 0) dX9_mayTakeStill_44 (by decide) ?_
    refine k_iload_n B dX9_mayTakeStill_45 rfl ?_
    refine k_aload_n B dX9_mayTakeStill_46 rfl (by first | exact kRf_r _ | exact kRf_q _ | exact kRf_n) ?_
    refine gf_X9_115 B dX9_mayTakeStill_47 hw rfl ?_
    refine k_isub B dX9_mayTakeStill_50 ?_
    refine mm_X9_192 B dX9_mayTakeStill_51 (by first | exact Nat.le_of_ble_eq_true rfl | omega | (simp only [kR, Value.category, kCat_q, List.map, List.sum_cons, List.sum_nil]; omega)) (by first | exact Nat.le_of_ble_eq_true rfl | omega | (simp only [kR, Value.category, kCat_q, List.map, List.sum_cons, List.sum_nil]; omega)) (by first | exact Nat.le_of_ble_eq_true rfl | omega | (simp only [kR, Value.category, kCat_q, List.map, List.sum_cons, List.sum_nil]; omega)) (by first | exact Nat.le_of_ble_eq_true rfl | omega | (simp only [kR, Value.category, kCat_q, List.map, List.sum_cons, List.sum_nil]; omega)) ?_
    have e9 : (if 0 < nI mm - nI (sW z i).2.2 then nI mm - nI (sW z i).2.2 else 0) = nI (rMay z i) := by
      rw [hm]
      by_cases q : (sW z i).2.2 ≤ mm
      · rw [pk_sub q]
        by_cases q2 : 0 < mm - (sW z i).2.2
        · rw [if_pos (by rw [← nI_0]; exact nI_lt q2 (by omega))]
        · rw [show mm - (sW z i).2.2 = 0 by omega]; rfl
      · rw [show mm - (sW z i).2.2 = 0 by omega, nI_0, if_neg]
        intro q2
        have h3 := pc_sub_le (a := mm) (b := (sW z i).2.2) hmb (by have := hwk.2.1; have := hwk.2.2; omega)
        exact i32_lt_nle q2 (h3.mpr (by omega))
    refine kK.rei e9 ?_
    refine k_iret B hr dX9_mayTakeStill_54 ?_ (by first | exact Nat.le_of_ble_eq_true rfl | omega | (simp only [kR, Value.category, kCat_q, List.map, List.sum_cons, List.sum_nil]; omega)) (by first | exact Nat.le_of_ble_eq_true rfl | omega | (simp only [kR, Value.category, kCat_q, List.map, List.sum_cons, List.sum_nil]; omega))
    exact ⟨rfl, rfl⟩
  refine k_aload_n B dX9_mayTakeStill_0 rfl (by first | exact kRf_r _ | exact kRf_q _ | exact kRf_n) ?_
  refine gf_X9_18 B dX9_mayTakeStill_1 h.o rfl ?_
  refine gf_X9_124 B dX9_mayTakeStill_4 hc rfl ?_
  refine gf_X9_142 B dX9_mayTakeStill_7 hρ rfl ?_
  refine k_istore_n B dX9_mayTakeStill_10 (by decide) ?_
  try refine kK.set1 (by first | exact True.intro | rfl | exact kCat_q _) ?_
  refine k_aload_n B dX9_mayTakeStill_11 rfl (by first | exact kRf_r _ | exact kRf_q _ | exact kRf_n) ?_
  refine gf_X9_189 B dX9_mayTakeStill_12 hw rfl ?_
  refine k_istore_n B dX9_mayTakeStill_15 (by decide) ?_
  try refine kK.set1 (by first | exact True.intro | rfl | exact kCat_q _) ?_
  refine k_iload_n B dX9_mayTakeStill_16 rfl ?_
  refine k_aload_n B dX9_mayTakeStill_17 rfl (by first | exact kRf_r _ | exact kRf_q _ | exact kRf_n) ?_
  refine gf_X9_163 B dX9_mayTakeStill_18 h.o rfl ?_
  refine k_icmp_ge B 29 dX9_mayTakeStill_21 (by decide) (fun c21 => ?_) (fun c21 => ?_)
  · rename_i c21
    have n1 : ¬ unS (sR z (sDr z)) < sL2 z := fun q => nI_ge q (by omega) c21
    refine k_iload_n B dX9_mayTakeStill_29 rfl ?_
    refine k_aload_n B dX9_mayTakeStill_30 rfl (by first | exact kRf_r _ | exact kRf_q _ | exact kRf_n) ?_
    refine gf_X9_160 B dX9_mayTakeStill_31 h.o rfl ?_
    refine k_icmp_ge B 44 dX9_mayTakeStill_34 (by decide) (fun c34 => ?_) (fun c34 => ?_)
    · rename_i c34
      have n2 : ¬ unS (sR z (sDr z)) < sL1 z := fun q => nI_ge q (by omega) c34
      exact fin (sW z i).2.1 (by rw [rMay, if_neg n1, if_neg n2]) (by have := hwk.2.1; omega)
    · rename_i c34
      have n2 : unS (sR z (sDr z)) < sL1 z := (nI_ltI (by omega) (by omega)).mp (Int32.not_le.mp c34)
      refine k_aload_n B dX9_mayTakeStill_37 rfl (by first | exact kRf_r _ | exact kRf_q _ | exact kRf_n) ?_
      refine gf_X9_189 B dX9_mayTakeStill_38 hw rfl ?_
      refine k_iconst B (v := 2) dX9_mayTakeStill_41 (by decide) ?_
      refine k_idiv B dX9_mayTakeStill_42 (by decide) ?_
      refine kK.rei (y := nI ((sW z i).2.1 / 2)) (pk_div (d := 2) (by have := hwk.2.1; omega) (by decide) (by decide)) ?_
      refine k_istore_n B dX9_mayTakeStill_43 (by decide) ?_
      try refine kK.set1 (by first | exact True.intro | rfl | exact kCat_q _) ?_
      exact fin ((sW z i).2.1 / 2) (by rw [rMay, if_neg n1, if_pos n2]) (by have := hwk.2.1; omega)
  · rename_i c21
    have n1 : unS (sR z (sDr z)) < sL2 z := (nI_ltI (by omega) (by omega)).mp (Int32.not_le.mp c21)
    refine k_iconst B (v := 0) dX9_mayTakeStill_24 (by decide) ?_
    refine k_istore_n B dX9_mayTakeStill_25 (by decide) ?_
    try refine kK.set1 (by first | exact True.intro | rfl | exact kCat_q _) ?_
    refine k_goto B 44 dX9_mayTakeStill_26 (by decide) ?_
    exact fin 0 (by rw [rMay, if_pos n1]) (by decide)
set_option maxRecDepth 100000 in
theorem c_X9_wellOf (hl : l.stackTraces = false) (hs : sOk z) (h : cl9 D aO z J F σ) {c9 y : Int32} : kMh hX9_wellOf l D yX9_wellOf 8 2 12 [.ref aO, .int c9, .int y] σ (fun v s2 => gWellOf z c9 y = none ∧ v = some (.int (rWellOf z c9 y)) ∧ s2 = σ) (fun E => gWellOf z c9 y = some E) := by
  refine kM_of (L := [some (.ref aO), some (.int c9), some (.int y), none]) (by decide +kernel) hl (List.forall_mem_cons.mpr ⟨rfl, (List.forall_mem_cons.mpr ⟨rfl, (List.forall_mem_cons.mpr ⟨rfl, (fun _ h => absurd h List.not_mem_nil)⟩)⟩)⟩) (Nat.le_of_ble_eq_true rfl) rfl ?_
  intro p e s m args below meth c B hr hex hnm
  have B : kB p l s m args meth c D (kA σ s.heap.size) 4 cX9_wellOf RX9 := B
  obtain ⟨cA, wA, lA, aJ, cad, ra, wad, lad, R, h⟩ := h
  have hw6 := hs.2.2.1.1
  refine k_aload_n B dX9_wellOf_0 rfl (by first | exact kRf_r _ | exact kRf_q _ | exact kRf_n) ?_
  refine k_iload_n B dX9_wellOf_1 rfl ?_
  refine cl_X9_166 B (c_X9_wellAt hl h hw6) h.o dX9_wellOf_2 (by first | exact Nat.le_of_ble_eq_true rfl | omega | (simp only [kR, Value.category, kCat_q, List.map, List.sum_cons, List.sum_nil]; omega)) (by first | exact Nat.le_of_ble_eq_true rfl | omega | (simp only [kR, Value.category, kCat_q, List.map, List.sum_cons, List.sum_nil]; omega)) (by first | exact Nat.le_of_ble_eq_true rfl | omega | (simp only [kR, Value.category, kCat_q, List.map, List.sum_cons, List.sum_nil]; omega)) (by first | exact Nat.le_of_ble_eq_true rfl | omega | (simp only [kR, Value.category, kCat_q, List.map, List.sum_cons, List.sum_nil]; omega)) (by first | exact Nat.le_of_ble_eq_true rfl | omega | (simp only [kR, Value.category, kCat_q, List.map, List.sum_cons, List.sum_nil]; omega)) (fun E hE => k_xout B hex (fun _ _ h => h) (gIx_n hE) (by decide) (by decide)) (fun v2 s2 hp2 => ?_)
  obtain ⟨e2, i, hi, e3, rfl⟩ := hp2
  rw [e2]
  subst e3
  have g1 : 0 ≤ nI i ∧ nI i < nI (sWn z) := ⟨nI_pos' (by omega), nI_lt hi (by omega)⟩
  have hw := h.w.1 i hi
  have hwk := hs.2.2.1.2 i hi
  refine k_astore_n B dX9_wellOf_5 (by decide) (by first | exact kRf_r _ | exact kRf_q _ | exact kRf_n) ?_
  try refine kK.set1 (by first | exact True.intro | rfl | exact kCat_q _) ?_
  refine k_iload_n B dX9_wellOf_6 rfl ?_
  refine k_iconst B (v := 0) dX9_wellOf_7 (by decide) ?_
  refine k_iconst B (v := 3) dX9_wellOf_8 (by decide) ?_
  refine cl_X9_56 B (c_X9_needRange hl) dX9_wellOf_9 (by first | exact Nat.le_of_ble_eq_true rfl | omega | (simp only [kR, Value.category, kCat_q, List.map, List.sum_cons, List.sum_nil]; omega)) (by first | exact Nat.le_of_ble_eq_true rfl | omega | (simp only [kR, Value.category, kCat_q, List.map, List.sum_cons, List.sum_nil]; omega)) (by first | exact Nat.le_of_ble_eq_true rfl | omega | (simp only [kR, Value.category, kCat_q, List.map, List.sum_cons, List.sum_nil]; omega)) (by first | exact Nat.le_of_ble_eq_true rfl | omega | (simp only [kR, Value.category, kCat_q, List.map, List.sum_cons, List.sum_nil]; omega)) (by first | exact Nat.le_of_ble_eq_true rfl | omega | (simp only [kR, Value.category, kCat_q, List.map, List.sum_cons, List.sum_nil]; omega)) (fun E hE => k_xout B hex (fun _ _ h => h) ((gIx_p g1).trans (gRg_n hE)) (by decide) (by decide)) (fun v9 s9 hp9 => ?_)
  obtain ⟨rfl, e9, g2⟩ := hp9
  rw [e9]
  have gg : gWellOf z (nI i) y = none := (gIx_p g1).trans (gRg_p g2)
  obtain ⟨j, hj1, hj2, ej⟩ := inR_of (a := 0) (n := 3) rfl rfl (by decide) (by decide) g2
  subst ej
  have hci : cN (nI i) = i := cN_nI (by omega)
  refine k_iload_n B dX9_wellOf_12 rfl ?_
  rcases (show j = 0 ∨ j = 1 ∨ j = 2 ∨ j = 3 by omega) with q | q | q | q
  · subst q
    refine k_tabIn B 40 dX9_wellOf_13 (by decide) (by decide) (off := 27) (by decide) (by decide) ?_
    refine k_aload_n B dX9_wellOf_40 rfl (by first | exact kRf_r _ | exact kRf_q _ | exact kRf_n) ?_
    refine gf_X9_170 B dX9_wellOf_41 hw rfl ?_
    refine gf_X9_186 B dX9_wellOf_44 (h.c (sW z i).1 hwk.1) rfl ?_
    refine k_iret B hr dX9_wellOf_47 ?_ (by first | exact Nat.le_of_ble_eq_true rfl | omega | (simp only [kR, Value.category, kCat_q, List.map, List.sum_cons, List.sum_nil]; omega)) (by first | exact Nat.le_of_ble_eq_true rfl | omega | (simp only [kR, Value.category, kCat_q, List.map, List.sum_cons, List.sum_nil]; omega))
    exact ⟨gg, (by rw [rWellOf, cN_nI (show 0 < 2 ^ 31 by decide), if_pos rfl, hci]), rfl⟩
  · subst q
    refine k_tabIn B 48 dX9_wellOf_13 (by decide) (by decide) (off := 35) (by decide) (by decide) ?_
    refine k_aload_n B dX9_wellOf_48 rfl (by first | exact kRf_r _ | exact kRf_q _ | exact kRf_n) ?_
    refine gf_X9_189 B dX9_wellOf_49 hw rfl ?_
    refine k_iret B hr dX9_wellOf_52 ?_ (by first | exact Nat.le_of_ble_eq_true rfl | omega | (simp only [kR, Value.category, kCat_q, List.map, List.sum_cons, List.sum_nil]; omega)) (by first | exact Nat.le_of_ble_eq_true rfl | omega | (simp only [kR, Value.category, kCat_q, List.map, List.sum_cons, List.sum_nil]; omega))
    exact ⟨gg, (by rw [rWellOf, cN_nI (show 1 < 2 ^ 31 by decide), if_neg (by decide), if_pos rfl, hci]), rfl⟩
  · subst q
    refine k_tabIn B 53 dX9_wellOf_13 (by decide) (by decide) (off := 40) (by decide) (by decide) ?_
    refine k_aload_n B dX9_wellOf_53 rfl (by first | exact kRf_r _ | exact kRf_q _ | exact kRf_n) ?_
    refine gf_X9_115 B dX9_wellOf_54 hw rfl ?_
    refine k_iret B hr dX9_wellOf_57 ?_ (by first | exact Nat.le_of_ble_eq_true rfl | omega | (simp only [kR, Value.category, kCat_q, List.map, List.sum_cons, List.sum_nil]; omega)) (by first | exact Nat.le_of_ble_eq_true rfl | omega | (simp only [kR, Value.category, kCat_q, List.map, List.sum_cons, List.sum_nil]; omega))
    exact ⟨gg, (by rw [rWellOf, cN_nI (show 2 < 2 ^ 31 by decide), if_neg (by decide), if_neg (by decide), if_pos rfl, hci]), rfl⟩
  · subst q
    refine k_tabOut B 58 dX9_wellOf_13 (by decide) (by decide) ?_
    refine k_aload_n B dX9_wellOf_58 rfl (by first | exact kRf_r _ | exact kRf_q _ | exact kRf_n) ?_
    refine k_aload_n B dX9_wellOf_59 rfl (by first | exact kRf_r _ | exact kRf_q _ | exact kRf_n) ?_
    refine cl_X9_173 B (c_X9_mayTakeStill hl hs h hi) h.o dX9_wellOf_60 (by first | exact Nat.le_of_ble_eq_true rfl | omega | (simp only [kR, Value.category, kCat_q, List.map, List.sum_cons, List.sum_nil]; omega)) (by first | exact Nat.le_of_ble_eq_true rfl | omega | (simp only [kR, Value.category, kCat_q, List.map, List.sum_cons, List.sum_nil]; omega)) (by first | exact Nat.le_of_ble_eq_true rfl | omega | (simp only [kR, Value.category, kCat_q, List.map, List.sum_cons, List.sum_nil]; omega)) (by first | exact Nat.le_of_ble_eq_true rfl | omega | (simp only [kR, Value.category, kCat_q, List.map, List.sum_cons, List.sum_nil]; omega)) (by first | exact Nat.le_of_ble_eq_true rfl | omega | (simp only [kR, Value.category, kCat_q, List.map, List.sum_cons, List.sum_nil]; omega)) (fun _ hx => hx.elim) (fun v60 s60 hp60 => ?_)
    obtain ⟨rfl, e60⟩ := hp60
    rw [e60]
    refine kK.rev (y := .int (nI (rMay z i))) rfl ?_
    refine k_iret B hr dX9_wellOf_63 ?_ (by first | exact Nat.le_of_ble_eq_true rfl | omega | (simp only [kR, Value.category, kCat_q, List.map, List.sum_cons, List.sum_nil]; omega)) (by first | exact Nat.le_of_ble_eq_true rfl | omega | (simp only [kR, Value.category, kCat_q, List.map, List.sum_cons, List.sum_nil]; omega))
    exact ⟨gg, (by rw [rWellOf, cN_nI (show 3 < 2 ^ 31 by decide), if_neg (by decide), if_neg (by decide), if_neg (by decide), hci]), rfl⟩
set_option maxRecDepth 100000 in
theorem c_X9_cellOf (hl : l.stackTraces = false) (hs : sOk z) (h : cl9 D aO z J F σ) {c9 y : Int32} : kMh hX9_cellOf l D yX9_cellOf 8 2 12 [.ref aO, .int c9, .int y] σ (fun v s2 => gCellOf c9 y = none ∧ v = some (.int (rCellOf z c9 y)) ∧ s2 = σ) (fun E => gCellOf c9 y = some E) := by
  refine kM_of (L := [some (.ref aO), some (.int c9), some (.int y), none]) (by decide +kernel) hl (List.forall_mem_cons.mpr ⟨rfl, (List.forall_mem_cons.mpr ⟨rfl, (List.forall_mem_cons.mpr ⟨rfl, (fun _ h => absurd h List.not_mem_nil)⟩)⟩)⟩) (Nat.le_of_ble_eq_true rfl) rfl ?_
  intro p e s m args below meth c B hr hex hnm
  have B : kB p l s m args meth c D (kA σ s.heap.size) 4 cX9_cellOf RX9 := B
  obtain ⟨cA, wA, lA, aJ, cad, ra, wad, lad, R, h⟩ := h
  refine k_aload_n B dX9_cellOf_0 rfl (by first | exact kRf_r _ | exact kRf_q _ | exact kRf_n) ?_
  refine k_iload_n B dX9_cellOf_1 rfl ?_
  refine cl_X9_52 B (c_X9_cellAt hl h) h.o dX9_cellOf_2 (by first | exact Nat.le_of_ble_eq_true rfl | omega | (simp only [kR, Value.category, kCat_q, List.map, List.sum_cons, List.sum_nil]; omega)) (by first | exact Nat.le_of_ble_eq_true rfl | omega | (simp only [kR, Value.category, kCat_q, List.map, List.sum_cons, List.sum_nil]; omega)) (by first | exact Nat.le_of_ble_eq_true rfl | omega | (simp only [kR, Value.category, kCat_q, List.map, List.sum_cons, List.sum_nil]; omega)) (by first | exact Nat.le_of_ble_eq_true rfl | omega | (simp only [kR, Value.category, kCat_q, List.map, List.sum_cons, List.sum_nil]; omega)) (by first | exact Nat.le_of_ble_eq_true rfl | omega | (simp only [kR, Value.category, kCat_q, List.map, List.sum_cons, List.sum_nil]; omega)) (fun E hE => k_xout B hex (fun _ _ h => h) (gCell_n hE) (by decide) (by decide)) (fun v2 s2 hp2 => ?_)
  obtain ⟨e2, i, hi, e3, rfl⟩ := hp2
  rw [e2]
  subst e3
  have g1 := nI_10 hi
  have hc := h.c i hi
  have hρ := h.row (i := i) (by omega)
  have hch := h.ch (i := i) (by omega)
  have hcon : kCon (R i) = sR z i := h.rc i (by omega)
  have hd : ∀ d, (sK z i).1 = some d → ∃ K2, σ (cad d) = some (cE cad ra d K2) := fun d hd => ⟨_, h.c d (by have := (hs.2.1 i hi).1 d hd; omega)⟩
  refine k_astore_n B dX9_cellOf_5 (by decide) (by first | exact kRf_r _ | exact kRf_q _ | exact kRf_n) ?_
  try refine kK.set1 (by first | exact True.intro | rfl | exact kCat_q _) ?_
  refine k_iload_n B dX9_cellOf_6 rfl ?_
  refine k_iconst B (v := 0) dX9_cellOf_7 (by decide) ?_
  refine k_bipush B (v := 6) dX9_cellOf_8 (by decide) ?_
  refine cl_X9_56 B (c_X9_needRange hl) dX9_cellOf_10 (by first | exact Nat.le_of_ble_eq_true rfl | omega | (simp only [kR, Value.category, kCat_q, List.map, List.sum_cons, List.sum_nil]; omega)) (by first | exact Nat.le_of_ble_eq_true rfl | omega | (simp only [kR, Value.category, kCat_q, List.map, List.sum_cons, List.sum_nil]; omega)) (by first | exact Nat.le_of_ble_eq_true rfl | omega | (simp only [kR, Value.category, kCat_q, List.map, List.sum_cons, List.sum_nil]; omega)) (by first | exact Nat.le_of_ble_eq_true rfl | omega | (simp only [kR, Value.category, kCat_q, List.map, List.sum_cons, List.sum_nil]; omega)) (by first | exact Nat.le_of_ble_eq_true rfl | omega | (simp only [kR, Value.category, kCat_q, List.map, List.sum_cons, List.sum_nil]; omega)) (fun E hE => k_xout B hex (fun _ _ h => h) ((gCell_p g1).trans (gRg_n hE)) (by decide) (by decide)) (fun v10 s10 hp10 => ?_)
  obtain ⟨rfl, e10, g2⟩ := hp10
  rw [e10]
  have gg : gCellOf (nI i) y = none := (gCell_p g1).trans (gRg_p g2)
  obtain ⟨j, hj1, hj2, ej⟩ := inR_of (a := 0) (n := 6) rfl rfl (by decide) (by decide) g2
  subst ej
  have hci : cN (nI i) = i := cN_nI (by omega)
  refine k_iload_n B dX9_cellOf_13 rfl ?_
  rcases (show j = 0 ∨ j = 1 ∨ j = 2 ∨ j = 3 ∨ j = 4 ∨ j = 5 ∨ j = 6 by omega) with q | q | q | q | q | q | q
  · subst q
    refine k_tabIn B 52 dX9_cellOf_14 (by decide) (by decide) (off := 38) (by decide) (by decide) ?_
    refine k_aload_n B dX9_cellOf_52 rfl (by first | exact kRf_r _ | exact kRf_q _ | exact kRf_n) ?_
    refine gf_X9_124 B dX9_cellOf_53 hc rfl ?_
    refine gf_X9_142 B dX9_cellOf_56 hρ rfl ?_
    refine k_iret B hr dX9_cellOf_59 ?_ (by first | exact Nat.le_of_ble_eq_true rfl | omega | (simp only [kR, Value.category, kCat_q, List.map, List.sum_cons, List.sum_nil]; omega)) (by first | exact Nat.le_of_ble_eq_true rfl | omega | (simp only [kR, Value.category, kCat_q, List.map, List.sum_cons, List.sum_nil]; omega))
    exact ⟨gg, (by rw [rCellOf, cN_nI (show 0 < 2 ^ 31 by decide), if_pos rfl, hci]), rfl⟩
  · subst q
    refine k_tabIn B 60 dX9_cellOf_14 (by decide) (by decide) (off := 46) (by decide) (by decide) ?_
    refine k_aload_n B dX9_cellOf_60 rfl (by first | exact kRf_r _ | exact kRf_q _ | exact kRf_n) ?_
    refine gf_X9_60 B dX9_cellOf_61 hc rfl ?_
    refine k_iret B hr dX9_cellOf_64 ?_ (by first | exact Nat.le_of_ble_eq_true rfl | omega | (simp only [kR, Value.category, kCat_q, List.map, List.sum_cons, List.sum_nil]; omega)) (by first | exact Nat.le_of_ble_eq_true rfl | omega | (simp only [kR, Value.category, kCat_q, List.map, List.sum_cons, List.sum_nil]; omega))
    exact ⟨gg, (by rw [rCellOf, cN_nI (show 1 < 2 ^ 31 by decide), if_neg (by decide), if_pos rfl, hci]), rfl⟩
  · subst q
    refine k_tabIn B 65 dX9_cellOf_14 (by decide) (by decide) (off := 51) (by decide) (by decide) ?_
    refine k_aload_n B dX9_cellOf_65 rfl (by first | exact kRf_r _ | exact kRf_q _ | exact kRf_n) ?_
    refine gf_X9_70 B dX9_cellOf_66 hc rfl ?_
    refine k_iret B hr dX9_cellOf_69 ?_ (by first | exact Nat.le_of_ble_eq_true rfl | omega | (simp only [kR, Value.category, kCat_q, List.map, List.sum_cons, List.sum_nil]; omega)) (by first | exact Nat.le_of_ble_eq_true rfl | omega | (simp only [kR, Value.category, kCat_q, List.map, List.sum_cons, List.sum_nil]; omega))
    exact ⟨gg, (by rw [rCellOf, cN_nI (show 2 < 2 ^ 31 by decide), if_neg (by decide), if_neg (by decide), if_pos rfl, hci]), rfl⟩
  · subst q
    refine k_tabIn B 70 dX9_cellOf_14 (by decide) (by decide) (off := 56) (by decide) (by decide) ?_
    refine k_aload_n B dX9_cellOf_70 rfl (by first | exact kRf_r _ | exact kRf_q _ | exact kRf_n) ?_
    refine cl_X9_76 B (c_X0_leadsTo hl hc hd) hc dX9_cellOf_71 (by first | exact Nat.le_of_ble_eq_true rfl | omega | (simp only [kR, Value.category, kCat_q, List.map, List.sum_cons, List.sum_nil]; omega)) (by first | exact Nat.le_of_ble_eq_true rfl | omega | (simp only [kR, Value.category, kCat_q, List.map, List.sum_cons, List.sum_nil]; omega)) (by first | exact Nat.le_of_ble_eq_true rfl | omega | (simp only [kR, Value.category, kCat_q, List.map, List.sum_cons, List.sum_nil]; omega)) (by first | exact Nat.le_of_ble_eq_true rfl | omega | (simp only [kR, Value.category, kCat_q, List.map, List.sum_cons, List.sum_nil]; omega)) (by first | exact Nat.le_of_ble_eq_true rfl | omega | (simp only [kR, Value.category, kCat_q, List.map, List.sum_cons, List.sum_nil]; omega)) (fun _ hx => hx.elim) (fun v71 s71 hp71 => ?_)
    obtain ⟨rfl, e71⟩ := hp71
    rw [e71]
    refine kK.rev (y := .int (ldI (sK z i).1)) rfl ?_
    refine k_iret B hr dX9_cellOf_74 ?_ (by first | exact Nat.le_of_ble_eq_true rfl | omega | (simp only [kR, Value.category, kCat_q, List.map, List.sum_cons, List.sum_nil]; omega)) (by first | exact Nat.le_of_ble_eq_true rfl | omega | (simp only [kR, Value.category, kCat_q, List.map, List.sum_cons, List.sum_nil]; omega))
    exact ⟨gg, (by rw [rCellOf, cN_nI (show 3 < 2 ^ 31 by decide), if_neg (by decide), if_neg (by decide), if_neg (by decide), if_pos rfl, hci]), rfl⟩
  · subst q
    refine k_tabIn B 75 dX9_cellOf_14 (by decide) (by decide) (off := 61) (by decide) (by decide) ?_
    refine k_aload_n B dX9_cellOf_75 rfl (by first | exact kRf_r _ | exact kRf_q _ | exact kRf_n) ?_
    refine cl_X9_87 B (c_X0_travel hl (KK := sK z) h.c (fun a d ha hd => (hs.2.1 a ha).1 d hd) hi) hc dX9_cellOf_76 (by first | exact Nat.le_of_ble_eq_true rfl | omega | (simp only [kR, Value.category, kCat_q, List.map, List.sum_cons, List.sum_nil]; omega)) (by first | exact Nat.le_of_ble_eq_true rfl | omega | (simp only [kR, Value.category, kCat_q, List.map, List.sum_cons, List.sum_nil]; omega)) (by first | exact Nat.le_of_ble_eq_true rfl | omega | (simp only [kR, Value.category, kCat_q, List.map, List.sum_cons, List.sum_nil]; omega)) (by first | exact Nat.le_of_ble_eq_true rfl | omega | (simp only [kR, Value.category, kCat_q, List.map, List.sum_cons, List.sum_nil]; omega)) (by first | exact Nat.le_of_ble_eq_true rfl | omega | (simp only [kR, Value.category, kCat_q, List.map, List.sum_cons, List.sum_nil]; omega)) (fun _ hx => hx.elim) (fun v76 s76 hp76 => ?_)
    obtain ⟨rfl, e76⟩ := hp76
    rw [e76]
    refine kK.rev (y := .int (nI (trvF (sK z) (i + 1) i))) rfl ?_
    refine k_iret B hr dX9_cellOf_79 ?_ (by first | exact Nat.le_of_ble_eq_true rfl | omega | (simp only [kR, Value.category, kCat_q, List.map, List.sum_cons, List.sum_nil]; omega)) (by first | exact Nat.le_of_ble_eq_true rfl | omega | (simp only [kR, Value.category, kCat_q, List.map, List.sum_cons, List.sum_nil]; omega))
    exact ⟨gg, (by rw [rCellOf, cN_nI (show 4 < 2 ^ 31 by decide), if_neg (by decide), if_neg (by decide), if_neg (by decide), if_neg (by decide), if_pos rfl, trvI, hci]), rfl⟩
  · subst q
    refine k_tabIn B 80 dX9_cellOf_14 (by decide) (by decide) (off := 66) (by decide) (by decide) ?_
    refine k_aload_n B dX9_cellOf_80 rfl (by first | exact kRf_r _ | exact kRf_q _ | exact kRf_n) ?_
    refine gf_X9_63 B dX9_cellOf_81 hc rfl ?_
    refine k_iret B hr dX9_cellOf_84 ?_ (by first | exact Nat.le_of_ble_eq_true rfl | omega | (simp only [kR, Value.category, kCat_q, List.map, List.sum_cons, List.sum_nil]; omega)) (by first | exact Nat.le_of_ble_eq_true rfl | omega | (simp only [kR, Value.category, kCat_q, List.map, List.sum_cons, List.sum_nil]; omega))
    exact ⟨gg, (by rw [rCellOf, cN_nI (show 5 < 2 ^ 31 by decide), if_neg (by decide), if_neg (by decide), if_neg (by decide), if_neg (by decide), if_neg (by decide), if_pos rfl, hci]), rfl⟩
  · subst q
    refine k_tabOut B 85 dX9_cellOf_14 (by decide) (by decide) ?_
    refine k_aload_n B dX9_cellOf_85 rfl (by first | exact kRf_r _ | exact kRf_q _ | exact kRf_n) ?_
    refine gf_X9_124 B dX9_cellOf_86 hc rfl ?_
    refine cl_X9_226 B (c_X6_frontYear hl hρ hch) hρ dX9_cellOf_89 (by first | exact Nat.le_of_ble_eq_true rfl | omega | (simp only [kR, Value.category, kCat_q, List.map, List.sum_cons, List.sum_nil]; omega)) (by first | exact Nat.le_of_ble_eq_true rfl | omega | (simp only [kR, Value.category, kCat_q, List.map, List.sum_cons, List.sum_nil]; omega)) (by first | exact Nat.le_of_ble_eq_true rfl | omega | (simp only [kR, Value.category, kCat_q, List.map, List.sum_cons, List.sum_nil]; omega)) (by first | exact Nat.le_of_ble_eq_true rfl | omega | (simp only [kR, Value.category, kCat_q, List.map, List.sum_cons, List.sum_nil]; omega)) (by first | exact Nat.le_of_ble_eq_true rfl | omega | (simp only [kR, Value.category, kCat_q, List.map, List.sum_cons, List.sum_nil]; omega)) (fun _ hx => hx.elim) (fun v89 s89 hp89 => ?_)
    obtain ⟨rfl, e89⟩ := hp89
    rw [e89]
    refine kK.rev (y := .int (fyS (kCon (R i)))) rfl ?_
    refine k_iret B hr dX9_cellOf_92 ?_ (by first | exact Nat.le_of_ble_eq_true rfl | omega | (simp only [kR, Value.category, kCat_q, List.map, List.sum_cons, List.sum_nil]; omega)) (by first | exact Nat.le_of_ble_eq_true rfl | omega | (simp only [kR, Value.category, kCat_q, List.map, List.sum_cons, List.sum_nil]; omega))
    exact ⟨gg, (by rw [rCellOf, cN_nI (show 6 < 2 ^ 31 by decide), if_neg (by decide), if_neg (by decide), if_neg (by decide), if_neg (by decide), if_neg (by decide), if_neg (by decide), hci, hcon]), rfl⟩
set_option maxRecDepth 100000 in
theorem c_X9_flow (hl : l.stackTraces = false) (hs : sOk z) (h : cl9 D aO z J F σ) {y : Int32} : kMh hX9_flow l D yX9_flow 8 1 6 [.ref aO, .int y] σ (fun v s2 => gFlow y = none ∧ v = some (.int (rFlow z y)) ∧ s2 = σ) (fun E => gFlow y = some E) := by
  refine kM_of (L := [some (.ref aO), some (.int y)]) (by decide +kernel) hl (List.forall_mem_cons.mpr ⟨rfl, (List.forall_mem_cons.mpr ⟨rfl, (fun _ h => absurd h List.not_mem_nil)⟩)⟩) (Nat.le_of_ble_eq_true rfl) rfl ?_
  intro p e s m args below meth c B hr hex hnm
  have B : kB p l s m args meth c D (kA σ s.heap.size) 2 cX9_flow RX9 := B
  obtain ⟨cA, wA, lA, aJ, cad, ra, wad, lad, R, h⟩ := h
  have hρ := h.row (i := 10) (by omega)
  have hch := h.ch (i := 10) (by omega)
  have hcon : kCon (R 10) = sR z 10 := h.rc 10 (by omega)
  have hyr := h.yr hs (i := 10) (by omega)
  refine k_iload_n B dX9_flow_0 rfl ?_
  refine k_iconst B (v := 0) dX9_flow_1 (by decide) ?_
  refine k_iconst B (v := 3) dX9_flow_2 (by decide) ?_
  refine cl_X9_56 B (c_X9_needRange hl) dX9_flow_3 (by first | exact Nat.le_of_ble_eq_true rfl | omega | (simp only [kR, Value.category, kCat_q, List.map, List.sum_cons, List.sum_nil]; omega)) (by first | exact Nat.le_of_ble_eq_true rfl | omega | (simp only [kR, Value.category, kCat_q, List.map, List.sum_cons, List.sum_nil]; omega)) (by first | exact Nat.le_of_ble_eq_true rfl | omega | (simp only [kR, Value.category, kCat_q, List.map, List.sum_cons, List.sum_nil]; omega)) (by first | exact Nat.le_of_ble_eq_true rfl | omega | (simp only [kR, Value.category, kCat_q, List.map, List.sum_cons, List.sum_nil]; omega)) (by first | exact Nat.le_of_ble_eq_true rfl | omega | (simp only [kR, Value.category, kCat_q, List.map, List.sum_cons, List.sum_nil]; omega)) (fun E hE => k_xout B hex (fun _ _ h => h) (gRg_n hE) (by decide) (by decide)) (fun v3 s3 hp3 => ?_)
  obtain ⟨rfl, e3, g2⟩ := hp3
  rw [e3]
  have gg : gFlow y = none := gRg_p g2
  obtain ⟨j, hj1, hj2, ej⟩ := inR_of (a := 0) (n := 3) rfl rfl (by decide) (by decide) g2
  subst ej
  have hci : cN (nI 0) = 0 := cN_nI (by decide)
  refine k_iload_n B dX9_flow_6 rfl ?_
  rcases (show j = 0 ∨ j = 1 ∨ j = 2 ∨ j = 3 by omega) with q | q | q | q
  · subst q
    refine k_tabIn B 32 dX9_flow_7 (by decide) (by decide) (off := 25) (by decide) (by decide) ?_
    refine k_aload_n B dX9_flow_32 rfl (by first | exact kRf_r _ | exact kRf_q _ | exact kRf_n) ?_
    refine gf_X9_37 B dX9_flow_33 h.o rfl ?_
    refine gf_X9_142 B dX9_flow_36 hρ rfl ?_
    refine k_iret B hr dX9_flow_39 ?_ (by first | exact Nat.le_of_ble_eq_true rfl | omega | (simp only [kR, Value.category, kCat_q, List.map, List.sum_cons, List.sum_nil]; omega)) (by first | exact Nat.le_of_ble_eq_true rfl | omega | (simp only [kR, Value.category, kCat_q, List.map, List.sum_cons, List.sum_nil]; omega))
    exact ⟨gg, (by rw [rFlow, cN_nI (show 0 < 2 ^ 31 by decide), if_pos rfl]), rfl⟩
  · subst q
    refine k_tabIn B 40 dX9_flow_7 (by decide) (by decide) (off := 33) (by decide) (by decide) ?_
    refine k_aload_n B dX9_flow_40 rfl (by first | exact kRf_r _ | exact kRf_q _ | exact kRf_n) ?_
    refine gf_X9_37 B dX9_flow_41 h.o rfl ?_
    refine cl_X9_229 B (c_X6_nitrate hl hρ hch) hρ dX9_flow_44 (by first | exact Nat.le_of_ble_eq_true rfl | omega | (simp only [kR, Value.category, kCat_q, List.map, List.sum_cons, List.sum_nil]; omega)) (by first | exact Nat.le_of_ble_eq_true rfl | omega | (simp only [kR, Value.category, kCat_q, List.map, List.sum_cons, List.sum_nil]; omega)) (by first | exact Nat.le_of_ble_eq_true rfl | omega | (simp only [kR, Value.category, kCat_q, List.map, List.sum_cons, List.sum_nil]; omega)) (by first | exact Nat.le_of_ble_eq_true rfl | omega | (simp only [kR, Value.category, kCat_q, List.map, List.sum_cons, List.sum_nil]; omega)) (by first | exact Nat.le_of_ble_eq_true rfl | omega | (simp only [kR, Value.category, kCat_q, List.map, List.sum_cons, List.sum_nil]; omega)) (fun _ hx => hx.elim) (fun v44 s44 hp44 => ?_)
    obtain ⟨rfl, e44⟩ := hp44
    rw [e44]
    refine kK.rev (y := .int (nI (niS (kCon (R 10))))) rfl ?_
    refine k_iret B hr dX9_flow_47 ?_ (by first | exact Nat.le_of_ble_eq_true rfl | omega | (simp only [kR, Value.category, kCat_q, List.map, List.sum_cons, List.sum_nil]; omega)) (by first | exact Nat.le_of_ble_eq_true rfl | omega | (simp only [kR, Value.category, kCat_q, List.map, List.sum_cons, List.sum_nil]; omega))
    exact ⟨gg, (by rw [rFlow, cN_nI (show 1 < 2 ^ 31 by decide), if_neg (by decide), if_pos rfl, hcon]), rfl⟩
  · subst q
    refine k_tabIn B 48 dX9_flow_7 (by decide) (by decide) (off := 41) (by decide) (by decide) ?_
    refine k_aload_n B dX9_flow_48 rfl (by first | exact kRf_r _ | exact kRf_q _ | exact kRf_n) ?_
    refine gf_X9_37 B dX9_flow_49 h.o rfl ?_
    refine cl_X9_232 B (c_X6_compounds hl hρ hch) hρ dX9_flow_52 (by first | exact Nat.le_of_ble_eq_true rfl | omega | (simp only [kR, Value.category, kCat_q, List.map, List.sum_cons, List.sum_nil]; omega)) (by first | exact Nat.le_of_ble_eq_true rfl | omega | (simp only [kR, Value.category, kCat_q, List.map, List.sum_cons, List.sum_nil]; omega)) (by first | exact Nat.le_of_ble_eq_true rfl | omega | (simp only [kR, Value.category, kCat_q, List.map, List.sum_cons, List.sum_nil]; omega)) (by first | exact Nat.le_of_ble_eq_true rfl | omega | (simp only [kR, Value.category, kCat_q, List.map, List.sum_cons, List.sum_nil]; omega)) (by first | exact Nat.le_of_ble_eq_true rfl | omega | (simp only [kR, Value.category, kCat_q, List.map, List.sum_cons, List.sum_nil]; omega)) (fun _ hx => hx.elim) (fun v52 s52 hp52 => ?_)
    obtain ⟨rfl, e52⟩ := hp52
    rw [e52]
    refine kK.rev (y := .int (coS (kCon (R 10)) 0)) rfl ?_
    refine k_iret B hr dX9_flow_55 ?_ (by first | exact Nat.le_of_ble_eq_true rfl | omega | (simp only [kR, Value.category, kCat_q, List.map, List.sum_cons, List.sum_nil]; omega)) (by first | exact Nat.le_of_ble_eq_true rfl | omega | (simp only [kR, Value.category, kCat_q, List.map, List.sum_cons, List.sum_nil]; omega))
    exact ⟨gg, (by rw [rFlow, cN_nI (show 2 < 2 ^ 31 by decide), if_neg (by decide), if_neg (by decide), if_pos rfl, hcon]), rfl⟩
  · subst q
    refine k_tabOut B 56 dX9_flow_7 (by decide) (by decide) ?_
    refine k_aload_n B dX9_flow_56 rfl (by first | exact kRf_r _ | exact kRf_q _ | exact kRf_n) ?_
    refine gf_X9_37 B dX9_flow_57 h.o rfl ?_
    refine cl_X9_235 B (c_X6_oldest hl hρ hch (fun q hq => (hyr q hq).1)) hρ dX9_flow_60 (by first | exact Nat.le_of_ble_eq_true rfl | omega | (simp only [kR, Value.category, kCat_q, List.map, List.sum_cons, List.sum_nil]; omega)) (by first | exact Nat.le_of_ble_eq_true rfl | omega | (simp only [kR, Value.category, kCat_q, List.map, List.sum_cons, List.sum_nil]; omega)) (by first | exact Nat.le_of_ble_eq_true rfl | omega | (simp only [kR, Value.category, kCat_q, List.map, List.sum_cons, List.sum_nil]; omega)) (by first | exact Nat.le_of_ble_eq_true rfl | omega | (simp only [kR, Value.category, kCat_q, List.map, List.sum_cons, List.sum_nil]; omega)) (by first | exact Nat.le_of_ble_eq_true rfl | omega | (simp only [kR, Value.category, kCat_q, List.map, List.sum_cons, List.sum_nil]; omega)) (fun _ hx => hx.elim) (fun v60 s60 hp60 => ?_)
    obtain ⟨rfl, e60⟩ := hp60
    rw [e60]
    refine kK.rev (y := .int (olI (kCon (R 10)))) (by cases kCon (R 10) <;> rfl) ?_
    refine k_iret B hr dX9_flow_63 ?_ (by first | exact Nat.le_of_ble_eq_true rfl | omega | (simp only [kR, Value.category, kCat_q, List.map, List.sum_cons, List.sum_nil]; omega)) (by first | exact Nat.le_of_ble_eq_true rfl | omega | (simp only [kR, Value.category, kCat_q, List.map, List.sum_cons, List.sum_nil]; omega))
    exact ⟨gg, (by rw [rFlow, cN_nI (show 3 < 2 ^ 31 by decide), if_neg (by decide), if_neg (by decide), if_neg (by decide), hcon]), rfl⟩
set_option maxRecDepth 100000 in
theorem c_X9_lotOf (hl : l.stackTraces = false) (hs : sOk z) (h : cl9 D aO z J F σ) {c9 y : Int32} : kMh hX9_lotOf l D yX9_lotOf 8 2 12 [.ref aO, .int c9, .int y] σ (fun v s2 => gLotOf z c9 y = none ∧ v = some (.int (rLotOf z c9 y)) ∧ s2 = σ) (fun E => gLotOf z c9 y = some E) := by
  refine kM_of (L := [some (.ref aO), some (.int c9), some (.int y), none]) (by decide +kernel) hl (List.forall_mem_cons.mpr ⟨rfl, (List.forall_mem_cons.mpr ⟨rfl, (List.forall_mem_cons.mpr ⟨rfl, (fun _ h => absurd h List.not_mem_nil)⟩)⟩)⟩) (Nat.le_of_ble_eq_true rfl) rfl ?_
  intro p e s m args below meth c B hr hex hnm
  have B : kB p l s m args meth c D (kA σ s.heap.size) 4 cX9_lotOf RX9 := B
  obtain ⟨cA, wA, lA, aJ, cad, ra, wad, lad, R, h⟩ := h
  have hl40 := hs.2.2.2.1.1
  refine k_aload_n B dX9_lotOf_0 rfl (by first | exact kRf_r _ | exact kRf_q _ | exact kRf_n) ?_
  refine k_iload_n B dX9_lotOf_1 rfl ?_
  refine cl_X9_198 B (c_X9_lotAt hl h hl40) h.o dX9_lotOf_2 (by first | exact Nat.le_of_ble_eq_true rfl | omega | (simp only [kR, Value.category, kCat_q, List.map, List.sum_cons, List.sum_nil]; omega)) (by first | exact Nat.le_of_ble_eq_true rfl | omega | (simp only [kR, Value.category, kCat_q, List.map, List.sum_cons, List.sum_nil]; omega)) (by first | exact Nat.le_of_ble_eq_true rfl | omega | (simp only [kR, Value.category, kCat_q, List.map, List.sum_cons, List.sum_nil]; omega)) (by first | exact Nat.le_of_ble_eq_true rfl | omega | (simp only [kR, Value.category, kCat_q, List.map, List.sum_cons, List.sum_nil]; omega)) (by first | exact Nat.le_of_ble_eq_true rfl | omega | (simp only [kR, Value.category, kCat_q, List.map, List.sum_cons, List.sum_nil]; omega)) (fun E hE => k_xout B hex (fun _ _ h => h) (gIx_n hE) (by decide) (by decide)) (fun v2 s2 hp2 => ?_)
  obtain ⟨e2, i, hi, e3, rfl⟩ := hp2
  rw [e2]
  subst e3
  have g1 : 0 ≤ nI i ∧ nI i < nI (sLn z) := ⟨nI_pos' (by omega), nI_lt hi (by omega)⟩
  have ha := h.lo.1 i hi
  have hρ := h.row (i := 11 + i) (by omega)
  have hch := h.ch (i := 11 + i) (by omega)
  have hcon : kCon (R (11 + i)) = sR z (11 + i) := h.rc (11 + i) (by omega)
  have hyr := h.yr hs (i := 11 + i) (by omega)
  have hlt := hs.2.2.2.1.2 i hi
  refine k_astore_n B dX9_lotOf_5 (by decide) (by first | exact kRf_r _ | exact kRf_q _ | exact kRf_n) ?_
  try refine kK.set1 (by first | exact True.intro | rfl | exact kCat_q _) ?_
  refine k_iload_n B dX9_lotOf_6 rfl ?_
  refine k_iconst B (v := 0) dX9_lotOf_7 (by decide) ?_
  refine k_bipush B (v := 10) dX9_lotOf_8 (by decide) ?_
  refine cl_X9_56 B (c_X9_needRange hl) dX9_lotOf_10 (by first | exact Nat.le_of_ble_eq_true rfl | omega | (simp only [kR, Value.category, kCat_q, List.map, List.sum_cons, List.sum_nil]; omega)) (by first | exact Nat.le_of_ble_eq_true rfl | omega | (simp only [kR, Value.category, kCat_q, List.map, List.sum_cons, List.sum_nil]; omega)) (by first | exact Nat.le_of_ble_eq_true rfl | omega | (simp only [kR, Value.category, kCat_q, List.map, List.sum_cons, List.sum_nil]; omega)) (by first | exact Nat.le_of_ble_eq_true rfl | omega | (simp only [kR, Value.category, kCat_q, List.map, List.sum_cons, List.sum_nil]; omega)) (by first | exact Nat.le_of_ble_eq_true rfl | omega | (simp only [kR, Value.category, kCat_q, List.map, List.sum_cons, List.sum_nil]; omega)) (fun E hE => k_xout B hex (fun _ _ h => h) ((gIx_p g1).trans (gRg_n hE)) (by decide) (by decide)) (fun v10 s10 hp10 => ?_)
  obtain ⟨rfl, e10, g2⟩ := hp10
  rw [e10]
  have gg : gLotOf z (nI i) y = none := (gIx_p g1).trans (gRg_p g2)
  obtain ⟨j, hj1, hj2, ej⟩ := inR_of (a := 0) (n := 10) rfl rfl (by decide) (by decide) g2
  subst ej
  have hci : cN (nI i) = i := cN_nI (by omega)
  refine k_iload_n B dX9_lotOf_13 rfl ?_
  rcases (show j = 0 ∨ j = 1 ∨ j = 2 ∨ j = 3 ∨ j = 4 ∨ j = 5 ∨ j = 6 ∨ j = 7 ∨ j = 8 ∨ j = 9 ∨ j = 10 by omega) with q | q | q | q | q | q | q | q | q | q | q
  · subst q
    refine k_tabIn B 68 dX9_lotOf_14 (by decide) (by decide) (off := 54) (by decide) (by decide) ?_
    refine k_aload_n B dX9_lotOf_68 rfl (by first | exact kRf_r _ | exact kRf_q _ | exact kRf_n) ?_
    refine gf_X9_238 B dX9_lotOf_69 ha rfl ?_
    refine k_iret B hr dX9_lotOf_72 ?_ (by first | exact Nat.le_of_ble_eq_true rfl | omega | (simp only [kR, Value.category, kCat_q, List.map, List.sum_cons, List.sum_nil]; omega)) (by first | exact Nat.le_of_ble_eq_true rfl | omega | (simp only [kR, Value.category, kCat_q, List.map, List.sum_cons, List.sum_nil]; omega))
    exact ⟨gg, (by rw [rLotOf, cN_nI (show 0 < 2 ^ 31 by decide), if_pos rfl, hci]), rfl⟩
  · subst q
    refine k_tabIn B 73 dX9_lotOf_14 (by decide) (by decide) (off := 59) (by decide) (by decide) ?_
    refine k_aload_n B dX9_lotOf_73 rfl (by first | exact kRf_r _ | exact kRf_q _ | exact kRf_n) ?_
    refine gf_X9_241 B dX9_lotOf_74 ha rfl ?_
    refine gf_X9_142 B dX9_lotOf_77 hρ rfl ?_
    refine k_iret B hr dX9_lotOf_80 ?_ (by first | exact Nat.le_of_ble_eq_true rfl | omega | (simp only [kR, Value.category, kCat_q, List.map, List.sum_cons, List.sum_nil]; omega)) (by first | exact Nat.le_of_ble_eq_true rfl | omega | (simp only [kR, Value.category, kCat_q, List.map, List.sum_cons, List.sum_nil]; omega))
    exact ⟨gg, (by rw [rLotOf, cN_nI (show 1 < 2 ^ 31 by decide), if_neg (by decide), if_pos rfl, hci]), rfl⟩
  · subst q
    refine k_tabIn B 81 dX9_lotOf_14 (by decide) (by decide) (off := 67) (by decide) (by decide) ?_
    refine k_aload_n B dX9_lotOf_81 rfl (by first | exact kRf_r _ | exact kRf_q _ | exact kRf_n) ?_
    refine gf_X9_241 B dX9_lotOf_82 ha rfl ?_
    refine cl_X9_229 B (c_X6_nitrate hl hρ hch) hρ dX9_lotOf_85 (by first | exact Nat.le_of_ble_eq_true rfl | omega | (simp only [kR, Value.category, kCat_q, List.map, List.sum_cons, List.sum_nil]; omega)) (by first | exact Nat.le_of_ble_eq_true rfl | omega | (simp only [kR, Value.category, kCat_q, List.map, List.sum_cons, List.sum_nil]; omega)) (by first | exact Nat.le_of_ble_eq_true rfl | omega | (simp only [kR, Value.category, kCat_q, List.map, List.sum_cons, List.sum_nil]; omega)) (by first | exact Nat.le_of_ble_eq_true rfl | omega | (simp only [kR, Value.category, kCat_q, List.map, List.sum_cons, List.sum_nil]; omega)) (by first | exact Nat.le_of_ble_eq_true rfl | omega | (simp only [kR, Value.category, kCat_q, List.map, List.sum_cons, List.sum_nil]; omega)) (fun _ hx => hx.elim) (fun v85 s85 hp85 => ?_)
    obtain ⟨rfl, e85⟩ := hp85
    rw [e85]
    refine kK.rev (y := .int (nI (niS (kCon (R (11 + i)))))) (rfl) ?_
    refine k_iret B hr dX9_lotOf_88 ?_ (by first | exact Nat.le_of_ble_eq_true rfl | omega | (simp only [kR, Value.category, kCat_q, List.map, List.sum_cons, List.sum_nil]; omega)) (by first | exact Nat.le_of_ble_eq_true rfl | omega | (simp only [kR, Value.category, kCat_q, List.map, List.sum_cons, List.sum_nil]; omega))
    exact ⟨gg, (by rw [rLotOf, cN_nI (show 2 < 2 ^ 31 by decide), if_neg (by decide), if_neg (by decide), if_pos rfl, hci, hcon]), rfl⟩
  · subst q
    refine k_tabIn B 89 dX9_lotOf_14 (by decide) (by decide) (off := 75) (by decide) (by decide) ?_
    refine k_aload_n B dX9_lotOf_89 rfl (by first | exact kRf_r _ | exact kRf_q _ | exact kRf_n) ?_
    refine gf_X9_244 B dX9_lotOf_90 ha rfl ?_
    refine k_iret B hr dX9_lotOf_93 ?_ (by first | exact Nat.le_of_ble_eq_true rfl | omega | (simp only [kR, Value.category, kCat_q, List.map, List.sum_cons, List.sum_nil]; omega)) (by first | exact Nat.le_of_ble_eq_true rfl | omega | (simp only [kR, Value.category, kCat_q, List.map, List.sum_cons, List.sum_nil]; omega))
    exact ⟨gg, (by rw [rLotOf, cN_nI (show 3 < 2 ^ 31 by decide), if_neg (by decide), if_neg (by decide), if_neg (by decide), if_pos rfl, hci]), rfl⟩
  · subst q
    refine k_tabIn B 94 dX9_lotOf_14 (by decide) (by decide) (off := 80) (by decide) (by decide) ?_
    refine k_aload_n B dX9_lotOf_94 rfl (by first | exact kRf_r _ | exact kRf_q _ | exact kRf_n) ?_
    refine gf_X9_241 B dX9_lotOf_95 ha rfl ?_
    refine cl_X9_232 B (c_X6_compounds hl hρ hch) hρ dX9_lotOf_98 (by first | exact Nat.le_of_ble_eq_true rfl | omega | (simp only [kR, Value.category, kCat_q, List.map, List.sum_cons, List.sum_nil]; omega)) (by first | exact Nat.le_of_ble_eq_true rfl | omega | (simp only [kR, Value.category, kCat_q, List.map, List.sum_cons, List.sum_nil]; omega)) (by first | exact Nat.le_of_ble_eq_true rfl | omega | (simp only [kR, Value.category, kCat_q, List.map, List.sum_cons, List.sum_nil]; omega)) (by first | exact Nat.le_of_ble_eq_true rfl | omega | (simp only [kR, Value.category, kCat_q, List.map, List.sum_cons, List.sum_nil]; omega)) (by first | exact Nat.le_of_ble_eq_true rfl | omega | (simp only [kR, Value.category, kCat_q, List.map, List.sum_cons, List.sum_nil]; omega)) (fun _ hx => hx.elim) (fun v98 s98 hp98 => ?_)
    obtain ⟨rfl, e98⟩ := hp98
    rw [e98]
    refine kK.rev (y := .int (coS (kCon (R (11 + i))) 0)) (rfl) ?_
    refine k_iret B hr dX9_lotOf_101 ?_ (by first | exact Nat.le_of_ble_eq_true rfl | omega | (simp only [kR, Value.category, kCat_q, List.map, List.sum_cons, List.sum_nil]; omega)) (by first | exact Nat.le_of_ble_eq_true rfl | omega | (simp only [kR, Value.category, kCat_q, List.map, List.sum_cons, List.sum_nil]; omega))
    exact ⟨gg, (by rw [rLotOf, cN_nI (show 4 < 2 ^ 31 by decide), if_neg (by decide), if_neg (by decide), if_neg (by decide), if_neg (by decide), if_pos rfl, hci, hcon]), rfl⟩
  · subst q
    refine k_tabIn B 102 dX9_lotOf_14 (by decide) (by decide) (off := 88) (by decide) (by decide) ?_
    refine k_aload_n B dX9_lotOf_102 rfl (by first | exact kRf_r _ | exact kRf_q _ | exact kRf_n) ?_
    refine cl_X9_247 B (c_X2_leastAge hl ha hρ hch (fun q hq => (hyr q hq).1)) ha dX9_lotOf_103 (by first | exact Nat.le_of_ble_eq_true rfl | omega | (simp only [kR, Value.category, kCat_q, List.map, List.sum_cons, List.sum_nil]; omega)) (by first | exact Nat.le_of_ble_eq_true rfl | omega | (simp only [kR, Value.category, kCat_q, List.map, List.sum_cons, List.sum_nil]; omega)) (by first | exact Nat.le_of_ble_eq_true rfl | omega | (simp only [kR, Value.category, kCat_q, List.map, List.sum_cons, List.sum_nil]; omega)) (by first | exact Nat.le_of_ble_eq_true rfl | omega | (simp only [kR, Value.category, kCat_q, List.map, List.sum_cons, List.sum_nil]; omega)) (by first | exact Nat.le_of_ble_eq_true rfl | omega | (simp only [kR, Value.category, kCat_q, List.map, List.sum_cons, List.sum_nil]; omega)) (fun _ hx => hx.elim) (fun v103 s103 hp103 => ?_)
    obtain ⟨rfl, e103⟩ := hp103
    rw [e103]
    refine kK.rev (y := .int (nI (sLo z i).2.1 - yoI (kCon (R (11 + i))))) (rfl) ?_
    refine k_iret B hr dX9_lotOf_106 ?_ (by first | exact Nat.le_of_ble_eq_true rfl | omega | (simp only [kR, Value.category, kCat_q, List.map, List.sum_cons, List.sum_nil]; omega)) (by first | exact Nat.le_of_ble_eq_true rfl | omega | (simp only [kR, Value.category, kCat_q, List.map, List.sum_cons, List.sum_nil]; omega))
    exact ⟨gg, (by rw [rLotOf, cN_nI (show 5 < 2 ^ 31 by decide), if_neg (by decide), if_neg (by decide), if_neg (by decide), if_neg (by decide), if_neg (by decide), if_pos rfl, hci, hcon]), rfl⟩
  · subst q
    refine k_tabIn B 107 dX9_lotOf_14 (by decide) (by decide) (off := 93) (by decide) (by decide) ?_
    refine k_aload_n B dX9_lotOf_107 rfl (by first | exact kRf_r _ | exact kRf_q _ | exact kRf_n) ?_
    refine cl_X9_250 B (c_X2_greatestAge hl ha hρ hch (fun q hq => (hyr q hq).1)) ha dX9_lotOf_108 (by first | exact Nat.le_of_ble_eq_true rfl | omega | (simp only [kR, Value.category, kCat_q, List.map, List.sum_cons, List.sum_nil]; omega)) (by first | exact Nat.le_of_ble_eq_true rfl | omega | (simp only [kR, Value.category, kCat_q, List.map, List.sum_cons, List.sum_nil]; omega)) (by first | exact Nat.le_of_ble_eq_true rfl | omega | (simp only [kR, Value.category, kCat_q, List.map, List.sum_cons, List.sum_nil]; omega)) (by first | exact Nat.le_of_ble_eq_true rfl | omega | (simp only [kR, Value.category, kCat_q, List.map, List.sum_cons, List.sum_nil]; omega)) (by first | exact Nat.le_of_ble_eq_true rfl | omega | (simp only [kR, Value.category, kCat_q, List.map, List.sum_cons, List.sum_nil]; omega)) (fun _ hx => hx.elim) (fun v108 s108 hp108 => ?_)
    obtain ⟨rfl, e108⟩ := hp108
    rw [e108]
    refine kK.rev (y := .int (nI (sLo z i).2.1 - olI (kCon (R (11 + i))))) (rfl) ?_
    refine k_iret B hr dX9_lotOf_111 ?_ (by first | exact Nat.le_of_ble_eq_true rfl | omega | (simp only [kR, Value.category, kCat_q, List.map, List.sum_cons, List.sum_nil]; omega)) (by first | exact Nat.le_of_ble_eq_true rfl | omega | (simp only [kR, Value.category, kCat_q, List.map, List.sum_cons, List.sum_nil]; omega))
    exact ⟨gg, (by rw [rLotOf, cN_nI (show 6 < 2 ^ 31 by decide), if_neg (by decide), if_neg (by decide), if_neg (by decide), if_neg (by decide), if_neg (by decide), if_neg (by decide), if_pos rfl, hci, hcon]), rfl⟩
  · subst q
    refine k_tabIn B 112 dX9_lotOf_14 (by decide) (by decide) (off := 98) (by decide) (by decide) ?_
    refine k_aload_n B dX9_lotOf_112 rfl (by first | exact kRf_r _ | exact kRf_q _ | exact kRf_n) ?_
    refine gf_X9_205 B dX9_lotOf_113 ha rfl ?_
    refine k_iret B hr dX9_lotOf_116 ?_ (by first | exact Nat.le_of_ble_eq_true rfl | omega | (simp only [kR, Value.category, kCat_q, List.map, List.sum_cons, List.sum_nil]; omega)) (by first | exact Nat.le_of_ble_eq_true rfl | omega | (simp only [kR, Value.category, kCat_q, List.map, List.sum_cons, List.sum_nil]; omega))
    exact ⟨gg, (by rw [rLotOf, cN_nI (show 7 < 2 ^ 31 by decide), if_neg (by decide), if_neg (by decide), if_neg (by decide), if_neg (by decide), if_neg (by decide), if_neg (by decide), if_neg (by decide), if_pos rfl, hci]), rfl⟩
  · subst q
    refine k_tabIn B 117 dX9_lotOf_14 (by decide) (by decide) (off := 103) (by decide) (by decide) ?_
    refine k_aload_n B dX9_lotOf_117 rfl (by first | exact kRf_r _ | exact kRf_q _ | exact kRf_n) ?_
    refine gf_X9_202 B dX9_lotOf_118 ha rfl ?_
    refine k_iret B hr dX9_lotOf_121 ?_ (by first | exact Nat.le_of_ble_eq_true rfl | omega | (simp only [kR, Value.category, kCat_q, List.map, List.sum_cons, List.sum_nil]; omega)) (by first | exact Nat.le_of_ble_eq_true rfl | omega | (simp only [kR, Value.category, kCat_q, List.map, List.sum_cons, List.sum_nil]; omega))
    exact ⟨gg, (by rw [rLotOf, cN_nI (show 8 < 2 ^ 31 by decide), if_neg (by decide), if_neg (by decide), if_neg (by decide), if_neg (by decide), if_neg (by decide), if_neg (by decide), if_neg (by decide), if_neg (by decide), if_pos rfl, hci]), rfl⟩
  · subst q
    refine k_tabIn B 122 dX9_lotOf_14 (by decide) (by decide) (off := 108) (by decide) (by decide) ?_
    refine k_aload_n B dX9_lotOf_122 rfl (by first | exact kRf_r _ | exact kRf_q _ | exact kRf_n) ?_
    refine cl_X9_253 B (c_X2_truth hl ha) ha dX9_lotOf_123 (by first | exact Nat.le_of_ble_eq_true rfl | omega | (simp only [kR, Value.category, kCat_q, List.map, List.sum_cons, List.sum_nil]; omega)) (by first | exact Nat.le_of_ble_eq_true rfl | omega | (simp only [kR, Value.category, kCat_q, List.map, List.sum_cons, List.sum_nil]; omega)) (by first | exact Nat.le_of_ble_eq_true rfl | omega | (simp only [kR, Value.category, kCat_q, List.map, List.sum_cons, List.sum_nil]; omega)) (by first | exact Nat.le_of_ble_eq_true rfl | omega | (simp only [kR, Value.category, kCat_q, List.map, List.sum_cons, List.sum_nil]; omega)) (by first | exact Nat.le_of_ble_eq_true rfl | omega | (simp only [kR, Value.category, kCat_q, List.map, List.sum_cons, List.sum_nil]; omega)) (fun _ hx => hx.elim) (fun v123 s123 hp123 => ?_)
    obtain ⟨rfl, e123⟩ := hp123
    rw [e123]
    refine kK.rev (y := .int (truI (sLo z i).2.2.2.1 (sLo z i).2.2.2.2.1)) (rfl) ?_
    refine k_iret B hr dX9_lotOf_126 ?_ (by first | exact Nat.le_of_ble_eq_true rfl | omega | (simp only [kR, Value.category, kCat_q, List.map, List.sum_cons, List.sum_nil]; omega)) (by first | exact Nat.le_of_ble_eq_true rfl | omega | (simp only [kR, Value.category, kCat_q, List.map, List.sum_cons, List.sum_nil]; omega))
    exact ⟨gg, (by rw [rLotOf, cN_nI (show 9 < 2 ^ 31 by decide), if_neg (by decide), if_neg (by decide), if_neg (by decide), if_neg (by decide), if_neg (by decide), if_neg (by decide), if_neg (by decide), if_neg (by decide), if_neg (by decide), if_pos rfl, hci]), rfl⟩
  · subst q
    refine k_tabOut B 127 dX9_lotOf_14 (by decide) (by decide) ?_
    refine k_aload_n B dX9_lotOf_127 rfl (by first | exact kRf_r _ | exact kRf_q _ | exact kRf_n) ?_
    refine gf_X9_223 B dX9_lotOf_128 ha rfl ?_
    refine k_if_eq B 138 dX9_lotOf_131 (by decide) (fun c131 => ?_) (fun c131 => ?_)
    · rename_i c131
      refine k_iconst B (v := 0) dX9_lotOf_138 (by decide) ?_
      refine k_iret B hr dX9_lotOf_139 ?_ (by first | exact Nat.le_of_ble_eq_true rfl | omega | (simp only [kR, Value.category, kCat_q, List.map, List.sum_cons, List.sum_nil]; omega)) (by first | exact Nat.le_of_ble_eq_true rfl | omega | (simp only [kR, Value.category, kCat_q, List.map, List.sum_cons, List.sum_nil]; omega))
      exact ⟨gg, (by rw [rLotOf, cN_nI (show 10 < 2 ^ 31 by decide), if_neg (by decide), if_neg (by decide), if_neg (by decide), if_neg (by decide), if_neg (by decide), if_neg (by decide), if_neg (by decide), if_neg (by decide), if_neg (by decide), if_neg (by decide), hci, if_pos c131]), rfl⟩
    · rename_i c131
      refine k_iconst B (v := 1) dX9_lotOf_134 (by decide) ?_
      refine k_goto B 139 dX9_lotOf_135 (by decide) ?_
      refine k_iret B hr dX9_lotOf_139 ?_ (by first | exact Nat.le_of_ble_eq_true rfl | omega | (simp only [kR, Value.category, kCat_q, List.map, List.sum_cons, List.sum_nil]; omega)) (by first | exact Nat.le_of_ble_eq_true rfl | omega | (simp only [kR, Value.category, kCat_q, List.map, List.sum_cons, List.sum_nil]; omega))
      exact ⟨gg, (by rw [rLotOf, cN_nI (show 10 < 2 ^ 31 by decide), if_neg (by decide), if_neg (by decide), if_neg (by decide), if_neg (by decide), if_neg (by decide), if_neg (by decide), if_neg (by decide), if_neg (by decide), if_neg (by decide), if_neg (by decide), hci, if_neg c131]), rfl⟩
end Ops4
