section Ref12
variable {l : Launch} {D : va_G} {σ : kS} {aM : Nat} {ma : Nat → Nat} {mv : Nat → Nat → Int32} {q : kQc} {kn : Nat} {Lk : Nat → kPs} {z : kSt} {t : Int32}
theorem nI_le0 {n : Nat} (h : n < 2 ^ 31) (q : nI n ≤ 0) : n = 0 := by
  have := (nI_leI h (show 0 < 2 ^ 31 by decide)).mp (by rw [nI_0]; exact q)
  omega
set_option maxRecDepth 100000 in
theorem c_X10_land (hl : l.stackTraces = false) (hs : sOk z) (h : cl10 D aM ma z t σ) {c9 y : Int32} : kMh hX10_land l D yX10_land 4 0 0 [.ref aM, .int c9, .int y] σ (mPo D aM ma z (gLand z c9 y) (some (.int (rLand z c9))) (nLand z c9 y) (tCd 1 2 3) σ) (fun _ => False) := by
  refine kM_of (L := [some (.ref aM), some (.int c9), some (.int y), none, none, none]) (by decide +kernel) hl (List.forall_mem_cons.mpr ⟨rfl, (List.forall_mem_cons.mpr ⟨rfl, (List.forall_mem_cons.mpr ⟨rfl, (fun _ h => absurd h List.not_mem_nil)⟩)⟩)⟩) (Nat.le_of_ble_eq_true rfl) rfl ?_
  intro p e s m args below meth c B hr hex hnm
  have B : kB p l s m args meth c D (kA σ s.heap.size) 6 cX10_land RX10 := B
  obtain ⟨mv, kn, Lk, h⟩ := h
  refine k_iload_n B dX10_land_0 rfl ?_
  refine cl_X10_103 B (c_X10_isCell hl) dX10_land_1 (by first | exact Nat.le_of_ble_eq_true rfl | omega | (simp only [kR, Value.category, kCat_q, List.map, List.sum_cons, List.sum_nil]; omega)) (by first | exact Nat.le_of_ble_eq_true rfl | omega | (simp only [kR, Value.category, kCat_q, List.map, List.sum_cons, List.sum_nil]; omega)) (by first | exact Nat.le_of_ble_eq_true rfl | omega | (simp only [kR, Value.category, kCat_q, List.map, List.sum_cons, List.sum_nil]; omega)) (by first | exact Nat.le_of_ble_eq_true rfl | omega | (simp only [kR, Value.category, kCat_q, List.map, List.sum_cons, List.sum_nil]; omega)) (by first | exact Nat.le_of_ble_eq_true rfl | omega | (simp only [kR, Value.category, kCat_q, List.map, List.sum_cons, List.sum_nil]; omega)) (fun _ hx => hx.elim) (fun v1 s1 hp1 => ?_)
  obtain ⟨rfl, e1⟩ := hp1
  rw [e1]
  refine k_istore_n B dX10_land_4 (by decide) ?_
  try refine kK.set1 (by first | exact True.intro | rfl | exact kCat_q _) ?_
  refine k_iload_n B dX10_land_5 rfl ?_
  refine k_iconst B (v := 0) dX10_land_6 (by decide) ?_
  refine k_iconst B (v := 2) dX10_land_7 (by decide) ?_
  refine cl_X10_93 B (c_X10_isIn hl) dX10_land_8 (by first | exact Nat.le_of_ble_eq_true rfl | omega | (simp only [kR, Value.category, kCat_q, List.map, List.sum_cons, List.sum_nil]; omega)) (by first | exact Nat.le_of_ble_eq_true rfl | omega | (simp only [kR, Value.category, kCat_q, List.map, List.sum_cons, List.sum_nil]; omega)) (by first | exact Nat.le_of_ble_eq_true rfl | omega | (simp only [kR, Value.category, kCat_q, List.map, List.sum_cons, List.sum_nil]; omega)) (by first | exact Nat.le_of_ble_eq_true rfl | omega | (simp only [kR, Value.category, kCat_q, List.map, List.sum_cons, List.sum_nil]; omega)) (by first | exact Nat.le_of_ble_eq_true rfl | omega | (simp only [kR, Value.category, kCat_q, List.map, List.sum_cons, List.sum_nil]; omega)) (fun _ hx => hx.elim) (fun v8 s8 hp8 => ?_)
  obtain ⟨rfl, e8⟩ := hp8
  rw [e8]
  refine k_istore B dX10_land_11 (by decide) ?_
  try refine kK.set1 (by first | exact True.intro | rfl | exact kCat_q _) ?_
  refine k_aload_n B dX10_land_13 rfl (by first | exact kRf_r _ | exact kRf_q _ | exact kRf_n) ?_
  refine k_iload_n B dX10_land_14 rfl ?_
  refine k_if_ne B 22 dX10_land_15 (by decide) (fun c15 => ?_) (fun c15 => ?_)
  · rename_i c15
    obtain ⟨i, hi, rfl⟩ := i9_10 (bI_p c15)
    have g1 := nI_10 hi
    have hk := hs.2.1 i hi
    obtain ⟨k1, k2, k3, k4, k5, k6⟩ := h.K i hi
    refine k_iload B dX10_land_22 rfl ?_
    refine k_if_ne B 31 dX10_land_24 (by decide) (fun c24 => ?_) (fun c24 => ?_)
    · rename_i c24
      have g2 : inR y 0 2 := rg_p c24
      obtain ⟨j, hj1, hj2, rfl⟩ := inR_of (a := 0) (n := 2) rfl rfl (by decide) (by decide) g2
      have gg : gLand z (nI i) (nI j) = gSt (decide ((sK z i).2.2.2.1 = 0)) := by
        rw [gLand, gCell_p g1, gRg_p g2, cN_nI (by omega)]
      refine k_aload_n B dX10_land_31 rfl (by first | exact kRf_r _ | exact kRf_q _ | exact kRf_n) ?_
      refine gf_X10_22 B dX10_land_32 h.o rfl ?_
      refine k_iload_n B dX10_land_35 rfl ?_
      refine k_iald B dX10_land_36 (h.i (k := 5) rfl (by decide)) (vp_in_nI hi (by decide)) ?_
      refine k_if_le B 44 dX10_land_37 (by decide) (fun c37 => ?_) (fun c37 => ?_)
      · rename_i c37
        rw [nI_clamp (by omega), k5] at c37
        have he : (sK z i).2.2.2.1 = 0 := nI_le0 (by have := hk.2.2.2.2.1; omega) c37
        refine k_iconst B (v := 0) dX10_land_44 (by decide) ?_
        refine cl_X10_107 B (c_X10_can hl h.m) h.o dX10_land_45 (by first | exact Nat.le_of_ble_eq_true rfl | omega | (simp only [kR, Value.category, kCat_q, List.map, List.sum_cons, List.sum_nil]; omega)) (by first | exact Nat.le_of_ble_eq_true rfl | omega | (simp only [kR, Value.category, kCat_q, List.map, List.sum_cons, List.sum_nil]; omega)) (by first | exact Nat.le_of_ble_eq_true rfl | omega | (simp only [kR, Value.category, kCat_q, List.map, List.sum_cons, List.sum_nil]; omega)) (by first | exact Nat.le_of_ble_eq_true rfl | omega | (simp only [kR, Value.category, kCat_q, List.map, List.sum_cons, List.sum_nil]; omega)) (by first | exact Nat.le_of_ble_eq_true rfl | omega | (simp only [kR, Value.category, kCat_q, List.map, List.sum_cons, List.sum_nil]; omega)) (fun _ hx => hx.elim) (fun v45 s45 hp45 => ?_)
        obtain ⟨rfl, e45⟩ := hp45
        rw [e45]
        refine k_if_ne B 53 dX10_land_48 (by decide) (fun _ => ?_) (fun c48 => absurd c48 (by decide))
        have h1 := h.can 0
        have fh1 : kOut (mOwn aM ma) σ (kUp σ aM (m10E ma (setT (qZ z kn t) 0))) := kOut.up mOwn.o
        refine k_aload_n B dX10_land_53 rfl (by first | exact kRf_r _ | exact kRf_q _ | exact kRf_n) ?_
        refine gf_X10_13 B dX10_land_54 h1.o rfl ?_
        refine k_iload_n B dX10_land_57 rfl ?_
        refine k_iald B dX10_land_58 (h1.i (k := 2) rfl (by decide)) (vp_in_nI hi (by decide)) ?_
        refine k_istore B dX10_land_59 (by decide) ?_
        try refine kK.set1 (by first | exact True.intro | rfl | exact kCat_q _) ?_
        refine k_aload_n B dX10_land_61 rfl (by first | exact kRf_r _ | exact kRf_q _ | exact kRf_n) ?_
        refine gf_X10_13 B dX10_land_62 h1.o rfl ?_
        refine k_iload_n B dX10_land_65 rfl ?_
        refine k_iload_n B dX10_land_66 rfl ?_
        refine k_iast B dX10_land_67 (h1.i (k := 2) rfl (by decide)) (vp_in_nI hi (by decide)) ?_
        refine k_iload B dX10_land_68 rfl ?_
        refine k_iret B hr dX10_land_70 ?_ (by first | exact Nat.le_of_ble_eq_true rfl | omega | (simp only [kR, Value.category, kCat_q, List.map, List.sum_cons, List.sum_nil]; omega)) (by first | exact Nat.le_of_ble_eq_true rfl | omega | (simp only [kR, Value.category, kCat_q, List.map, List.sum_cons, List.sum_nil]; omega))
        refine mPo.ok (gg.trans (gSt_t (decide_eq_true he))) (by rw [rLand, cN_nI (by omega), nI_clamp (by omega), k2]) ?_ (fh1.tr (kOut.up (mOwn.a rfl)))
        rw [nLand, cN_nI (by omega), cN_nI (by omega)]
        exact ⟨_, _, _, h1.cell (h1.m.s (k := 2) rfl (by decide) (i := i) (by omega) _) (mS_c (by decide)) ⟨(mS_k (by decide)).trans k1, mS_eq, (mS_k (by decide)).trans k3, (mS_k (by decide)).trans k4, (mS_k (by decide)).trans k5, (mS_k (by decide)).trans k6⟩⟩
      · rename_i c37
        rw [nI_clamp (by omega), k5] at c37
        have he : ¬ (sK z i).2.2.2.1 = 0 := fun q => c37 (by rw [q, nI_0]; exact Int32.le_refl _)
        refine k_iconst B (v := 3) dX10_land_40 (by decide) ?_
        refine k_goto B 45 dX10_land_41 (by decide) ?_
        refine cl_X10_107 B (c_X10_can hl h.m) h.o dX10_land_45 (by first | exact Nat.le_of_ble_eq_true rfl | omega | (simp only [kR, Value.category, kCat_q, List.map, List.sum_cons, List.sum_nil]; omega)) (by first | exact Nat.le_of_ble_eq_true rfl | omega | (simp only [kR, Value.category, kCat_q, List.map, List.sum_cons, List.sum_nil]; omega)) (by first | exact Nat.le_of_ble_eq_true rfl | omega | (simp only [kR, Value.category, kCat_q, List.map, List.sum_cons, List.sum_nil]; omega)) (by first | exact Nat.le_of_ble_eq_true rfl | omega | (simp only [kR, Value.category, kCat_q, List.map, List.sum_cons, List.sum_nil]; omega)) (by first | exact Nat.le_of_ble_eq_true rfl | omega | (simp only [kR, Value.category, kCat_q, List.map, List.sum_cons, List.sum_nil]; omega)) (fun _ hx => hx.elim) (fun v45 s45 hp45 => ?_)
        obtain ⟨rfl, e45⟩ := hp45
        rw [e45]
        refine k_if_ne B 53 dX10_land_48 (by decide) (fun c48 => absurd (by decide) c48) (fun _ => ?_)
        refine k_iconst B (v := 0) dX10_land_51 (by decide) ?_
        refine k_iret B hr dX10_land_52 ?_ (by first | exact Nat.le_of_ble_eq_true rfl | omega | (simp only [kR, Value.category, kCat_q, List.map, List.sum_cons, List.sum_nil]; omega)) (by first | exact Nat.le_of_ble_eq_true rfl | omega | (simp only [kR, Value.category, kCat_q, List.map, List.sum_cons, List.sum_nil]; omega))
        exact mPo.no h (gg.trans (gSt_f (decide_eq_false he) rfl)) tCd_S rfl
    · rename_i c24
      refine k_iconst B (v := 2) dX10_land_27 (by decide) ?_
      refine k_goto B 45 dX10_land_28 (by decide) ?_
      refine cl_X10_107 B (c_X10_can hl h.m) h.o dX10_land_45 (by first | exact Nat.le_of_ble_eq_true rfl | omega | (simp only [kR, Value.category, kCat_q, List.map, List.sum_cons, List.sum_nil]; omega)) (by first | exact Nat.le_of_ble_eq_true rfl | omega | (simp only [kR, Value.category, kCat_q, List.map, List.sum_cons, List.sum_nil]; omega)) (by first | exact Nat.le_of_ble_eq_true rfl | omega | (simp only [kR, Value.category, kCat_q, List.map, List.sum_cons, List.sum_nil]; omega)) (by first | exact Nat.le_of_ble_eq_true rfl | omega | (simp only [kR, Value.category, kCat_q, List.map, List.sum_cons, List.sum_nil]; omega)) (by first | exact Nat.le_of_ble_eq_true rfl | omega | (simp only [kR, Value.category, kCat_q, List.map, List.sum_cons, List.sum_nil]; omega)) (fun _ hx => hx.elim) (fun v45 s45 hp45 => ?_)
      obtain ⟨rfl, e45⟩ := hp45
      rw [e45]
      refine k_if_ne B 53 dX10_land_48 (by decide) (fun c48 => absurd (by decide) c48) (fun _ => ?_)
      refine k_iconst B (v := 0) dX10_land_51 (by decide) ?_
      refine k_iret B hr dX10_land_52 ?_ (by first | exact Nat.le_of_ble_eq_true rfl | omega | (simp only [kR, Value.category, kCat_q, List.map, List.sum_cons, List.sum_nil]; omega)) (by first | exact Nat.le_of_ble_eq_true rfl | omega | (simp only [kR, Value.category, kCat_q, List.map, List.sum_cons, List.sum_nil]; omega))
      exact mPo.no h ((gCell_p g1).trans (gRg_n ⟨rfl, rg_q c24⟩)) tCd_A rfl
  · rename_i c15
    refine k_iconst B (v := 1) dX10_land_18 (by decide) ?_
    refine k_goto B 45 dX10_land_19 (by decide) ?_
    refine cl_X10_107 B (c_X10_can hl h.m) h.o dX10_land_45 (by first | exact Nat.le_of_ble_eq_true rfl | omega | (simp only [kR, Value.category, kCat_q, List.map, List.sum_cons, List.sum_nil]; omega)) (by first | exact Nat.le_of_ble_eq_true rfl | omega | (simp only [kR, Value.category, kCat_q, List.map, List.sum_cons, List.sum_nil]; omega)) (by first | exact Nat.le_of_ble_eq_true rfl | omega | (simp only [kR, Value.category, kCat_q, List.map, List.sum_cons, List.sum_nil]; omega)) (by first | exact Nat.le_of_ble_eq_true rfl | omega | (simp only [kR, Value.category, kCat_q, List.map, List.sum_cons, List.sum_nil]; omega)) (by first | exact Nat.le_of_ble_eq_true rfl | omega | (simp only [kR, Value.category, kCat_q, List.map, List.sum_cons, List.sum_nil]; omega)) (fun _ hx => hx.elim) (fun v45 s45 hp45 => ?_)
    obtain ⟨rfl, e45⟩ := hp45
    rw [e45]
    refine k_if_ne B 53 dX10_land_48 (by decide) (fun c48 => absurd (by decide) c48) (fun _ => ?_)
    refine k_iconst B (v := 0) dX10_land_51 (by decide) ?_
    refine k_iret B hr dX10_land_52 ?_ (by first | exact Nat.le_of_ble_eq_true rfl | omega | (simp only [kR, Value.category, kCat_q, List.map, List.sum_cons, List.sum_nil]; omega)) (by first | exact Nat.le_of_ble_eq_true rfl | omega | (simp only [kR, Value.category, kCat_q, List.map, List.sum_cons, List.sum_nil]; omega))
    exact mPo.no h (gCell_n ⟨rfl, no10 (bI_q c15)⟩) tCd_I rfl
set_option maxRecDepth 100000 in
theorem c_X10_lead (hl : l.stackTraces = false) (h : cl10 D aM ma z t σ) {c9 y : Int32} : kMh hX10_lead l D yX10_lead 4 0 0 [.ref aM, .int c9, .int y] σ (mPo D aM ma z (gLead c9 y) (some (.int (rLead z c9))) (nLead z c9 y) (tCd 1 2 3) σ) (fun _ => False) := by
  refine kM_of (L := [some (.ref aM), some (.int c9), some (.int y), none, none]) (by decide +kernel) hl (List.forall_mem_cons.mpr ⟨rfl, (List.forall_mem_cons.mpr ⟨rfl, (List.forall_mem_cons.mpr ⟨rfl, (fun _ h => absurd h List.not_mem_nil)⟩)⟩)⟩) (Nat.le_of_ble_eq_true rfl) rfl ?_
  intro p e s m args below meth c B hr hex hnm
  have B : kB p l s m args meth c D (kA σ s.heap.size) 5 cX10_lead RX10 := B
  obtain ⟨mv, kn, Lk, h⟩ := h
  have bad : gLead c9 y = some eI → kK p l e (kR 4 0 0) s m args below meth c D (kA σ s.heap.size) 5 (kQ below args s D σ (mPo D aM ma z (gLead c9 y) (some (.int (rLead z c9))) (nLead z c9 y) (tCd 1 2 3) σ) (fun _ => False) 0 0) σ 0 0 23 [some (.ref aM), some (.int c9), some (.int y), none, none] [] := by
    intro gg
    refine k_iconst B (v := 0) dX10_lead_23 (by decide) ?_
    refine k_istore_n B dX10_lead_24 (by decide) ?_
    try refine kK.set1 (by first | exact True.intro | rfl | exact kCat_q _) ?_
    refine k_aload_n B dX10_lead_25 rfl (by first | exact kRf_r _ | exact kRf_q _ | exact kRf_n) ?_
    refine k_iload_n B dX10_lead_26 rfl ?_
    refine k_if_ne B 34 dX10_lead_27 (by decide) (fun c27 => ?_) (fun c27 => ?_)
    · exact absurd rfl c27
    · refine k_iconst B (v := 1) dX10_lead_30 (by decide) ?_
      refine k_goto B 44 dX10_lead_31 (by decide) ?_
      refine cl_X10_107 B (c_X10_can hl h.m) h.o dX10_lead_44 (by first | exact Nat.le_of_ble_eq_true rfl | omega | (simp only [kR, Value.category, kCat_q, List.map, List.sum_cons, List.sum_nil]; omega)) (by first | exact Nat.le_of_ble_eq_true rfl | omega | (simp only [kR, Value.category, kCat_q, List.map, List.sum_cons, List.sum_nil]; omega)) (by first | exact Nat.le_of_ble_eq_true rfl | omega | (simp only [kR, Value.category, kCat_q, List.map, List.sum_cons, List.sum_nil]; omega)) (by first | exact Nat.le_of_ble_eq_true rfl | omega | (simp only [kR, Value.category, kCat_q, List.map, List.sum_cons, List.sum_nil]; omega)) (by first | exact Nat.le_of_ble_eq_true rfl | omega | (simp only [kR, Value.category, kCat_q, List.map, List.sum_cons, List.sum_nil]; omega)) (fun _ hx => hx.elim) (fun v44 s44 hp44 => ?_)
      obtain ⟨rfl, e44⟩ := hp44
      rw [e44]
      refine k_if_ne B 52 dX10_lead_47 (by decide) (fun c47 => absurd (by decide) c47) (fun _ => ?_)
      refine k_iconst B (v := 0) dX10_lead_50 (by decide) ?_
      refine k_iret B hr dX10_lead_51 ?_ (by first | exact Nat.le_of_ble_eq_true rfl | omega | (simp only [kR, Value.category, kCat_q, List.map, List.sum_cons, List.sum_nil]; omega)) (by first | exact Nat.le_of_ble_eq_true rfl | omega | (simp only [kR, Value.category, kCat_q, List.map, List.sum_cons, List.sum_nil]; omega))
      exact mPo.no h (gg) tCd_I rfl
  refine k_iload_n B dX10_lead_0 rfl ?_
  refine cl_X10_103 B (c_X10_isCell hl) dX10_lead_1 (by first | exact Nat.le_of_ble_eq_true rfl | omega | (simp only [kR, Value.category, kCat_q, List.map, List.sum_cons, List.sum_nil]; omega)) (by first | exact Nat.le_of_ble_eq_true rfl | omega | (simp only [kR, Value.category, kCat_q, List.map, List.sum_cons, List.sum_nil]; omega)) (by first | exact Nat.le_of_ble_eq_true rfl | omega | (simp only [kR, Value.category, kCat_q, List.map, List.sum_cons, List.sum_nil]; omega)) (by first | exact Nat.le_of_ble_eq_true rfl | omega | (simp only [kR, Value.category, kCat_q, List.map, List.sum_cons, List.sum_nil]; omega)) (by first | exact Nat.le_of_ble_eq_true rfl | omega | (simp only [kR, Value.category, kCat_q, List.map, List.sum_cons, List.sum_nil]; omega)) (fun _ hx => hx.elim) (fun v1 s1 hp1 => ?_)
  obtain ⟨rfl, e1⟩ := hp1
  rw [e1]
  refine k_if_eq B 23 dX10_lead_4 (by decide) (fun c4 => ?_) (fun c4 => ?_)
  · rename_i c4
    exact bad (gCell_n ⟨rfl, no10 (bI_q c4)⟩)
  · rename_i c4
    obtain ⟨i, hi, rfl⟩ := i9_10 (bI_p c4)
    have g1 := nI_10 hi
    obtain ⟨k1, k2, k3, k4, k5, k6⟩ := h.K i hi
    have tail : gLead (nI i) y = gArg (decide (y < nI i)) → ldI (if y = -1 then none else some (cN y)) = y → kK p l e (kR 4 0 0) s m args below meth c D (kA σ s.heap.size) 5 (kQ below args s D σ (mPo D aM ma z (gLead (nI i) y) (some (.int (rLead z (nI i)))) (nLead z (nI i) y) (tCd 1 2 3) σ) (fun _ => False) 0 0) σ 0 0 19 [some (.ref aM), some (.int (nI i)), some (.int y), none, none] [] := by
      intro gg hy
      refine k_iconst B (v := 1) dX10_lead_19 (by decide) ?_
      refine k_goto B 24 dX10_lead_20 (by decide) ?_
      refine k_istore_n B dX10_lead_24 (by decide) ?_
      try refine kK.set1 (by first | exact True.intro | rfl | exact kCat_q _) ?_
      refine k_aload_n B dX10_lead_25 rfl (by first | exact kRf_r _ | exact kRf_q _ | exact kRf_n) ?_
      refine k_iload_n B dX10_lead_26 rfl ?_
      refine k_if_ne B 34 dX10_lead_27 (by decide) (fun c27 => ?_) (fun c27 => ?_)
      · refine k_iload_n B dX10_lead_34 rfl ?_
        refine k_iload_n B dX10_lead_35 rfl ?_
        refine k_icmp_ge B 43 dX10_lead_36 (by decide) (fun c36 => ?_) (fun c36 => ?_)
        · rename_i c36
          refine k_iconst B (v := 2) dX10_lead_43 (by decide) ?_
          refine cl_X10_107 B (c_X10_can hl h.m) h.o dX10_lead_44 (by first | exact Nat.le_of_ble_eq_true rfl | omega | (simp only [kR, Value.category, kCat_q, List.map, List.sum_cons, List.sum_nil]; omega)) (by first | exact Nat.le_of_ble_eq_true rfl | omega | (simp only [kR, Value.category, kCat_q, List.map, List.sum_cons, List.sum_nil]; omega)) (by first | exact Nat.le_of_ble_eq_true rfl | omega | (simp only [kR, Value.category, kCat_q, List.map, List.sum_cons, List.sum_nil]; omega)) (by first | exact Nat.le_of_ble_eq_true rfl | omega | (simp only [kR, Value.category, kCat_q, List.map, List.sum_cons, List.sum_nil]; omega)) (by first | exact Nat.le_of_ble_eq_true rfl | omega | (simp only [kR, Value.category, kCat_q, List.map, List.sum_cons, List.sum_nil]; omega)) (fun _ hx => hx.elim) (fun v44 s44 hp44 => ?_)
          obtain ⟨rfl, e44⟩ := hp44
          rw [e44]
          refine k_if_ne B 52 dX10_lead_47 (by decide) (fun c47 => absurd (by decide) c47) (fun _ => ?_)
          refine k_iconst B (v := 0) dX10_lead_50 (by decide) ?_
          refine k_iret B hr dX10_lead_51 ?_ (by first | exact Nat.le_of_ble_eq_true rfl | omega | (simp only [kR, Value.category, kCat_q, List.map, List.sum_cons, List.sum_nil]; omega)) (by first | exact Nat.le_of_ble_eq_true rfl | omega | (simp only [kR, Value.category, kCat_q, List.map, List.sum_cons, List.sum_nil]; omega))
          exact mPo.no h (gg.trans (gArg_f (decide_eq_false (fun q => i32_lt_nle q c36)) rfl)) tCd_A rfl
        · rename_i c36
          refine k_iconst B (v := 0) dX10_lead_39 (by decide) ?_
          refine k_goto B 44 dX10_lead_40 (by decide) ?_
          refine cl_X10_107 B (c_X10_can hl h.m) h.o dX10_lead_44 (by first | exact Nat.le_of_ble_eq_true rfl | omega | (simp only [kR, Value.category, kCat_q, List.map, List.sum_cons, List.sum_nil]; omega)) (by first | exact Nat.le_of_ble_eq_true rfl | omega | (simp only [kR, Value.category, kCat_q, List.map, List.sum_cons, List.sum_nil]; omega)) (by first | exact Nat.le_of_ble_eq_true rfl | omega | (simp only [kR, Value.category, kCat_q, List.map, List.sum_cons, List.sum_nil]; omega)) (by first | exact Nat.le_of_ble_eq_true rfl | omega | (simp only [kR, Value.category, kCat_q, List.map, List.sum_cons, List.sum_nil]; omega)) (by first | exact Nat.le_of_ble_eq_true rfl | omega | (simp only [kR, Value.category, kCat_q, List.map, List.sum_cons, List.sum_nil]; omega)) (fun _ hx => hx.elim) (fun v44 s44 hp44 => ?_)
          obtain ⟨rfl, e44⟩ := hp44
          rw [e44]
          refine k_if_ne B 52 dX10_lead_47 (by decide) (fun _ => ?_) (fun c47 => absurd c47 (by decide))
          have h1 := h.can 0
          have fh1 : kOut (mOwn aM ma) σ (kUp σ aM (m10E ma (setT (qZ z kn t) 0))) := kOut.up mOwn.o
          refine k_aload_n B dX10_lead_52 rfl (by first | exact kRf_r _ | exact kRf_q _ | exact kRf_n) ?_
          refine gf_X10_16 B dX10_lead_53 h1.o rfl ?_
          refine k_iload_n B dX10_lead_56 rfl ?_
          refine k_iald B dX10_lead_57 (h1.i (k := 3) rfl (by decide)) (vp_in_nI hi (by decide)) ?_
          refine k_istore B dX10_lead_58 (by decide) ?_
          try refine kK.set1 (by first | exact True.intro | rfl | exact kCat_q _) ?_
          refine k_aload_n B dX10_lead_60 rfl (by first | exact kRf_r _ | exact kRf_q _ | exact kRf_n) ?_
          refine gf_X10_16 B dX10_lead_61 h1.o rfl ?_
          refine k_iload_n B dX10_lead_64 rfl ?_
          refine k_iload_n B dX10_lead_65 rfl ?_
          refine k_iast B dX10_lead_66 (h1.i (k := 3) rfl (by decide)) (vp_in_nI hi (by decide)) ?_
          refine k_iload B dX10_lead_67 rfl ?_
          refine k_iret B hr dX10_lead_69 ?_ (by first | exact Nat.le_of_ble_eq_true rfl | omega | (simp only [kR, Value.category, kCat_q, List.map, List.sum_cons, List.sum_nil]; omega)) (by first | exact Nat.le_of_ble_eq_true rfl | omega | (simp only [kR, Value.category, kCat_q, List.map, List.sum_cons, List.sum_nil]; omega))
          refine mPo.ok (gg.trans (gArg_t (decide_eq_true (Int32.not_le.mp c36)))) (by rw [rLead, cN_nI (by omega), nI_clamp (by omega), k3]) ?_ (fh1.tr (kOut.up (mOwn.a rfl)))
          rw [nLead, cN_nI (by omega)]
          exact ⟨_, _, _, h1.cell (h1.m.s (k := 3) rfl (by decide) (i := i) (by omega) _) (mS_c (by decide)) ⟨(mS_k (by decide)).trans k1, (mS_k (by decide)).trans k2, mS_eq.trans hy.symm, (mS_k (by decide)).trans k4, (mS_k (by decide)).trans k5, (mS_k (by decide)).trans k6⟩⟩
      · exact absurd c27 (by decide)
    refine k_iload_n B dX10_lead_7 rfl ?_
    refine k_iconst B (v := (-1)) dX10_lead_8 (by decide) ?_
    refine k_icmp_eq B 19 dX10_lead_9 (by decide) (fun c9 => ?_) (fun c9 => ?_)
    · rename_i c9
      exact tail ((gCell_p g1).trans (if_pos c9)) (by rw [if_pos c9, c9]; rfl)
    · rename_i c9
      refine k_iload_n B dX10_lead_12 rfl ?_
      refine cl_X10_103 B (c_X10_isCell hl) dX10_lead_13 (by first | exact Nat.le_of_ble_eq_true rfl | omega | (simp only [kR, Value.category, kCat_q, List.map, List.sum_cons, List.sum_nil]; omega)) (by first | exact Nat.le_of_ble_eq_true rfl | omega | (simp only [kR, Value.category, kCat_q, List.map, List.sum_cons, List.sum_nil]; omega)) (by first | exact Nat.le_of_ble_eq_true rfl | omega | (simp only [kR, Value.category, kCat_q, List.map, List.sum_cons, List.sum_nil]; omega)) (by first | exact Nat.le_of_ble_eq_true rfl | omega | (simp only [kR, Value.category, kCat_q, List.map, List.sum_cons, List.sum_nil]; omega)) (by first | exact Nat.le_of_ble_eq_true rfl | omega | (simp only [kR, Value.category, kCat_q, List.map, List.sum_cons, List.sum_nil]; omega)) (fun _ hx => hx.elim) (fun v13 s13 hp13 => ?_)
      obtain ⟨rfl, e13⟩ := hp13
      rw [e13]
      refine k_if_eq B 23 dX10_lead_16 (by decide) (fun c16 => ?_) (fun c16 => ?_)
      · rename_i c16
        exact bad ((gCell_p g1).trans ((if_neg c9).trans (gCell_n ⟨rfl, no10 (bI_q c16)⟩)))
      · rename_i c16
        obtain ⟨j, hj, ej⟩ := i9_10 (bI_p c16)
        exact tail ((gCell_p g1).trans ((if_neg c9).trans (gCell_p (by rw [ej]; exact nI_10 hj)))) (by rw [if_neg c9, ej, cN_nI (by omega)]; rfl)
set_option maxRecDepth 100000 in
theorem c_X10_travel (hl : l.stackTraces = false) (h : mI D aM ma mv q σ) {KK : Nat → kCl} (hK : mK KK mv) (hd : ∀ i d, i < 10 → (KK i).1 = some d → d < i) {ic : Nat} (h10 : ic < 10) : kMh hX10_travel l D yX10_travel 1 0 0 [.ref aM, .int (nI ic)] σ (fun v s2 => v = some (.int (nI (trvF KK (ic + 1) ic))) ∧ s2 = σ) (fun _ => False) := by
  refine kM_of (L := [some (.ref aM), some (.int (nI ic)), none, none]) (by decide +kernel) hl (List.forall_mem_cons.mpr ⟨rfl, (List.forall_mem_cons.mpr ⟨rfl, (fun _ h => absurd h List.not_mem_nil)⟩)⟩) (Nat.le_of_ble_eq_true rfl) rfl ?_
  intro p e s m args below meth c B hr hex hnm
  have B : kB p l s m args meth c D (kA σ s.heap.size) 4 cX10_travel RX10 := B
  generalize hgoal : trvF KK (ic + 1) ic = G
  have last : ∀ acc : Nat, acc = G → kK p l e (kR 1 0 0) s m args below meth c D (kA σ s.heap.size) 4 (kQ below args s D σ (fun v s2 => v = some (.int (nI (G))) ∧ s2 = σ) (fun _ => False) 0 0) σ 0 0 4 [some (.ref aM), some (.int (nI ic)), some (.int (nI acc)), some (.int (-1))] [] := by
    intro acc ha
    refine k_iload_n B dX10_travel_4 rfl ?_
    refine k_iconst B (v := (-1)) dX10_travel_5 (by decide) ?_
    refine k_icmp_eq B 28 dX10_travel_6 (by decide) (fun c6 => ?_) (fun c6 => ?_)
    · refine k_iload_n B dX10_travel_28 rfl ?_
      refine k_iret B hr dX10_travel_29 ?_ (by first | exact Nat.le_of_ble_eq_true rfl | omega | (simp only [kR, Value.category, kCat_q, List.map, List.sum_cons, List.sum_nil]; omega)) (by first | exact Nat.le_of_ble_eq_true rfl | omega | (simp only [kR, Value.category, kCat_q, List.map, List.sum_cons, List.sum_nil]; omega))
      exact ⟨by rw [ha], rfl⟩
    · exact absurd rfl c6
  have loop : ∀ (n i acc : Nat), i < n → n ≤ 10 → acc + trvF KK n i = G → kK p l e (kR 1 0 0) s m args below meth c D (kA σ s.heap.size) 4 (kQ below args s D σ (fun v s2 => v = some (.int (nI (G))) ∧ s2 = σ) (fun _ => False) 0 0) σ 0 0 4 [some (.ref aM), some (.int (nI ic)), some (.int (nI acc)), some (.int (nI i))] [] := by
    intro n
    induction n with
    | zero => intro i acc h; omega
    | succ n ih =>
      intro i acc hi hn hs
      obtain ⟨k1, k2, k3, k4, k5, k6⟩ := hK i (by omega)
      refine k_iload_n B dX10_travel_4 rfl ?_
      refine k_iconst B (v := (-1)) dX10_travel_5 (by decide) ?_
      refine k_icmp_eq B 28 dX10_travel_6 (by decide) (fun c6 => ?_) (fun c6 => ?_)
      · rename_i c6
        exact absurd c6 (ldI_no (j := i) (by omega))
      · refine k_iload_n B dX10_travel_9 rfl ?_
        refine k_aload_n B dX10_travel_10 rfl (by first | exact kRf_r _ | exact kRf_q _ | exact kRf_n) ?_
        refine gf_X10_7 B dX10_travel_11 h.o rfl ?_
        refine k_iload_n B dX10_travel_14 rfl ?_
        refine k_iald B dX10_travel_15 (h.i (k := 1) rfl (by decide)) (vp_in_nI (show i < 10 by omega) (by decide)) ?_
        refine k_iadd B dX10_travel_16 ?_
        refine kK.rei (y := nI (acc + (KK i).2.1)) (by rw [nI_clamp (by omega), k1]; exact nI_add _ _) ?_
        simp only [trvF] at hs
        refine k_istore_n B dX10_travel_17 (by decide) ?_
        try refine kK.set1 (by first | exact True.intro | rfl | exact kCat_q _) ?_
        refine k_aload_n B dX10_travel_18 rfl (by first | exact kRf_r _ | exact kRf_q _ | exact kRf_n) ?_
        refine gf_X10_16 B dX10_travel_19 h.o rfl ?_
        refine k_iload_n B dX10_travel_22 rfl ?_
        refine k_iald B dX10_travel_23 (h.i (k := 3) rfl (by decide)) (vp_in_nI (show i < 10 by omega) (by decide)) ?_
        refine kK.rei (y := ldI (KK i).1) (by rw [nI_clamp (by omega), k3]) ?_
        cases hld : (KK i).1 with
        | none =>
          rw [hld] at hs
          refine k_istore_n B dX10_travel_24 (by decide) ?_
          try refine kK.set1 (by first | exact True.intro | rfl | exact kCat_q _) ?_
          refine k_goto B 4 dX10_travel_25 (by decide) ?_
          exact last _ (by simp only [] at hs; omega)
        | some d =>
          rw [hld] at hs
          have hdi := hd i d (by omega) hld
          refine k_istore_n B dX10_travel_24 (by decide) ?_
          try refine kK.set1 (by first | exact True.intro | rfl | exact kCat_q _) ?_
          refine k_goto B 4 dX10_travel_25 (by decide) ?_
          exact ih d _ (by omega) (by omega) (by rw [← hs]; simp only []; omega)
  refine k_iconst B (v := 0) dX10_travel_0 (by decide) ?_
  refine k_istore_n B dX10_travel_1 (by decide) ?_
  try refine kK.set1 (by first | exact True.intro | rfl | exact kCat_q _) ?_
  refine k_iload_n B dX10_travel_2 rfl ?_
  refine k_istore_n B dX10_travel_3 (by decide) ?_
  try refine kK.set1 (by first | exact True.intro | rfl | exact kCat_q _) ?_
  exact loop (ic + 1) ic 0 (by omega) (by omega) (by omega)
end Ref12
