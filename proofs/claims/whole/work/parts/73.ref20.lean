section Ref20
variable {l : Launch} {D : va_G} {σ : kS} {aM : Nat} {ma : Nat → Nat} {z : kSt} {t : Int32}
set_option maxRecDepth 100000 in
theorem c_X10_treat (hl : l.stackTraces = false) (hs : sOk z) (h : cl10 D aM ma z t σ) {c9 y : Int32} : kMh hX10_treat l D yX10_treat 4 0 0 [.ref aM, .int c9, .int y] σ (mPo D aM ma z (gTreat z c9 y) (some (.int (rTreat z c9 y))) (nTreat z c9 y) (tCd 1 2 2) σ) (fun _ => False) := by
  refine kM_of (L := [some (.ref aM), some (.int c9), some (.int y), none]) (by decide +kernel) hl (List.forall_mem_cons.mpr ⟨rfl, (List.forall_mem_cons.mpr ⟨rfl, (List.forall_mem_cons.mpr ⟨rfl, (fun _ h => absurd h List.not_mem_nil)⟩)⟩)⟩) (Nat.le_of_ble_eq_true rfl) rfl ?_
  intro p e s m args below meth c B hr hex hnm
  have B : kB p l s m args meth c D (kA σ s.heap.size) 4 cX10_treat RX10 := B
  obtain ⟨mv, kn, Lk, h⟩ := h
  have h40 := hs.2.2.2.1.1
  have bad : gTreat z c9 y = some eI → kK p l e (kR 4 0 0) s m args below meth c D (kA σ s.heap.size) 4 (kQ below args s D σ (mPo D aM ma z (gTreat z c9 y) (some (.int (rTreat z c9 y))) (nTreat z c9 y) (tCd 1 2 2) σ) (fun _ => False) 0 0) σ 0 0 21 [some (.ref aM), some (.int c9), some (.int y), none] [] := by
    intro gg
    refine k_iconst B (v := 0) dX10_treat_21 (by decide) ?_
    refine k_istore_n B dX10_treat_22 (by decide) ?_
    try refine kK.set1 (by first | exact True.intro | rfl | exact kCat_q _) ?_
    refine k_aload_n B dX10_treat_23 rfl (by first | exact kRf_r _ | exact kRf_q _ | exact kRf_n) ?_
    refine k_iload_n B dX10_treat_24 rfl ?_
    refine k_if_ne B 32 dX10_treat_25 (by decide) (fun c25 => ?_) (fun c25 => ?_)
    · exact absurd rfl c25
    · refine k_iconst B (v := 1) dX10_treat_28 (by decide) ?_
      refine k_goto B 47 dX10_treat_29 (by decide) ?_
      refine cl_X10_107 B (c_X10_can hl h.m) h.o dX10_treat_47 (by first | exact Nat.le_of_ble_eq_true rfl | omega | (simp only [kR, Value.category, kCat_q, List.map, List.sum_cons, List.sum_nil]; omega)) (by first | exact Nat.le_of_ble_eq_true rfl | omega | (simp only [kR, Value.category, kCat_q, List.map, List.sum_cons, List.sum_nil]; omega)) (by first | exact Nat.le_of_ble_eq_true rfl | omega | (simp only [kR, Value.category, kCat_q, List.map, List.sum_cons, List.sum_nil]; omega)) (by first | exact Nat.le_of_ble_eq_true rfl | omega | (simp only [kR, Value.category, kCat_q, List.map, List.sum_cons, List.sum_nil]; omega)) (by first | exact Nat.le_of_ble_eq_true rfl | omega | (simp only [kR, Value.category, kCat_q, List.map, List.sum_cons, List.sum_nil]; omega)) (fun _ hx => hx.elim) (fun v47 s47 hp47 => ?_)
      obtain ⟨rfl, e47⟩ := hp47
      rw [e47]
      refine k_if_ne B 55 dX10_treat_50 (by decide) (fun c50 => absurd (by decide) c50) (fun _ => ?_)
      refine k_iconst B (v := 0) dX10_treat_53 (by decide) ?_
      refine k_iret B hr dX10_treat_54 ?_ (by first | exact Nat.le_of_ble_eq_true rfl | omega | (simp only [kR, Value.category, kCat_q, List.map, List.sum_cons, List.sum_nil]; omega)) (by first | exact Nat.le_of_ble_eq_true rfl | omega | (simp only [kR, Value.category, kCat_q, List.map, List.sum_cons, List.sum_nil]; omega))
      exact mPo.no h (gg) tCd_I rfl
  refine k_aload_n B dX10_treat_0 rfl (by first | exact kRf_r _ | exact kRf_q _ | exact kRf_n) ?_
  refine k_iload_n B dX10_treat_1 rfl ?_
  refine cl_X10_180 B (c_X10_isLot hl h.m) h.o dX10_treat_2 (by first | exact Nat.le_of_ble_eq_true rfl | omega | (simp only [kR, Value.category, kCat_q, List.map, List.sum_cons, List.sum_nil]; omega)) (by first | exact Nat.le_of_ble_eq_true rfl | omega | (simp only [kR, Value.category, kCat_q, List.map, List.sum_cons, List.sum_nil]; omega)) (by first | exact Nat.le_of_ble_eq_true rfl | omega | (simp only [kR, Value.category, kCat_q, List.map, List.sum_cons, List.sum_nil]; omega)) (by first | exact Nat.le_of_ble_eq_true rfl | omega | (simp only [kR, Value.category, kCat_q, List.map, List.sum_cons, List.sum_nil]; omega)) (by first | exact Nat.le_of_ble_eq_true rfl | omega | (simp only [kR, Value.category, kCat_q, List.map, List.sum_cons, List.sum_nil]; omega)) (fun _ hx => hx.elim) (fun v2 s2 hp2 => ?_)
  obtain ⟨rfl, e2⟩ := hp2
  rw [e2]
  refine k_if_eq B 21 dX10_treat_5 (by decide) (fun c5 => ?_) (fun c5 => ?_)
  · exact bad (gIx_n ⟨rfl, in_n (n := sLn z) (by omega) rfl (bI_q c5)⟩)
  · obtain ⟨i, hi, el, g1⟩ := in_p (n := sLn z) (by omega) rfl (bI_p c5)
    have hi40 : i < 40 := by omega
    refine k_iload_n B dX10_treat_8 rfl ?_
    refine k_iconst B (v := 0) dX10_treat_9 (by decide) ?_
    refine k_iconst B (v := 5) dX10_treat_10 (by decide) ?_
    refine cl_X10_93 B (c_X10_isIn hl) dX10_treat_11 (by first | exact Nat.le_of_ble_eq_true rfl | omega | (simp only [kR, Value.category, kCat_q, List.map, List.sum_cons, List.sum_nil]; omega)) (by first | exact Nat.le_of_ble_eq_true rfl | omega | (simp only [kR, Value.category, kCat_q, List.map, List.sum_cons, List.sum_nil]; omega)) (by first | exact Nat.le_of_ble_eq_true rfl | omega | (simp only [kR, Value.category, kCat_q, List.map, List.sum_cons, List.sum_nil]; omega)) (by first | exact Nat.le_of_ble_eq_true rfl | omega | (simp only [kR, Value.category, kCat_q, List.map, List.sum_cons, List.sum_nil]; omega)) (by first | exact Nat.le_of_ble_eq_true rfl | omega | (simp only [kR, Value.category, kCat_q, List.map, List.sum_cons, List.sum_nil]; omega)) (fun _ hx => hx.elim) (fun v11 s11 hp11 => ?_)
    obtain ⟨rfl, e11⟩ := hp11
    rw [e11]
    refine k_if_eq B 21 dX10_treat_14 (by decide) (fun c14 => ?_) (fun c14 => ?_)
    · exact bad ((gIx_p g1).trans (gIx_n ⟨rfl, in_n (n := 6) (by decide) rfl (bI_q c14)⟩))
    · obtain ⟨j, hj, ej, g2⟩ := in_p (n := 6) (by decide) rfl (bI_p c14)
      obtain ⟨t1, t2, t3, t4, t5, t6⟩ := h.T.1 i hi
      have gg : gTreat z (nI i) y = gSt (decide ((sLo z i).2.2.2.1 = -1)) := by
        rw [gTreat, ← el]
        refine (gIx_p g1).trans ((gIx_p g2).trans ?_)
        rw [el, cN_nI (by omega)]
      clear bad
      subst el
      refine k_iconst B (v := 1) dX10_treat_17 (by decide) ?_
      refine k_goto B 22 dX10_treat_18 (by decide) ?_
      refine k_istore_n B dX10_treat_22 (by decide) ?_
      try refine kK.set1 (by first | exact True.intro | rfl | exact kCat_q _) ?_
      refine k_aload_n B dX10_treat_23 rfl (by first | exact kRf_r _ | exact kRf_q _ | exact kRf_n) ?_
      refine k_iload_n B dX10_treat_24 rfl ?_
      refine k_if_ne B 32 dX10_treat_25 (by decide) (fun c25 => ?_) (fun c25 => ?_)
      · refine k_aload_n B dX10_treat_32 rfl (by first | exact kRf_r _ | exact kRf_q _ | exact kRf_n) ?_
        refine gf_X10_80 B dX10_treat_33 h.o rfl ?_
        refine k_iload_n B dX10_treat_36 rfl ?_
        refine k_iald B dX10_treat_37 (h.i (k := 30) rfl (by decide)) (vp_in_nI hi40 (by decide)) ?_
        refine kK.rei (y := (sLo z i).2.2.2.1) (by rw [nI_clamp (by omega)]; exact t4) ?_
        refine k_iconst B (v := (-1)) dX10_treat_38 (by decide) ?_
        refine k_icmp_ne B 46 dX10_treat_39 (by decide) (fun c39 => ?_) (fun c39 => ?_)
        · refine k_iconst B (v := 2) dX10_treat_46 (by decide) ?_
          refine cl_X10_107 B (c_X10_can hl h.m) h.o dX10_treat_47 (by first | exact Nat.le_of_ble_eq_true rfl | omega | (simp only [kR, Value.category, kCat_q, List.map, List.sum_cons, List.sum_nil]; omega)) (by first | exact Nat.le_of_ble_eq_true rfl | omega | (simp only [kR, Value.category, kCat_q, List.map, List.sum_cons, List.sum_nil]; omega)) (by first | exact Nat.le_of_ble_eq_true rfl | omega | (simp only [kR, Value.category, kCat_q, List.map, List.sum_cons, List.sum_nil]; omega)) (by first | exact Nat.le_of_ble_eq_true rfl | omega | (simp only [kR, Value.category, kCat_q, List.map, List.sum_cons, List.sum_nil]; omega)) (by first | exact Nat.le_of_ble_eq_true rfl | omega | (simp only [kR, Value.category, kCat_q, List.map, List.sum_cons, List.sum_nil]; omega)) (fun _ hx => hx.elim) (fun v47 s47 hp47 => ?_)
          obtain ⟨rfl, e47⟩ := hp47
          rw [e47]
          refine k_if_ne B 55 dX10_treat_50 (by decide) (fun c50 => absurd (by decide) c50) (fun _ => ?_)
          refine k_iconst B (v := 0) dX10_treat_53 (by decide) ?_
          refine k_iret B hr dX10_treat_54 ?_ (by first | exact Nat.le_of_ble_eq_true rfl | omega | (simp only [kR, Value.category, kCat_q, List.map, List.sum_cons, List.sum_nil]; omega)) (by first | exact Nat.le_of_ble_eq_true rfl | omega | (simp only [kR, Value.category, kCat_q, List.map, List.sum_cons, List.sum_nil]; omega))
          exact mPo.no h (gg.trans (gSt_f (decide_eq_false c39) rfl)) tCd_S rfl
        · refine k_iconst B (v := 0) dX10_treat_42 (by decide) ?_
          refine k_goto B 47 dX10_treat_43 (by decide) ?_
          refine cl_X10_107 B (c_X10_can hl h.m) h.o dX10_treat_47 (by first | exact Nat.le_of_ble_eq_true rfl | omega | (simp only [kR, Value.category, kCat_q, List.map, List.sum_cons, List.sum_nil]; omega)) (by first | exact Nat.le_of_ble_eq_true rfl | omega | (simp only [kR, Value.category, kCat_q, List.map, List.sum_cons, List.sum_nil]; omega)) (by first | exact Nat.le_of_ble_eq_true rfl | omega | (simp only [kR, Value.category, kCat_q, List.map, List.sum_cons, List.sum_nil]; omega)) (by first | exact Nat.le_of_ble_eq_true rfl | omega | (simp only [kR, Value.category, kCat_q, List.map, List.sum_cons, List.sum_nil]; omega)) (by first | exact Nat.le_of_ble_eq_true rfl | omega | (simp only [kR, Value.category, kCat_q, List.map, List.sum_cons, List.sum_nil]; omega)) (fun _ hx => hx.elim) (fun v47 s47 hp47 => ?_)
          obtain ⟨rfl, e47⟩ := hp47
          rw [e47]
          refine k_if_ne B 55 dX10_treat_50 (by decide) (fun _ => ?_) (fun c50 => absurd c50 (by decide))
          have h1 := h.can 0
          have fh1 : kOut (mOwn aM ma) σ (kUp σ aM (m10E ma (setT (qZ z kn t) 0))) := kOut.up mOwn.o
          refine k_aload_n B dX10_treat_55 rfl (by first | exact kRf_r _ | exact kRf_q _ | exact kRf_n) ?_
          refine gf_X10_77 B dX10_treat_56 h1.o rfl ?_
          refine k_iload_n B dX10_treat_59 rfl ?_
          refine k_dup2 B dX10_treat_60 rfl rfl ?_
          refine k_iald B dX10_treat_61 (h1.i (k := 29) rfl (by decide)) (vp_in_nI hi40 (by decide)) ?_
          refine k_iconst B (v := 1) dX10_treat_62 (by decide) ?_
          refine k_iload_n B dX10_treat_63 rfl ?_
          refine k_ishl B dX10_treat_64 ?_
          refine k_ior B dX10_treat_65 ?_
          refine k_iast B dX10_treat_66 (h1.i (k := 29) rfl (by decide)) (vp_in_nI hi40 (by decide)) ?_
          refine k_aload_n B dX10_treat_67 rfl (by first | exact kRf_r _ | exact kRf_q _ | exact kRf_n) ?_
          refine gf_X10_77 B dX10_treat_68 (h1.m.s (k := 29) rfl (by decide) (i := i) (by omega) _).o rfl ?_
          refine k_iload_n B dX10_treat_71 rfl ?_
          refine k_iald B dX10_treat_72 ((h1.m.s (k := 29) rfl (by decide) (i := i) (by omega) _).i (k := 29) rfl (by decide)) (vp_in_nI hi40 (by decide)) ?_
          refine k_iret B hr dX10_treat_73 ?_ (by first | exact Nat.le_of_ble_eq_true rfl | omega | (simp only [kR, Value.category, kCat_q, List.map, List.sum_cons, List.sum_nil]; omega)) (by first | exact Nat.le_of_ble_eq_true rfl | omega | (simp only [kR, Value.category, kCat_q, List.map, List.sum_cons, List.sum_nil]; omega))
          have e9 : mv 29 (nI i).toNatClampNeg ||| 1 <<< (y &&& 31) = rTreat z (nI i) y := by rw [rTreat, cN_nI (by omega), nI_clamp (by omega), t3]; rfl
          refine mPo.ok (gg.trans (gSt_t (decide_eq_true c39))) (by rw [nI_clamp (by omega), mS_eq, ← e9]; rw [nI_clamp (by omega)]) ?_ (fh1.tr (kOut.up (mOwn.a rfl)))
          rw [nTreat, nLot, cN_nI (by omega)]
          exact ⟨_, _, _, h1.lot hi (h1.m.s (k := 29) rfl (by decide) (i := i) (by omega) _) (mS_c (by decide)) ⟨(mS_k (by decide)).trans t1, (mS_k (by decide)).trans t2, mS_eq.trans e9, (mS_k (by decide)).trans t4, (mS_k (by decide)).trans t5, (mS_k (by decide)).trans t6⟩⟩
      · exact absurd c25 (by decide)
set_option maxRecDepth 100000 in
theorem c_X10_label (hl : l.stackTraces = false) (hs : sOk z) (h : cl10 D aM ma z t σ) {c9 y : Int32} : kMh hX10_label l D yX10_label 5 0 0 [.ref aM, .int c9, .int y] σ (mPo D aM ma z (gLabel z c9 y) (some (.int (rLabel z c9 y))) (nLabel z c9 y) (tCd 1 2 3) σ) (fun _ => False) := by
  refine kM_of (L := [some (.ref aM), some (.int c9), some (.int y), none, none]) (by decide +kernel) hl (List.forall_mem_cons.mpr ⟨rfl, (List.forall_mem_cons.mpr ⟨rfl, (List.forall_mem_cons.mpr ⟨rfl, (fun _ h => absurd h List.not_mem_nil)⟩)⟩)⟩) (Nat.le_of_ble_eq_true rfl) rfl ?_
  intro p e s m args below meth c B hr hex hnm
  have B : kB p l s m args meth c D (kA σ s.heap.size) 5 cX10_label RX10 := B
  obtain ⟨mv, kn, Lk, h⟩ := h
  have h40 := hs.2.2.2.1.1
  refine k_aload_n B dX10_label_0 rfl (by first | exact kRf_r _ | exact kRf_q _ | exact kRf_n) ?_
  refine k_iload_n B dX10_label_1 rfl ?_
  refine cl_X10_180 B (c_X10_isLot hl h.m) h.o dX10_label_2 (by first | exact Nat.le_of_ble_eq_true rfl | omega | (simp only [kR, Value.category, kCat_q, List.map, List.sum_cons, List.sum_nil]; omega)) (by first | exact Nat.le_of_ble_eq_true rfl | omega | (simp only [kR, Value.category, kCat_q, List.map, List.sum_cons, List.sum_nil]; omega)) (by first | exact Nat.le_of_ble_eq_true rfl | omega | (simp only [kR, Value.category, kCat_q, List.map, List.sum_cons, List.sum_nil]; omega)) (by first | exact Nat.le_of_ble_eq_true rfl | omega | (simp only [kR, Value.category, kCat_q, List.map, List.sum_cons, List.sum_nil]; omega)) (by first | exact Nat.le_of_ble_eq_true rfl | omega | (simp only [kR, Value.category, kCat_q, List.map, List.sum_cons, List.sum_nil]; omega)) (fun _ hx => hx.elim) (fun v2 s2 hp2 => ?_)
  obtain ⟨rfl, e2⟩ := hp2
  rw [e2]
  refine k_istore_n B dX10_label_5 (by decide) ?_
  try refine kK.set1 (by first | exact True.intro | rfl | exact kCat_q _) ?_
  refine k_iload_n B dX10_label_6 rfl ?_
  refine k_iconst B (v := 0) dX10_label_7 (by decide) ?_
  refine k_iconst B (v := 2) dX10_label_8 (by decide) ?_
  refine cl_X10_93 B (c_X10_isIn hl) dX10_label_9 (by first | exact Nat.le_of_ble_eq_true rfl | omega | (simp only [kR, Value.category, kCat_q, List.map, List.sum_cons, List.sum_nil]; omega)) (by first | exact Nat.le_of_ble_eq_true rfl | omega | (simp only [kR, Value.category, kCat_q, List.map, List.sum_cons, List.sum_nil]; omega)) (by first | exact Nat.le_of_ble_eq_true rfl | omega | (simp only [kR, Value.category, kCat_q, List.map, List.sum_cons, List.sum_nil]; omega)) (by first | exact Nat.le_of_ble_eq_true rfl | omega | (simp only [kR, Value.category, kCat_q, List.map, List.sum_cons, List.sum_nil]; omega)) (by first | exact Nat.le_of_ble_eq_true rfl | omega | (simp only [kR, Value.category, kCat_q, List.map, List.sum_cons, List.sum_nil]; omega)) (fun _ hx => hx.elim) (fun v9 s9 hp9 => ?_)
  obtain ⟨rfl, e9⟩ := hp9
  rw [e9]
  refine k_istore B dX10_label_12 (by decide) ?_
  try refine kK.set1 (by first | exact True.intro | rfl | exact kCat_q _) ?_
  refine k_aload_n B dX10_label_14 rfl (by first | exact kRf_r _ | exact kRf_q _ | exact kRf_n) ?_
  refine k_iload_n B dX10_label_15 rfl ?_
  refine k_if_ne B 23 dX10_label_16 (by decide) (fun c16 => ?_) (fun c16 => ?_)
  · obtain ⟨i, hi, rfl, g1⟩ := in_p (n := sLn z) (by omega) rfl (bI_p c16)
    have hi40 : i < 40 := by omega
    obtain ⟨t1, t2, t3, t4, t5, t6⟩ := h.T.1 i hi
    refine k_iload B dX10_label_23 rfl ?_
    refine k_if_ne B 32 dX10_label_25 (by decide) (fun c25 => ?_) (fun c25 => ?_)
    · have g2 : inR y 0 2 := rg_p c25
      obtain ⟨j, hj1, hj2, ej⟩ := inR_of (a := 0) (n := 2) rfl rfl (by decide) (by decide) g2
      have hy : y = 0 ∨ y = 1 ∨ y = 2 := by
        subst ej
        have : j = 0 ∨ j = 1 ∨ j = 2 := by omega
        rcases this with q | q | q <;> subst q <;> decide
      have gg : gLabel z (nI i) y = gSt (decide ((sLo z i).2.2.2.1 = -1)) := by
        rw [gLabel]
        refine (gIx_p g1).trans ((gRg_p g2).trans ?_)
        rw [cN_nI (by omega)]
      refine k_aload_n B dX10_label_32 rfl (by first | exact kRf_r _ | exact kRf_q _ | exact kRf_n) ?_
      refine gf_X10_80 B dX10_label_33 h.o rfl ?_
      refine k_iload_n B dX10_label_36 rfl ?_
      refine k_iald B dX10_label_37 (h.i (k := 30) rfl (by decide)) (vp_in_nI hi40 (by decide)) ?_
      refine kK.rei (y := (sLo z i).2.2.2.1) (by rw [nI_clamp (by omega)]; exact t4) ?_
      refine k_iconst B (v := (-1)) dX10_label_38 (by decide) ?_
      refine k_icmp_eq B 46 dX10_label_39 (by decide) (fun c39 => ?_) (fun c39 => ?_)
      · refine k_iconst B (v := 0) dX10_label_46 (by decide) ?_
        refine cl_X10_107 B (c_X10_can hl h.m) h.o dX10_label_47 (by first | exact Nat.le_of_ble_eq_true rfl | omega | (simp only [kR, Value.category, kCat_q, List.map, List.sum_cons, List.sum_nil]; omega)) (by first | exact Nat.le_of_ble_eq_true rfl | omega | (simp only [kR, Value.category, kCat_q, List.map, List.sum_cons, List.sum_nil]; omega)) (by first | exact Nat.le_of_ble_eq_true rfl | omega | (simp only [kR, Value.category, kCat_q, List.map, List.sum_cons, List.sum_nil]; omega)) (by first | exact Nat.le_of_ble_eq_true rfl | omega | (simp only [kR, Value.category, kCat_q, List.map, List.sum_cons, List.sum_nil]; omega)) (by first | exact Nat.le_of_ble_eq_true rfl | omega | (simp only [kR, Value.category, kCat_q, List.map, List.sum_cons, List.sum_nil]; omega)) (fun _ hx => hx.elim) (fun v47 s47 hp47 => ?_)
        obtain ⟨rfl, e47⟩ := hp47
        rw [e47]
        refine k_if_ne B 55 dX10_label_50 (by decide) (fun _ => ?_) (fun c50 => absurd c50 (by decide))
        have h1 := h.can 0
        have fh1 : kOut (mOwn aM ma) σ (kUp σ aM (m10E ma (setT (qZ z kn t) 0))) := kOut.up mOwn.o
        refine k_aload_n B dX10_label_55 rfl (by first | exact kRf_r _ | exact kRf_q _ | exact kRf_n) ?_
        refine gf_X10_80 B dX10_label_56 h1.o rfl ?_
        refine k_iload_n B dX10_label_59 rfl ?_
        refine k_iload_n B dX10_label_60 rfl ?_
        refine k_iast B dX10_label_61 (h1.i (k := 30) rfl (by decide)) (vp_in_nI hi40 (by decide)) ?_
        have h2 := h1.lot hi (k := ((sLo z i).1, (sLo z i).2.1, (sLo z i).2.2.1, y, (sLo z i).2.2.2.2)) (h1.m.s (k := 30) rfl (by decide) (i := i) (by omega) y) (mS_c (by decide)) ⟨(mS_k (by decide)).trans t1, (mS_k (by decide)).trans t2, (mS_k (by decide)).trans t3, mS_eq, (mS_k (by decide)).trans t5, (mS_k (by decide)).trans t6⟩
        have hs2 : sOk (z.1, z.2.1, z.2.2.1, z.2.2.2.1, (sLn z, upN (sLo z) i ((sLo z i).1, (sLo z i).2.1, (sLo z i).2.2.1, y, (sLo z i).2.2.2.2))) := hs.lots (fun a ha => by
          have h9 := hs.2.2.2.1.2 a ha
          by_cases q : a = i
          · subst q; rw [upN_eq]
            exact ⟨h9.1, h9.2.1, Or.inr hy, h9.2.2.2.1, h9.2.2.2.2.1, h9.2.2.2.2.2⟩
          · rw [upN_ne q]; exact h9)
        have hw2 := c_X10_isWater hl hs2 h2 hi hy
        have ek : okB y (sFb z) (sLo z i).2.2.1 (sLo z i).2.1 (sR z (11 + i)) = kindB z (nI i) y := by rw [kindB, cN_nI (by omega)]
        refine k_aload_n B dX10_label_62 rfl (by first | exact kRf_r _ | exact kRf_q _ | exact kRf_n) ?_
        refine gf_X10_83 B dX10_label_63 h2.o rfl ?_
        refine k_iload_n B dX10_label_66 rfl ?_
        refine k_aload_n B dX10_label_67 rfl (by first | exact kRf_r _ | exact kRf_q _ | exact kRf_n) ?_
        refine k_iload_n B dX10_label_68 rfl ?_
        refine k_iload_n B dX10_label_69 rfl ?_
        refine cl_X10_201 B hw2 h2.o dX10_label_70 (by first | exact Nat.le_of_ble_eq_true rfl | omega | (simp only [kR, Value.category, kCat_q, List.map, List.sum_cons, List.sum_nil]; omega)) (by first | exact Nat.le_of_ble_eq_true rfl | omega | (simp only [kR, Value.category, kCat_q, List.map, List.sum_cons, List.sum_nil]; omega)) (by first | exact Nat.le_of_ble_eq_true rfl | omega | (simp only [kR, Value.category, kCat_q, List.map, List.sum_cons, List.sum_nil]; omega)) (by first | exact Nat.le_of_ble_eq_true rfl | omega | (simp only [kR, Value.category, kCat_q, List.map, List.sum_cons, List.sum_nil]; omega)) (by first | exact Nat.le_of_ble_eq_true rfl | omega | (simp only [kR, Value.category, kCat_q, List.map, List.sum_cons, List.sum_nil]; omega)) (fun _ hx => hx.elim) (fun v70 s70 hp70 => ?_)
        obtain ⟨rfl, e70⟩ := hp70
        rw [e70]
        refine kK.rev (y := .int (bI (kindB z (nI i) y))) (by
          rw [← ek]
          show Value.int (bI (okB y (sFb z) (upN (sLo z) i ((sLo z i).1, (sLo z i).2.1, (sLo z i).2.2.1, y, (sLo z i).2.2.2.2) i).2.2.1 (upN (sLo z) i ((sLo z i).1, (sLo z i).2.1, (sLo z i).2.2.1, y, (sLo z i).2.2.2.2) i).2.1 (sR z (11 + i)))) = _
          rw [upN_eq]) ?_
        refine k_zast B dX10_label_73 (h2.zb (k := 31) rfl (by decide)) (vp_in_nI hi40 (by decide)) ?_
        have hnar : vp_nar .boolean (bI (kindB z (nI i) y)) = bI (kindB z (nI i) y) := by cases kindB z (nI i) y <;> decide
        have h3 := h2.m.sz (k := 31) rfl (by decide) (i := i) (by omega) hnar
        refine k_aload_n B dX10_label_74 rfl (by first | exact kRf_r _ | exact kRf_q _ | exact kRf_n) ?_
        refine gf_X10_83 B dX10_label_75 h3.o rfl ?_
        refine k_iload_n B dX10_label_78 rfl ?_
        refine k_zald B dX10_label_79 (h3.z (k := 31) rfl (by decide)) (vp_in_nI hi40 (by decide)) ?_
        refine kK.rei (y := bI (kindB z (nI i) y)) (by rw [nI_clamp (by omega), mS_eq]) ?_
        refine k_zret B hr dX10_label_80 (bI_n _) ?_ (by first | exact Nat.le_of_ble_eq_true rfl | omega | (simp only [kR, Value.category, kCat_q, List.map, List.sum_cons, List.sum_nil]; omega)) (by first | exact Nat.le_of_ble_eq_true rfl | omega | (simp only [kR, Value.category, kCat_q, List.map, List.sum_cons, List.sum_nil]; omega))
        refine mPo.ok (gg.trans (gSt_t (decide_eq_true c39))) rfl ?_ ((fh1.tr (kOut.up (mOwn.a (k := 30) rfl))).tr (kOut.up (mOwn.a (k := 31) rfl)))
        rw [nLabel, nLot, rLabel, cN_nI (by omega)]
        have c9 : ∀ a b, ¬ (27 ≤ a ∧ a ≤ 32) ∨ b ≠ i → mS (mS mv 30 i y) 31 i (bI (kindB z (nI i) y)) a b = mv a b := fun a b q => (mS_c (lo := 27) (hi := 32) (by decide) a b q).trans (mS_c (lo := 27) (hi := 32) (by decide) a b q)
        exact ⟨_, _, _, h1.lot hi h3 c9 ⟨(mS_k (by decide)).trans ((mS_k (by decide)).trans t1), (mS_k (by decide)).trans ((mS_k (by decide)).trans t2), (mS_k (by decide)).trans ((mS_k (by decide)).trans t3), (mS_k (by decide)).trans mS_eq, mS_eq, (mS_k (by decide)).trans ((mS_k (by decide)).trans t6)⟩⟩
      · refine k_iconst B (v := 3) dX10_label_42 (by decide) ?_
        refine k_goto B 47 dX10_label_43 (by decide) ?_
        refine cl_X10_107 B (c_X10_can hl h.m) h.o dX10_label_47 (by first | exact Nat.le_of_ble_eq_true rfl | omega | (simp only [kR, Value.category, kCat_q, List.map, List.sum_cons, List.sum_nil]; omega)) (by first | exact Nat.le_of_ble_eq_true rfl | omega | (simp only [kR, Value.category, kCat_q, List.map, List.sum_cons, List.sum_nil]; omega)) (by first | exact Nat.le_of_ble_eq_true rfl | omega | (simp only [kR, Value.category, kCat_q, List.map, List.sum_cons, List.sum_nil]; omega)) (by first | exact Nat.le_of_ble_eq_true rfl | omega | (simp only [kR, Value.category, kCat_q, List.map, List.sum_cons, List.sum_nil]; omega)) (by first | exact Nat.le_of_ble_eq_true rfl | omega | (simp only [kR, Value.category, kCat_q, List.map, List.sum_cons, List.sum_nil]; omega)) (fun _ hx => hx.elim) (fun v47 s47 hp47 => ?_)
        obtain ⟨rfl, e47⟩ := hp47
        rw [e47]
        refine k_if_ne B 55 dX10_label_50 (by decide) (fun c50 => absurd (by decide) c50) (fun _ => ?_)
        refine k_iconst B (v := 0) dX10_label_53 (by decide) ?_
        refine k_zret B hr dX10_label_54 (by rfl) ?_ (by first | exact Nat.le_of_ble_eq_true rfl | omega | (simp only [kR, Value.category, kCat_q, List.map, List.sum_cons, List.sum_nil]; omega)) (by first | exact Nat.le_of_ble_eq_true rfl | omega | (simp only [kR, Value.category, kCat_q, List.map, List.sum_cons, List.sum_nil]; omega))
        exact mPo.no h (gg.trans (gSt_f (decide_eq_false c39) rfl)) tCd_S rfl
    · refine k_iconst B (v := 2) dX10_label_28 (by decide) ?_
      refine k_goto B 47 dX10_label_29 (by decide) ?_
      refine cl_X10_107 B (c_X10_can hl h.m) h.o dX10_label_47 (by first | exact Nat.le_of_ble_eq_true rfl | omega | (simp only [kR, Value.category, kCat_q, List.map, List.sum_cons, List.sum_nil]; omega)) (by first | exact Nat.le_of_ble_eq_true rfl | omega | (simp only [kR, Value.category, kCat_q, List.map, List.sum_cons, List.sum_nil]; omega)) (by first | exact Nat.le_of_ble_eq_true rfl | omega | (simp only [kR, Value.category, kCat_q, List.map, List.sum_cons, List.sum_nil]; omega)) (by first | exact Nat.le_of_ble_eq_true rfl | omega | (simp only [kR, Value.category, kCat_q, List.map, List.sum_cons, List.sum_nil]; omega)) (by first | exact Nat.le_of_ble_eq_true rfl | omega | (simp only [kR, Value.category, kCat_q, List.map, List.sum_cons, List.sum_nil]; omega)) (fun _ hx => hx.elim) (fun v47 s47 hp47 => ?_)
      obtain ⟨rfl, e47⟩ := hp47
      rw [e47]
      refine k_if_ne B 55 dX10_label_50 (by decide) (fun c50 => absurd (by decide) c50) (fun _ => ?_)
      refine k_iconst B (v := 0) dX10_label_53 (by decide) ?_
      refine k_zret B hr dX10_label_54 (by rfl) ?_ (by first | exact Nat.le_of_ble_eq_true rfl | omega | (simp only [kR, Value.category, kCat_q, List.map, List.sum_cons, List.sum_nil]; omega)) (by first | exact Nat.le_of_ble_eq_true rfl | omega | (simp only [kR, Value.category, kCat_q, List.map, List.sum_cons, List.sum_nil]; omega))
      exact mPo.no h ((gIx_p g1).trans (gRg_n ⟨rfl, rg_q c25⟩)) tCd_A rfl
  · refine k_iconst B (v := 1) dX10_label_19 (by decide) ?_
    refine k_goto B 47 dX10_label_20 (by decide) ?_
    refine cl_X10_107 B (c_X10_can hl h.m) h.o dX10_label_47 (by first | exact Nat.le_of_ble_eq_true rfl | omega | (simp only [kR, Value.category, kCat_q, List.map, List.sum_cons, List.sum_nil]; omega)) (by first | exact Nat.le_of_ble_eq_true rfl | omega | (simp only [kR, Value.category, kCat_q, List.map, List.sum_cons, List.sum_nil]; omega)) (by first | exact Nat.le_of_ble_eq_true rfl | omega | (simp only [kR, Value.category, kCat_q, List.map, List.sum_cons, List.sum_nil]; omega)) (by first | exact Nat.le_of_ble_eq_true rfl | omega | (simp only [kR, Value.category, kCat_q, List.map, List.sum_cons, List.sum_nil]; omega)) (by first | exact Nat.le_of_ble_eq_true rfl | omega | (simp only [kR, Value.category, kCat_q, List.map, List.sum_cons, List.sum_nil]; omega)) (fun _ hx => hx.elim) (fun v47 s47 hp47 => ?_)
    obtain ⟨rfl, e47⟩ := hp47
    rw [e47]
    refine k_if_ne B 55 dX10_label_50 (by decide) (fun c50 => absurd (by decide) c50) (fun _ => ?_)
    refine k_iconst B (v := 0) dX10_label_53 (by decide) ?_
    refine k_zret B hr dX10_label_54 (by rfl) ?_ (by first | exact Nat.le_of_ble_eq_true rfl | omega | (simp only [kR, Value.category, kCat_q, List.map, List.sum_cons, List.sum_nil]; omega)) (by first | exact Nat.le_of_ble_eq_true rfl | omega | (simp only [kR, Value.category, kCat_q, List.map, List.sum_cons, List.sum_nil]; omega))
    exact mPo.no h (gIx_n ⟨rfl, in_n (n := sLn z) (by omega) rfl (bI_q c16)⟩) tCd_I rfl
set_option maxHeartbeats 1000000 in
set_option maxRecDepth 100000 in
theorem c_X10_forbid (hl : l.stackTraces = false) (hs : sOk z) (h : cl10 D aM ma z t σ) {y : Int32} : kMh hX10_forbid l D yX10_forbid 4 0 0 [.ref aM, .int y] σ (mPo D aM ma z (gForbid z y) (some (.int (rForbid z y))) (nForbid z y) (tCd 1 2 2) σ) (fun _ => False) := by
  refine kM_of (L := [some (.ref aM), some (.int y), none, none, none, none]) (by decide +kernel) hl (List.forall_mem_cons.mpr ⟨rfl, (List.forall_mem_cons.mpr ⟨rfl, (fun _ h => absurd h List.not_mem_nil)⟩)⟩) (Nat.le_of_ble_eq_true rfl) rfl ?_
  intro p e s m args below meth c B hr hex hnm
  have B : kB p l s m args meth c D (kA σ s.heap.size) 6 cX10_forbid RX10 := B
  obtain ⟨mv, kn, Lk, h⟩ := h
  have h40 := hs.2.2.2.1.1
  refine k_iload_n B dX10_forbid_0 rfl ?_
  refine k_iconst B (v := 0) dX10_forbid_1 (by decide) ?_
  refine k_iconst B (v := 5) dX10_forbid_2 (by decide) ?_
  refine cl_X10_93 B (c_X10_isIn hl) dX10_forbid_3 (by first | exact Nat.le_of_ble_eq_true rfl | omega | (simp only [kR, Value.category, kCat_q, List.map, List.sum_cons, List.sum_nil]; omega)) (by first | exact Nat.le_of_ble_eq_true rfl | omega | (simp only [kR, Value.category, kCat_q, List.map, List.sum_cons, List.sum_nil]; omega)) (by first | exact Nat.le_of_ble_eq_true rfl | omega | (simp only [kR, Value.category, kCat_q, List.map, List.sum_cons, List.sum_nil]; omega)) (by first | exact Nat.le_of_ble_eq_true rfl | omega | (simp only [kR, Value.category, kCat_q, List.map, List.sum_cons, List.sum_nil]; omega)) (by first | exact Nat.le_of_ble_eq_true rfl | omega | (simp only [kR, Value.category, kCat_q, List.map, List.sum_cons, List.sum_nil]; omega)) (fun _ hx => hx.elim) (fun v3 s3 hp3 => ?_)
  obtain ⟨rfl, e3⟩ := hp3
  rw [e3]
  refine k_istore_n B dX10_forbid_6 (by decide) ?_
  try refine kK.set1 (by first | exact True.intro | rfl | exact kCat_q _) ?_
  refine k_aload_n B dX10_forbid_7 rfl (by first | exact kRf_r _ | exact kRf_q _ | exact kRf_n) ?_
  refine k_iload_n B dX10_forbid_8 rfl ?_
  refine k_if_ne B 16 dX10_forbid_9 (by decide) (fun c9 => ?_) (fun c9 => ?_)
  · obtain ⟨j, hj, rfl, g2⟩ := in_p (n := 6) (by decide) rfl (bI_p c9)
    have gg : gForbid z (nI j) = gSt (decide (sFb z &&& bitI (nI j) = 0)) := by rw [gForbid]; exact gIx_p g2
    refine k_aload_n B dX10_forbid_16 rfl (by first | exact kRf_r _ | exact kRf_q _ | exact kRf_n) ?_
    refine gf_X10_183 B dX10_forbid_17 h.o rfl ?_
    refine k_iload_n B dX10_forbid_20 rfl ?_
    refine k_ishr B dX10_forbid_21 ?_
    refine k_iconst B (v := 1) dX10_forbid_22 (by decide) ?_
    refine k_iand B dX10_forbid_23 ?_
    refine k_iconst B (v := 1) dX10_forbid_24 (by decide) ?_
    refine k_icmp_ne B 32 dX10_forbid_25 (by decide) (fun c25 => ?_) (fun c25 => ?_)
    · have hb0 : sFb z &&& bitI (nI j) = 0 := Decidable.byContradiction (fun q => c25 ((bit_t _ (by omega)).mpr q))
      refine k_iconst B (v := 0) dX10_forbid_32 (by decide) ?_
      refine cl_X10_107 B (c_X10_can hl h.m) h.o dX10_forbid_33 (by first | exact Nat.le_of_ble_eq_true rfl | omega | (simp only [kR, Value.category, kCat_q, List.map, List.sum_cons, List.sum_nil]; omega)) (by first | exact Nat.le_of_ble_eq_true rfl | omega | (simp only [kR, Value.category, kCat_q, List.map, List.sum_cons, List.sum_nil]; omega)) (by first | exact Nat.le_of_ble_eq_true rfl | omega | (simp only [kR, Value.category, kCat_q, List.map, List.sum_cons, List.sum_nil]; omega)) (by first | exact Nat.le_of_ble_eq_true rfl | omega | (simp only [kR, Value.category, kCat_q, List.map, List.sum_cons, List.sum_nil]; omega)) (by first | exact Nat.le_of_ble_eq_true rfl | omega | (simp only [kR, Value.category, kCat_q, List.map, List.sum_cons, List.sum_nil]; omega)) (fun _ hx => hx.elim) (fun v33 s33 hp33 => ?_)
      obtain ⟨rfl, e33⟩ := hp33
      rw [e33]
      refine k_if_ne B 41 dX10_forbid_36 (by decide) (fun _ => ?_) (fun c36 => absurd c36 (by decide))
      have h1 := h.can 0
      have fh1 : kOut (mOwn aM ma) σ (kUp σ aM (m10E ma (setT (qZ z kn t) 0))) := kOut.up mOwn.o
      refine k_aload_n B dX10_forbid_41 rfl (by first | exact kRf_r _ | exact kRf_q _ | exact kRf_n) ?_
      refine k_dup B dX10_forbid_42 rfl ?_
      refine gf_X10_183 B dX10_forbid_43 h1.o rfl ?_
      refine k_iconst B (v := 1) dX10_forbid_46 (by decide) ?_
      refine k_iload_n B dX10_forbid_47 rfl ?_
      refine k_ishl B dX10_forbid_48 ?_
      refine k_ior B dX10_forbid_49 ?_
      refine kK.rei (y := sFb z ||| bitI (nI j)) rfl ?_
      refine pf_X10_183 B dX10_forbid_50 h1.o rfl ?_
      refine k_iconst B (v := 0) dX10_forbid_53 (by decide) ?_
      refine k_istore_n B dX10_forbid_54 (by decide) ?_
      try refine kK.set1 (by first | exact True.intro | rfl | exact kCat_q _) ?_
      generalize hb9 : bitI (nI j) = bit
      have loop : ∀ (d9 i : Nat) (mv1 : Nat → Nat → Int32) (s1 : kS) (o5 : Option Value), i + d9 = sLn z → cM D aM ma mv1 kn Lk (fbS z bit i) 0 s1 → kOut (mOwn aM ma) σ s1 → kK p l e (kR 4 0 0) s m args below meth c D (kA σ s.heap.size) 6 (kQ below args s D σ (mPo D aM ma z (gForbid z (nI j)) (some (.int (rForbid z (nI j)))) (nForbid z (nI j)) (tCd 1 2 2) σ) (fun _ => False) 0 0) s1 0 0 58 [some (.ref aM), some (.int (nI j)), none, some (.int (nI (fbN z bit i))), some (.int (nI i)), none] [] := by
        intro d9
        induction d9 with
        | zero =>
          intro i mv1 s1 o5 hi h2 f2
          have hi : i = sLn z := hi
          refine k_iload B dX10_forbid_58 rfl ?_
          refine k_aload_n B dX10_forbid_60 rfl (by first | exact kRf_r _ | exact kRf_q _ | exact kRf_n) ?_
          refine gf_X10_100 B dX10_forbid_61 h2.o rfl ?_
          refine kK.rei (y := nI (sLn z)) rfl ?_
          refine k_icmp_ge B 166 dX10_forbid_64 (by decide) (fun c64 => ?_) (fun c64 => ?_)
          · refine k_iload_n B dX10_forbid_166 rfl ?_
            refine k_iret B hr dX10_forbid_167 ?_ (by first | exact Nat.le_of_ble_eq_true rfl | omega | (simp only [kR, Value.category, kCat_q, List.map, List.sum_cons, List.sum_nil]; omega)) (by first | exact Nat.le_of_ble_eq_true rfl | omega | (simp only [kR, Value.category, kCat_q, List.map, List.sum_cons, List.sum_nil]; omega))
            refine mPo.ok (gg.trans (gSt_t (decide_eq_true (by rw [← hb9] at *; exact hb0)))) (by rw [rForbid, hb9, hi]) ?_ f2
            rw [nForbid, hb9, ← hi]
            exact h2.cl
          · exact absurd (by rw [hi]; exact Int32.le_refl _) c64
        | succ d9 ih =>
          intro i mv1 s1 o5 hi h2 f2
          have hi : i < sLn z := by omega
          have hi40 : i < 40 := by omega
          obtain ⟨t1, t2, t3, t4, t5, t6⟩ := h2.T.1 i hi
          have eL : sLo (fbS z bit i) i = sLo z i := fbL_at
          rw [eL] at t1 t2 t3 t4 t5 t6
          have hlt := hs.2.2.2.1.2 i hi
          have h01 := hlt.2.2.2.2.1
          -- after the question
          have tl : ∀ b : Bool, b = fbB z bit i → kK p l e (kR 4 0 0) s m args below meth c D (kA σ s.heap.size) 6 (kQ below args s D σ (mPo D aM ma z (gForbid z (nI j)) (some (.int (rForbid z (nI j)))) (nForbid z (nI j)) (tCd 1 2 2) σ) (fun _ => False) 0 0) s1 0 0 118 [some (.ref aM), some (.int (nI j)), none, some (.int (nI (fbN z bit i))), some (.int (nI i)), none] [.int (bI b)] := by
            intro b hb
            have hn : fbN z bit (i + 1) = fbN z bit i + (if b = true then 1 else 0) := by rw [hb]; rfl
            -- the new mark
            have nx : ∀ x : Int32, x = (if b = true then 1 else (sLo z i).2.2.2.2.2) → kK p l e (kR 4 0 0) s m args below meth c D (kA σ s.heap.size) 6 (kQ below args s D σ (mPo D aM ma z (gForbid z (nI j)) (some (.int (rForbid z (nI j)))) (nForbid z (nI j)) (tCd 1 2 2) σ) (fun _ => False) 0 0) s1 0 0 159 [some (.ref aM), some (.int (nI j)), none, some (.int (nI (fbN z bit (i + 1)))), some (.int (nI i)), some (.int (bI b))] [.int x, .int (nI i), .ref (ma 32)] := by
              intro x hx
              refine k_zast B dX10_forbid_159 (h2.zb (k := 32) rfl (by decide)) (vp_in_nI hi40 (by decide)) ?_
              have hnar : vp_nar .boolean x = x := by
                rw [hx]
                split
                · decide
                · rcases h01 with q | q <;> rw [q] <;> decide
              have h3 := h2.m.sz (k := 32) rfl (by decide) (i := i) (by omega) hnar
              refine k_iinc1 B dX10_forbid_160 rfl (by decide) ?_
              try refine kK.set1 (by first | exact True.intro | rfl | exact kCat_q _) ?_
              refine k_goto B 58 dX10_forbid_163 (by decide) ?_
              rw [nI_1]
              refine kK.sub (L2 := [some (.ref aM), some (.int (nI j)), none, some (.int (nI (fbN z bit (i + 1)))), some (.int (nI (i + 1))), none]) ⟨Or.inr rfl, Or.inr rfl, Or.inl rfl, Or.inr rfl, Or.inr rfl, Or.inl rfl, trivial⟩ ?_
              have h4 := h2.lot (j := i) (k := ((sLo z i).1, (sLo z i).2.1, (sLo z i).2.2.1, (sLo z i).2.2.2.1, (sLo z i).2.2.2.2.1, x)) hi h3 (mS_c (by decide)) ⟨(mS_k (by decide)).trans t1, (mS_k (by decide)).trans t2, (mS_k (by decide)).trans t3, (mS_k (by decide)).trans t4, (mS_k (by decide)).trans t5, mS_eq⟩
              refine ih (i + 1) (mS mv1 32 i x) _ none (by omega) ?_ (f2.tr (kOut.up (mOwn.a (k := 32) rfl)))
              have e8 : upN (fbL z bit i) i ((sLo z i).1, (sLo z i).2.1, (sLo z i).2.2.1, (sLo z i).2.2.2.1, (sLo z i).2.2.2.2.1, x) = fbL z bit (i + 1) := by
                by_cases hbt : fbB z bit i = true
                · rw [fbL_yes hbt, hx, hb, if_pos hbt]
                · rw [fbL_no hbt, hx, hb, if_neg hbt]
                  funext a
                  by_cases q : a = i
                  · subst q; rw [upN_eq, fbL_at]
                  · rw [upN_ne q]
              have e9 : fbS z bit (i + 1) = ((fbS z bit i).1, (fbS z bit i).2.1, (fbS z bit i).2.2.1, (fbS z bit i).2.2.2.1, (sLn (fbS z bit i), upN (sLo (fbS z bit i)) i ((sLo z i).1, (sLo z i).2.1, (sLo z i).2.2.1, (sLo z i).2.2.2.1, (sLo z i).2.2.2.2.1, x))) := by
                show _ = (_, _, _, _, (sLn z, upN (fbL z bit i) i _))
                rw [e8]
                rfl
              rw [e9]
              exact h4
            have aft : ∀ w : Nat, w = (if b = true then 1 else 0) → kK p l e (kR 4 0 0) s m args below meth c D (kA σ s.heap.size) 6 (kQ below args s D σ (mPo D aM ma z (gForbid z (nI j)) (some (.int (rForbid z (nI j)))) (nForbid z (nI j)) (tCd 1 2 2) σ) (fun _ => False) 0 0) s1 0 0 131 [some (.ref aM), some (.int (nI j)), none, some (.int (nI (fbN z bit i))), some (.int (nI i)), some (.int (bI b))] [.int (nI w), .int (nI (fbN z bit i))] := by
              intro w hw
              subst hw
              refine k_iadd B dX10_forbid_131 ?_
              refine kK.rei (y := nI (fbN z bit (i + 1))) (by rw [hn]; exact nI_add _ _) ?_
              refine k_istore_n B dX10_forbid_132 (by decide) ?_
              try refine kK.set1 (by first | exact True.intro | rfl | exact kCat_q _) ?_
              refine k_aload_n B dX10_forbid_133 rfl (by first | exact kRf_r _ | exact kRf_q _ | exact kRf_n) ?_
              refine gf_X10_87 B dX10_forbid_134 h2.o rfl ?_
              refine k_iload B dX10_forbid_137 rfl ?_
              refine k_aload_n B dX10_forbid_139 rfl (by first | exact kRf_r _ | exact kRf_q _ | exact kRf_n) ?_
              refine gf_X10_87 B dX10_forbid_140 h2.o rfl ?_
              refine k_iload B dX10_forbid_143 rfl ?_
              refine k_zald B dX10_forbid_145 (h2.zb (k := 32) rfl (by decide)) (vp_in_nI hi40 (by decide)) ?_
              refine kK.rei (y := (sLo z i).2.2.2.2.2) (by rw [nI_clamp (by omega)]; exact t6) ?_
              refine k_if_ne B 154 dX10_forbid_146 (by decide) (fun c146 => ?_) (fun c146 => ?_)
              · have h1v : (sLo z i).2.2.2.2.2 = 1 := h01.resolve_left c146
                refine k_iconst B (v := 1) dX10_forbid_154 (by decide) ?_
                refine k_goto B 159 dX10_forbid_155 (by decide) ?_
                exact nx 1 (by split <;> first | rfl | exact h1v.symm)
              · refine k_iload B dX10_forbid_149 rfl ?_
                refine k_if_eq B 158 dX10_forbid_151 (by decide) (fun c151 => ?_) (fun c151 => ?_)
                · refine k_iconst B (v := 0) dX10_forbid_158 (by decide) ?_
                  exact nx 0 (by rw [bI_ff c151]; exact c146.symm)
                · refine k_iconst B (v := 1) dX10_forbid_154 (by decide) ?_
                  refine k_goto B 159 dX10_forbid_155 (by decide) ?_
                  exact nx 1 (by rw [bI_tt c151]; rfl)
            refine k_istore B dX10_forbid_118 (by decide) ?_
            try refine kK.set1 (by first | exact True.intro | rfl | exact kCat_q _) ?_
            refine k_iload_n B dX10_forbid_120 rfl ?_
            refine k_iload B dX10_forbid_121 rfl ?_
            refine k_if_eq B 130 dX10_forbid_123 (by decide) (fun c123 => ?_) (fun c123 => ?_)
            · refine k_iconst B (v := 0) dX10_forbid_130 (by decide) ?_
              exact aft 0 (by rw [bI_ff c123]; rfl)
            · refine k_iconst B (v := 1) dX10_forbid_126 (by decide) ?_
              refine k_goto B 131 dX10_forbid_127 (by decide) ?_
              exact aft 1 (by rw [bI_tt c123]; rfl)
          have no : fbB z bit i = false → kK p l e (kR 4 0 0) s m args below meth c D (kA σ s.heap.size) 6 (kQ below args s D σ (mPo D aM ma z (gForbid z (nI j)) (some (.int (rForbid z (nI j)))) (nForbid z (nI j)) (tCd 1 2 2) σ) (fun _ => False) 0 0) s1 0 0 117 [some (.ref aM), some (.int (nI j)), none, some (.int (nI (fbN z bit i))), some (.int (nI i)), none] [] := by
            intro h0
            refine k_iconst B (v := 0) dX10_forbid_117 (by decide) ?_
            exact tl false h0.symm
          refine k_iload B dX10_forbid_58 rfl ?_
          refine k_aload_n B dX10_forbid_60 rfl (by first | exact kRf_r _ | exact kRf_q _ | exact kRf_n) ?_
          refine gf_X10_100 B dX10_forbid_61 h2.o rfl ?_
          refine kK.rei (y := nI (sLn z)) rfl ?_
          refine k_icmp_ge B 166 dX10_forbid_64 (by decide) (fun c64 => ?_) (fun c64 => ?_)
          · exact absurd c64 (nI_ge hi (by omega))
          · refine k_aload_n B dX10_forbid_67 rfl (by first | exact kRf_r _ | exact kRf_q _ | exact kRf_n) ?_
            refine gf_X10_77 B dX10_forbid_68 h2.o rfl ?_
            refine k_iload B dX10_forbid_71 rfl ?_
            refine k_iald B dX10_forbid_73 (h2.i (k := 29) rfl (by decide)) (vp_in_nI hi40 (by decide)) ?_
            refine kK.rei (y := (sLo z i).2.2.1) (by rw [nI_clamp (by omega)]; exact t3) ?_
            refine k_iload_n B dX10_forbid_74 rfl ?_
            refine k_ishr B dX10_forbid_75 ?_
            refine k_iconst B (v := 1) dX10_forbid_76 (by decide) ?_
            refine k_iand B dX10_forbid_77 ?_
            refine k_iconst B (v := 1) dX10_forbid_78 (by decide) ?_
            refine k_icmp_ne B 117 dX10_forbid_79 (by decide) (fun c79 => ?_) (fun c79 => ?_)
            · have hz : (sLo z i).2.2.1 &&& bit = 0 := Decidable.byContradiction (fun q => c79 ((bit_t _ (by omega)).mpr (by rw [hb9]; exact q)))
              exact no (by rw [fbB, rcB, decide_eq_true hz]; simp)
            · have hz : ¬ (sLo z i).2.2.1 &&& bit = 0 := by
                have := (bit_t _ (by omega)).mp c79
                rw [hb9] at this
                exact this
              -- mineral or spring
              have rc : ((sLo z i).2.2.2.1 = 0 ∨ (sLo z i).2.2.2.1 = 1) → kK p l e (kR 4 0 0) s m args below meth c D (kA σ s.heap.size) 6 (kQ below args s D σ (mPo D aM ma z (gForbid z (nI j)) (some (.int (rForbid z (nI j)))) (nForbid z (nI j)) (tCd 1 2 2) σ) (fun _ => False) 0 0) s1 0 0 103 [some (.ref aM), some (.int (nI j)), none, some (.int (nI (fbN z bit i))), some (.int (nI i)), none] [] := by
                intro hlb
                have hb9 : (decide ((sLo z i).2.2.2.1 = 0) || decide ((sLo z i).2.2.2.1 = 1)) = true := by
                  rcases hlb with h | h <;> simp [h]
                refine k_aload_n B dX10_forbid_103 rfl (by first | exact kRf_r _ | exact kRf_q _ | exact kRf_n) ?_
                refine gf_X10_87 B dX10_forbid_104 h2.o rfl ?_
                refine k_iload B dX10_forbid_107 rfl ?_
                refine k_zald B dX10_forbid_109 (h2.zb (k := 32) rfl (by decide)) (vp_in_nI hi40 (by decide)) ?_
                refine kK.rei (y := (sLo z i).2.2.2.2.2) (by rw [nI_clamp (by omega)]; exact t6) ?_
                refine k_if_ne B 117 dX10_forbid_110 (by decide) (fun c110 => ?_) (fun c110 => ?_)
                · exact no (by rw [fbB, rcB, decide_eq_false c110]; simp)
                · refine k_iconst B (v := 1) dX10_forbid_113 (by decide) ?_
                  refine k_goto B 118 dX10_forbid_114 (by decide) ?_
                  exact tl true (by rw [fbB, rcB, hb9, decide_eq_true c110, decide_eq_false hz]; rfl)
              refine k_aload_n B dX10_forbid_82 rfl (by first | exact kRf_r _ | exact kRf_q _ | exact kRf_n) ?_
              refine gf_X10_80 B dX10_forbid_83 h2.o rfl ?_
              refine k_iload B dX10_forbid_86 rfl ?_
              refine k_iald B dX10_forbid_88 (h2.i (k := 30) rfl (by decide)) (vp_in_nI hi40 (by decide)) ?_
              refine kK.rei (y := (sLo z i).2.2.2.1) (by rw [nI_clamp (by omega)]; exact t4) ?_
              refine k_if_eq B 103 dX10_forbid_89 (by decide) (fun c89 => ?_) (fun c89 => ?_)
              · exact rc (Or.inl c89)
              · refine k_aload_n B dX10_forbid_92 rfl (by first | exact kRf_r _ | exact kRf_q _ | exact kRf_n) ?_
                refine gf_X10_80 B dX10_forbid_93 h2.o rfl ?_
                refine k_iload B dX10_forbid_96 rfl ?_
                refine k_iald B dX10_forbid_98 (h2.i (k := 30) rfl (by decide)) (vp_in_nI hi40 (by decide)) ?_
                refine kK.rei (y := (sLo z i).2.2.2.1) (by rw [nI_clamp (by omega)]; exact t4) ?_
                refine k_iconst B (v := 1) dX10_forbid_99 (by decide) ?_
                refine k_icmp_ne B 117 dX10_forbid_100 (by decide) (fun c100 => ?_) (fun c100 => ?_)
                · exact no (by rw [fbB, rcB, decide_eq_false c89, decide_eq_false c100]; rfl)
                · exact rc (Or.inr c100)
      refine k_iconst B (v := 0) dX10_forbid_55 (by decide) ?_
      refine k_istore B dX10_forbid_56 (by decide) ?_
      try refine kK.set1 (by first | exact True.intro | rfl | exact kCat_q _) ?_
      have e0 : fbS z bit 0 = ((z.1.1, z.1.2.1, z.1.2.2.1, z.1.2.2.2.1, z.1.2.2.2.2.1, sFb z ||| bit, z.1.2.2.2.2.2.2), z.2) := by rw [fbS, fbL_0]
      rw [← nI_0]
      refine kK.sub (L2 := [some (.ref aM), some (.int (nI j)), none, some (.int (nI 0)), some (.int (nI 0)), none]) ⟨Or.inr rfl, Or.inr rfl, Or.inl rfl, Or.inr rfl, Or.inr rfl, Or.inl rfl, trivial⟩ ?_
      exact loop (sLn z) 0 mv _ none (Nat.zero_add _) (by rw [e0]; exact ⟨h1.m.up _, h1.2⟩) (fh1.tr (kOut.up mOwn.o))
    · have hb0 : ¬ sFb z &&& bitI (nI j) = 0 := (bit_t _ (by omega)).mp c25
      refine k_iconst B (v := 2) dX10_forbid_28 (by decide) ?_
      refine k_goto B 33 dX10_forbid_29 (by decide) ?_
      refine cl_X10_107 B (c_X10_can hl h.m) h.o dX10_forbid_33 (by first | exact Nat.le_of_ble_eq_true rfl | omega | (simp only [kR, Value.category, kCat_q, List.map, List.sum_cons, List.sum_nil]; omega)) (by first | exact Nat.le_of_ble_eq_true rfl | omega | (simp only [kR, Value.category, kCat_q, List.map, List.sum_cons, List.sum_nil]; omega)) (by first | exact Nat.le_of_ble_eq_true rfl | omega | (simp only [kR, Value.category, kCat_q, List.map, List.sum_cons, List.sum_nil]; omega)) (by first | exact Nat.le_of_ble_eq_true rfl | omega | (simp only [kR, Value.category, kCat_q, List.map, List.sum_cons, List.sum_nil]; omega)) (by first | exact Nat.le_of_ble_eq_true rfl | omega | (simp only [kR, Value.category, kCat_q, List.map, List.sum_cons, List.sum_nil]; omega)) (fun _ hx => hx.elim) (fun v33 s33 hp33 => ?_)
      obtain ⟨rfl, e33⟩ := hp33
      rw [e33]
      refine k_if_ne B 41 dX10_forbid_36 (by decide) (fun c36 => absurd (by decide) c36) (fun _ => ?_)
      refine k_iconst B (v := 0) dX10_forbid_39 (by decide) ?_
      refine k_iret B hr dX10_forbid_40 ?_ (by first | exact Nat.le_of_ble_eq_true rfl | omega | (simp only [kR, Value.category, kCat_q, List.map, List.sum_cons, List.sum_nil]; omega)) (by first | exact Nat.le_of_ble_eq_true rfl | omega | (simp only [kR, Value.category, kCat_q, List.map, List.sum_cons, List.sum_nil]; omega))
      exact mPo.no h (gg.trans (gSt_f (decide_eq_false hb0) rfl)) tCd_S rfl
  · refine k_iconst B (v := 1) dX10_forbid_12 (by decide) ?_
    refine k_goto B 33 dX10_forbid_13 (by decide) ?_
    refine cl_X10_107 B (c_X10_can hl h.m) h.o dX10_forbid_33 (by first | exact Nat.le_of_ble_eq_true rfl | omega | (simp only [kR, Value.category, kCat_q, List.map, List.sum_cons, List.sum_nil]; omega)) (by first | exact Nat.le_of_ble_eq_true rfl | omega | (simp only [kR, Value.category, kCat_q, List.map, List.sum_cons, List.sum_nil]; omega)) (by first | exact Nat.le_of_ble_eq_true rfl | omega | (simp only [kR, Value.category, kCat_q, List.map, List.sum_cons, List.sum_nil]; omega)) (by first | exact Nat.le_of_ble_eq_true rfl | omega | (simp only [kR, Value.category, kCat_q, List.map, List.sum_cons, List.sum_nil]; omega)) (by first | exact Nat.le_of_ble_eq_true rfl | omega | (simp only [kR, Value.category, kCat_q, List.map, List.sum_cons, List.sum_nil]; omega)) (fun _ hx => hx.elim) (fun v33 s33 hp33 => ?_)
    obtain ⟨rfl, e33⟩ := hp33
    rw [e33]
    refine k_if_ne B 41 dX10_forbid_36 (by decide) (fun c36 => absurd (by decide) c36) (fun _ => ?_)
    refine k_iconst B (v := 0) dX10_forbid_39 (by decide) ?_
    refine k_iret B hr dX10_forbid_40 ?_ (by first | exact Nat.le_of_ble_eq_true rfl | omega | (simp only [kR, Value.category, kCat_q, List.map, List.sum_cons, List.sum_nil]; omega)) (by first | exact Nat.le_of_ble_eq_true rfl | omega | (simp only [kR, Value.category, kCat_q, List.map, List.sum_cons, List.sum_nil]; omega))
    exact mPo.no h (gIx_n ⟨rfl, in_n (n := 6) (by decide) rfl (bI_q c9)⟩) tCd_I rfl
end Ref20
