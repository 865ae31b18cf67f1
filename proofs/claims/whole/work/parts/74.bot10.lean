theorem mT.snoc {n : Nat} {T : Nat → kLo} {mv mv2 : Nat → Nat → Int32} (h : mT n T mv) {k : kLo} (he : ∀ a i, 27 ≤ a → a ≤ 32 → i ≠ n → mv2 a i = mv a i) (h31 : mv2 31 n = mv 31 n) (h32 : mv2 32 n = mv 32 n) (hk : mv2 27 n = nI k.1 ∧ mv2 28 n = nI k.2.1 ∧ mv2 29 n = k.2.2.1 ∧ mv2 30 n = k.2.2.2.1) (k5 : k.2.2.2.2.1 = 0) (k6 : k.2.2.2.2.2 = 0) : mT (n + 1) (upN T n k) mv2 := ⟨fun i hi => by
  by_cases q : i = n
  · subst q; rw [upN_eq, h31, h32, (h.2 i (Nat.le_refl i)).1, (h.2 i (Nat.le_refl i)).2, k5, k6]
    exact ⟨hk.1, hk.2.1, hk.2.2.1, hk.2.2.2, rfl, rfl⟩
  · rw [upN_ne q, he 27 i (by decide) (by decide) q, he 28 i (by decide) (by decide) q, he 29 i (by decide) (by decide) q, he 30 i (by decide) (by decide) q, he 31 i (by decide) (by decide) q, he 32 i (by decide) (by decide) q]
    exact h.1 i (by omega), fun i hi => by
  rw [he 31 i (by decide) (by decide) (by omega), he 32 i (by decide) (by decide) (by omega)]
  exact h.2 i (by omega)⟩
theorem fBot_bot {z : kSt} {i t : Nat} (hc : (sW z i).1 < 10) (htu : t ≤ unS (sR z (sW z i).1)) : fBot (botS z i t) = fBot z + t := by
  show suN (fun a => unS (upN (upN (sR z) (sW z i).1 (tkS (sR z (sW z i).1) t).2) (11 + sLn z) (tkS (sR z (sW z i).1) t).1 (11 + a))) (sLn z + 1) = _
  simp only [suN]
  rw [upN_eq, tkS_all htu]
  congr 1
  exact suN_congr (fun a ha => by rw [upN_ne (by omega), upN_ne (by omega)])
section Bot10
variable {l : Launch} {D : va_G} {σ : kS} {aM : Nat} {ma : Nat → Nat} {z : kSt} {t : Int32}
set_option maxHeartbeats 1000000 in
set_option maxRecDepth 100000 in
theorem c_X10_bottle (hl : l.stackTraces = false) (hs : sOk z) (h : cl10 D aM ma z t σ) {w u : Int32} : kMh hX10_bottle l D yX10_bottle 5 0 0 [.ref aM, .int w, .int u] σ (mPo D aM ma z (gBottle z w u) (some (.int (rBottle z))) (nBottle z w u) (tCd 1 2 3) σ) (fun _ => False) := by
  refine kM_of (L := [some (.ref aM), some (.int w), some (.int u), none, none]) (by decide +kernel) hl (List.forall_mem_cons.mpr ⟨rfl, (List.forall_mem_cons.mpr ⟨rfl, (List.forall_mem_cons.mpr ⟨rfl, (fun _ h => absurd h List.not_mem_nil)⟩)⟩)⟩) (Nat.le_of_ble_eq_true rfl) rfl ?_
  intro p e s m args below meth c B hr hex hnm
  have B : kB p l s m args meth c D (kA σ s.heap.size) 5 cX10_bottle RX10 := B
  obtain ⟨mv, kn, Lk, h⟩ := h
  have h40 := hs.2.2.2.1.1
  have hw6 := hs.2.2.1.1
  refine k_aload_n B dX10_bottle_0 rfl (by first | exact kRf_r _ | exact kRf_q _ | exact kRf_n) ?_
  refine k_iload_n B dX10_bottle_1 rfl ?_
  refine cl_X10_165 B (c_X10_isWell hl h.m) h.o dX10_bottle_2 (by first | exact Nat.le_of_ble_eq_true rfl | omega | (simp only [kR, Value.category, kCat_q, List.map, List.sum_cons, List.sum_nil]; omega)) (by first | exact Nat.le_of_ble_eq_true rfl | omega | (simp only [kR, Value.category, kCat_q, List.map, List.sum_cons, List.sum_nil]; omega)) (by first | exact Nat.le_of_ble_eq_true rfl | omega | (simp only [kR, Value.category, kCat_q, List.map, List.sum_cons, List.sum_nil]; omega)) (by first | exact Nat.le_of_ble_eq_true rfl | omega | (simp only [kR, Value.category, kCat_q, List.map, List.sum_cons, List.sum_nil]; omega)) (by first | exact Nat.le_of_ble_eq_true rfl | omega | (simp only [kR, Value.category, kCat_q, List.map, List.sum_cons, List.sum_nil]; omega)) (fun _ hx => hx.elim) (fun v2 s2 hp2 => ?_)
  obtain ⟨rfl, e2⟩ := hp2
  rw [e2]
  refine k_istore_n B dX10_bottle_5 (by decide) ?_
  try refine kK.set1 (by first | exact True.intro | rfl | exact kCat_q _) ?_
  refine k_iload_n B dX10_bottle_6 rfl ?_
  refine k_iconst B (v := 1) dX10_bottle_7 (by decide) ?_
  refine k_sipush B (v := 1000) dX10_bottle_8 (by decide) ?_
  refine cl_X10_93 B (c_X10_isIn hl) dX10_bottle_11 (by first | exact Nat.le_of_ble_eq_true rfl | omega | (simp only [kR, Value.category, kCat_q, List.map, List.sum_cons, List.sum_nil]; omega)) (by first | exact Nat.le_of_ble_eq_true rfl | omega | (simp only [kR, Value.category, kCat_q, List.map, List.sum_cons, List.sum_nil]; omega)) (by first | exact Nat.le_of_ble_eq_true rfl | omega | (simp only [kR, Value.category, kCat_q, List.map, List.sum_cons, List.sum_nil]; omega)) (by first | exact Nat.le_of_ble_eq_true rfl | omega | (simp only [kR, Value.category, kCat_q, List.map, List.sum_cons, List.sum_nil]; omega)) (by first | exact Nat.le_of_ble_eq_true rfl | omega | (simp only [kR, Value.category, kCat_q, List.map, List.sum_cons, List.sum_nil]; omega)) (fun _ hx => hx.elim) (fun v11 s11 hp11 => ?_)
  obtain ⟨rfl, e11⟩ := hp11
  rw [e11]
  refine k_istore B dX10_bottle_14 (by decide) ?_
  try refine kK.set1 (by first | exact True.intro | rfl | exact kCat_q _) ?_
  refine k_aload_n B dX10_bottle_16 rfl (by first | exact kRf_r _ | exact kRf_q _ | exact kRf_n) ?_
  refine k_iload_n B dX10_bottle_17 rfl ?_
  refine k_if_ne B 25 dX10_bottle_18 (by decide) (fun c18 => ?_) (fun c18 => ?_)
  · obtain ⟨i, hi, rfl, g1⟩ := in_p (n := sWn z) (by omega) rfl (bI_p c18)
    have hi6 : i < 6 := by omega
    obtain ⟨w1, w2, w3⟩ := h.W i hi
    have hwk := hs.2.2.1.2 i hi
    have hml := rMay_le (z := z) (i := i)
    have hc10 := hwk.1
    have hp4 := hwk.2.1
    have hp5 := hwk.2.2
    refine k_iload B dX10_bottle_25 rfl ?_
    refine k_if_ne B 34 dX10_bottle_27 (by decide) (fun c27 => ?_) (fun c27 => ?_)
    · have g2 : inR u 1 1000 := rg_p c27
      obtain ⟨tt, ht1, ht2, rfl⟩ := inR_of (a := 1) (n := 1000) rfl rfl (by decide) (by decide) g2
      have gg : gBottle z (nI i) (nI tt) = gSt (decide (tt ≤ rMay z i) && (decide (tt ≤ unS (sR z (sW z i).1)) && decide (sLn z < 40))) := by
        rw [gBottle]
        refine (gIx_p g1).trans ((gRg_p g2).trans ?_)
        rw [cN_nI (by omega), cN_nI (by omega)]
      have hu := hs.un (i := (sW z i).1) (by omega)
      have hun := h.un (r := (sW z i).1) (by omega) (by omega)
      have bad : (decide (tt ≤ rMay z i) && (decide (tt ≤ unS (sR z (sW z i).1)) && decide (sLn z < 40))) = false → kK p l e (kR 5 0 0) s m args below meth c D (kA σ s.heap.size) 5 (kQ below args s D σ (mPo D aM ma z (gBottle z (nI i) (nI tt)) (some (.int (rBottle z))) (nBottle z (nI i) (nI tt)) (tCd 1 2 3) σ) (fun _ => False) 0 0) σ 0 0 67 [some (.ref aM), some (.int (nI i)), some (.int (nI tt)), some (.int (bI (decide (0 ≤ nI i ∧ nI i ≤ (qZ z kn t).1.2.2.1 - 1)))), some (.int (bI (decide (1 ≤ nI tt ∧ nI tt ≤ 1000))))] [.ref aM] := by
        intro hb
        refine k_iconst B (v := 3) dX10_bottle_67 (by decide) ?_
        refine k_goto B 72 dX10_bottle_68 (by decide) ?_
        refine cl_X10_107 B (c_X10_can hl h.m) h.o dX10_bottle_72 (by first | exact Nat.le_of_ble_eq_true rfl | omega | (simp only [kR, Value.category, kCat_q, List.map, List.sum_cons, List.sum_nil]; omega)) (by first | exact Nat.le_of_ble_eq_true rfl | omega | (simp only [kR, Value.category, kCat_q, List.map, List.sum_cons, List.sum_nil]; omega)) (by first | exact Nat.le_of_ble_eq_true rfl | omega | (simp only [kR, Value.category, kCat_q, List.map, List.sum_cons, List.sum_nil]; omega)) (by first | exact Nat.le_of_ble_eq_true rfl | omega | (simp only [kR, Value.category, kCat_q, List.map, List.sum_cons, List.sum_nil]; omega)) (by first | exact Nat.le_of_ble_eq_true rfl | omega | (simp only [kR, Value.category, kCat_q, List.map, List.sum_cons, List.sum_nil]; omega)) (fun _ hx => hx.elim) (fun v72 s72 hp72 => ?_)
        obtain ⟨rfl, e72⟩ := hp72
        rw [e72]
        refine k_if_ne B 80 dX10_bottle_75 (by decide) (fun c75 => absurd (by decide) c75) (fun _ => ?_)
        refine k_iconst B (v := 0) dX10_bottle_78 (by decide) ?_
        refine k_iret B hr dX10_bottle_79 ?_ (by first | exact Nat.le_of_ble_eq_true rfl | omega | (simp only [kR, Value.category, kCat_q, List.map, List.sum_cons, List.sum_nil]; omega)) (by first | exact Nat.le_of_ble_eq_true rfl | omega | (simp only [kR, Value.category, kCat_q, List.map, List.sum_cons, List.sum_nil]; omega))
        exact mPo.no h (gg.trans (gSt_f hb rfl)) tCd_S rfl
      refine k_iload_n B dX10_bottle_34 rfl ?_
      refine k_aload_n B dX10_bottle_35 rfl (by first | exact kRf_r _ | exact kRf_q _ | exact kRf_n) ?_
      refine k_iload_n B dX10_bottle_36 rfl ?_
      refine cl_X10_168 B (c_X10_may hl hs h hi) h.o dX10_bottle_37 (by first | exact Nat.le_of_ble_eq_true rfl | omega | (simp only [kR, Value.category, kCat_q, List.map, List.sum_cons, List.sum_nil]; omega)) (by first | exact Nat.le_of_ble_eq_true rfl | omega | (simp only [kR, Value.category, kCat_q, List.map, List.sum_cons, List.sum_nil]; omega)) (by first | exact Nat.le_of_ble_eq_true rfl | omega | (simp only [kR, Value.category, kCat_q, List.map, List.sum_cons, List.sum_nil]; omega)) (by first | exact Nat.le_of_ble_eq_true rfl | omega | (simp only [kR, Value.category, kCat_q, List.map, List.sum_cons, List.sum_nil]; omega)) (by first | exact Nat.le_of_ble_eq_true rfl | omega | (simp only [kR, Value.category, kCat_q, List.map, List.sum_cons, List.sum_nil]; omega)) (fun _ hx => hx.elim) (fun v37 s37 hp37 => ?_)
      obtain ⟨rfl, e37⟩ := hp37
      rw [e37]
      refine kK.rev (y := .int (nI (rMay z i))) rfl ?_
      refine k_icmp_gt B 67 dX10_bottle_40 (by decide) (fun c40 => ?_) (fun c40 => ?_)
      · have hlt := (nI_ltI (by omega) (by omega)).mp c40
        exact bad (by rw [decide_eq_false (by omega : ¬ tt ≤ rMay z i)]; rfl)
      · have hle1 : tt ≤ rMay z i := by
          have : ¬ rMay z i < tt := fun q => c40 ((nI_ltI (by omega) (by omega)).mpr q)
          omega
        refine k_iload_n B dX10_bottle_43 rfl ?_
        refine k_aload_n B dX10_bottle_44 rfl (by first | exact kRf_r _ | exact kRf_q _ | exact kRf_n) ?_
        refine gf_X10_34 B dX10_bottle_45 h.o rfl ?_
        refine k_aload_n B dX10_bottle_48 rfl (by first | exact kRf_r _ | exact kRf_q _ | exact kRf_n) ?_
        refine gf_X10_58 B dX10_bottle_49 h.o rfl ?_
        refine k_iload_n B dX10_bottle_52 rfl ?_
        refine k_iald B dX10_bottle_53 (h.i (k := 19) rfl (by decide)) (vp_in_nI hi6 (by decide)) ?_
        refine kK.rei (y := nI (sW z i).1) (by rw [nI_clamp (by omega)]; exact w1) ?_
        refine k_iald B dX10_bottle_54 (h.i (k := 9) rfl (by decide)) (vp_in_nI (show (sW z i).1 < 51 by omega) (by decide)) ?_
        refine kK.rei (y := nI (unS (sR z (sW z i).1))) (by rw [nI_clamp (by omega)]; exact hun) ?_
        refine k_icmp_gt B 67 dX10_bottle_55 (by decide) (fun c55 => ?_) (fun c55 => ?_)
        · have hlt := (nI_ltI (by omega) (by omega)).mp c55
          exact bad (by rw [decide_eq_false (by omega : ¬ tt ≤ unS (sR z (sW z i).1)), Bool.false_and, Bool.and_false])
        · have hle2 : tt ≤ unS (sR z (sW z i).1) := by
            have : ¬ unS (sR z (sW z i).1) < tt := fun q => c55 ((nI_ltI (by omega) (by omega)).mpr q)
            omega
          refine k_aload_n B dX10_bottle_58 rfl (by first | exact kRf_r _ | exact kRf_q _ | exact kRf_n) ?_
          refine gf_X10_100 B dX10_bottle_59 h.o rfl ?_
          refine kK.rei (y := nI (sLn z)) rfl ?_
          refine k_bipush B (v := 40) dX10_bottle_62 (by decide) ?_
          refine k_icmp_ne B 71 dX10_bottle_64 (by decide) (fun c64 => ?_) (fun c64 => ?_)
          · have hln : sLn z < 40 := by
              have : sLn z ≠ 40 := fun q => c64 (by rw [q]; rfl)
              omega
            have gn : gBottle z (nI i) (nI tt) = none := gg.trans (gSt_t (by rw [decide_eq_true hle1, decide_eq_true hle2, decide_eq_true hln]; rfl))
            have hnb := h.nb
            have hn3 := hs.1.1
            have hcon := h.C.1 (sW z i).1 (by omega)
            have hnone := h.C.2 (11 + sLn z) (by omega) (by omega)
            refine k_iconst B (v := 0) dX10_bottle_71 (by decide) ?_
            refine cl_X10_107 B (c_X10_can hl h.m) h.o dX10_bottle_72 (by first | exact Nat.le_of_ble_eq_true rfl | omega | (simp only [kR, Value.category, kCat_q, List.map, List.sum_cons, List.sum_nil]; omega)) (by first | exact Nat.le_of_ble_eq_true rfl | omega | (simp only [kR, Value.category, kCat_q, List.map, List.sum_cons, List.sum_nil]; omega)) (by first | exact Nat.le_of_ble_eq_true rfl | omega | (simp only [kR, Value.category, kCat_q, List.map, List.sum_cons, List.sum_nil]; omega)) (by first | exact Nat.le_of_ble_eq_true rfl | omega | (simp only [kR, Value.category, kCat_q, List.map, List.sum_cons, List.sum_nil]; omega)) (by first | exact Nat.le_of_ble_eq_true rfl | omega | (simp only [kR, Value.category, kCat_q, List.map, List.sum_cons, List.sum_nil]; omega)) (fun _ hx => hx.elim) (fun v72 s72 hp72 => ?_)
            obtain ⟨rfl, e72⟩ := hp72
            rw [e72]
            refine k_if_ne B 80 dX10_bottle_75 (by decide) (fun _ => ?_) (fun c75 => absurd c75 (by decide))
            have h1 := h.can 0
            have fh1 : kOut (mOwn aM ma) σ (kUp σ aM (m10E ma (setT (qZ z kn t) 0))) := kOut.up mOwn.o
            refine k_aload_n B dX10_bottle_80 rfl (by first | exact kRf_r _ | exact kRf_q _ | exact kRf_n) ?_
            refine k_aload_n B dX10_bottle_81 rfl (by first | exact kRf_r _ | exact kRf_q _ | exact kRf_n) ?_
            refine gf_X10_58 B dX10_bottle_82 h1.o rfl ?_
            refine k_iload_n B dX10_bottle_85 rfl ?_
            refine k_iald B dX10_bottle_86 (h1.i (k := 19) rfl (by decide)) (vp_in_nI hi6 (by decide)) ?_
            refine kK.rei (y := nI (sW z i).1) (by rw [nI_clamp (by omega)]; exact w1) ?_
            refine k_aload_n B dX10_bottle_87 rfl (by first | exact kRf_r _ | exact kRf_q _ | exact kRf_n) ?_
            refine gf_X10_100 B dX10_bottle_88 h1.o rfl ?_
            refine kK.rei (y := nI (sLn z)) rfl ?_
            refine cl_X10_171 B (c_X10_lotRow hl) dX10_bottle_91 (by first | exact Nat.le_of_ble_eq_true rfl | omega | (simp only [kR, Value.category, kCat_q, List.map, List.sum_cons, List.sum_nil]; omega)) (by first | exact Nat.le_of_ble_eq_true rfl | omega | (simp only [kR, Value.category, kCat_q, List.map, List.sum_cons, List.sum_nil]; omega)) (by first | exact Nat.le_of_ble_eq_true rfl | omega | (simp only [kR, Value.category, kCat_q, List.map, List.sum_cons, List.sum_nil]; omega)) (by first | exact Nat.le_of_ble_eq_true rfl | omega | (simp only [kR, Value.category, kCat_q, List.map, List.sum_cons, List.sum_nil]; omega)) (by first | exact Nat.le_of_ble_eq_true rfl | omega | (simp only [kR, Value.category, kCat_q, List.map, List.sum_cons, List.sum_nil]; omega)) (fun _ hx => hx.elim) (fun v91 s91 hp91 => ?_)
            obtain ⟨rfl, e91⟩ := hp91
            rw [e91]
            refine kK.rev (y := .int (nI (11 + sLn z))) rfl ?_
            refine k_iload_n B dX10_bottle_94 rfl ?_
            refine cl_X10_138 B (c_X10_moves hl h1.m rfl (by omega) h1.L (r := (sW z i).1) (d := 11 + sLn z) (w := tt) (by omega) (by omega) (by omega) (by rw [hcon]; omega) (by rw [hcon]; exact fun q hq => (hs.pk (i := (sW z i).1) (by omega) q hq).2.2.2) (by rw [hcon]; exact hle2)) h1.o dX10_bottle_95 (by first | exact Nat.le_of_ble_eq_true rfl | omega | (simp only [kR, Value.category, kCat_q, List.map, List.sum_cons, List.sum_nil]; omega)) (by first | exact Nat.le_of_ble_eq_true rfl | omega | (simp only [kR, Value.category, kCat_q, List.map, List.sum_cons, List.sum_nil]; omega)) (by first | exact Nat.le_of_ble_eq_true rfl | omega | (simp only [kR, Value.category, kCat_q, List.map, List.sum_cons, List.sum_nil]; omega)) (by first | exact Nat.le_of_ble_eq_true rfl | omega | (simp only [kR, Value.category, kCat_q, List.map, List.sum_cons, List.sum_nil]; omega)) (by first | exact Nat.le_of_ble_eq_true rfl | omega | (simp only [kR, Value.category, kCat_q, List.map, List.sum_cons, List.sum_nil]; omega)) (fun _ hx => hx.elim) (fun v95 s95 hp95 => ?_)
            obtain ⟨rfl, ⟨mv2, kn2, Lk2, g3, g4, g5, g6, g7, g8, g9⟩, f95⟩ := hp95
            rw [hcon] at g7 g8
            rw [hnone] at g8
            have g8 : kCon (Lk2 (11 + sLn z)) = (tkS (sR z (sW z i).1) tt).1 := g8
            have w3b : mv2 21 i = nI (sW z i).2.2 := (g9 21 i ⟨by decide, by decide⟩).trans w3
            refine k_aload_n B dX10_bottle_98 rfl (by first | exact kRf_r _ | exact kRf_q _ | exact kRf_n) ?_
            refine gf_X10_64 B dX10_bottle_99 g3.o rfl ?_
            refine k_iload_n B dX10_bottle_102 rfl ?_
            refine k_dup2 B dX10_bottle_103 rfl rfl ?_
            refine k_iald B dX10_bottle_104 (g3.i (k := 21) rfl (by decide)) (vp_in_nI hi6 (by decide)) ?_
            refine kK.rei (y := nI (sW z i).2.2) (by rw [nI_clamp (by omega)]; exact w3b) ?_
            refine k_iload_n B dX10_bottle_105 rfl ?_
            refine k_iadd B dX10_bottle_106 ?_
            refine kK.rei (y := nI ((sW z i).2.2 + tt)) (nI_add _ _) ?_
            refine k_iast B dX10_bottle_107 (g3.i (k := 21) rfl (by decide)) (vp_in_nI hi6 (by decide)) ?_
            have m4 := g3.s (k := 21) rfl (by decide) (i := i) (by omega) (nI ((sW z i).2.2 + tt))
            refine k_aload_n B dX10_bottle_108 rfl (by first | exact kRf_r _ | exact kRf_q _ | exact kRf_n) ?_
            refine k_dup B dX10_bottle_109 rfl ?_
            refine gf_X10_174 B dX10_bottle_110 m4.o rfl ?_
            refine k_iload_n B dX10_bottle_113 rfl ?_
            refine k_i2l B dX10_bottle_114 ?_
            refine kK.rel (y := nL tt) (nI_L (by omega)) ?_
            refine k_ladd B dX10_bottle_115 ?_
            refine kK.rel (y := nL (fBot z + tt)) (nL_add _ _) ?_
            refine pf_X10_174 B dX10_bottle_116 m4.o rfl ?_
            have m5 := m4.up (((nI (sNow z), nI kn2, nI (sWn z), nI (sDr z), nI (sL1 z), nI (sL2 z), nI (sCen z), nI (sLn z), sFb z), (nL (sFal z), nL (sSpr z), nL (fBot z + tt), nL (sPai z), nL (sVil z)), 0) : kQc)
            refine k_aload_n B dX10_bottle_119 rfl (by first | exact kRf_r _ | exact kRf_q _ | exact kRf_n) ?_
            refine k_dup B dX10_bottle_120 rfl ?_
            refine gf_X10_177 B dX10_bottle_121 m5.o rfl ?_
            refine k_aload_n B dX10_bottle_124 rfl (by first | exact kRf_r _ | exact kRf_q _ | exact kRf_n) ?_
            refine gf_X10_67 B dX10_bottle_125 m5.o rfl ?_
            refine k_i2l B dX10_bottle_128 ?_
            refine kK.rel (y := nL (sCen z)) (nI_L (by have := hs.1.2.1; omega)) ?_
            refine k_iload_n B dX10_bottle_129 rfl ?_
            refine k_i2l B dX10_bottle_130 ?_
            refine kK.rel (y := nL tt) (nI_L (by omega)) ?_
            refine k_lmul B dX10_bottle_131 ?_
            refine kK.rel (y := nL (tt * sCen z)) ((nL_mul _ _).trans (by rw [Nat.mul_comm])) ?_
            refine k_ladd B dX10_bottle_132 ?_
            refine kK.rel (y := nL (sVil z + tt * sCen z)) (nL_add _ _) ?_
            refine pf_X10_177 B dX10_bottle_133 m5.o rfl ?_
            have m6 := m5.up (((nI (sNow z), nI kn2, nI (sWn z), nI (sDr z), nI (sL1 z), nI (sL2 z), nI (sCen z), nI (sLn z), sFb z), (nL (sFal z), nL (sSpr z), nL (fBot z + tt), nL (sPai z), nL (sVil z + tt * sCen z)), 0) : kQc)
            refine k_aload_n B dX10_bottle_136 rfl (by first | exact kRf_r _ | exact kRf_q _ | exact kRf_n) ?_
            refine gf_X10_71 B dX10_bottle_137 m6.o rfl ?_
            refine k_aload_n B dX10_bottle_140 rfl (by first | exact kRf_r _ | exact kRf_q _ | exact kRf_n) ?_
            refine gf_X10_100 B dX10_bottle_141 m6.o rfl ?_
            refine k_iload_n B dX10_bottle_144 rfl ?_
            refine k_iast B dX10_bottle_145 (m6.i (k := 27) rfl (by decide)) (vp_in_nI hln (by decide)) ?_
            have m7 := m6.s (k := 27) rfl (by decide) (i := sLn z) (by omega) (nI i)
            refine k_aload_n B dX10_bottle_146 rfl (by first | exact kRf_r _ | exact kRf_q _ | exact kRf_n) ?_
            refine gf_X10_74 B dX10_bottle_147 m7.o rfl ?_
            refine k_aload_n B dX10_bottle_150 rfl (by first | exact kRf_r _ | exact kRf_q _ | exact kRf_n) ?_
            refine gf_X10_100 B dX10_bottle_151 m7.o rfl ?_
            refine k_aload_n B dX10_bottle_154 rfl (by first | exact kRf_r _ | exact kRf_q _ | exact kRf_n) ?_
            refine gf_X10_131 B dX10_bottle_155 m7.o rfl ?_
            refine k_iast B dX10_bottle_158 (m7.i (k := 28) rfl (by decide)) (vp_in_nI hln (by decide)) ?_
            have m8 := m7.s (k := 28) rfl (by decide) (i := sLn z) (by omega) (nI (sNow z))
            refine k_aload_n B dX10_bottle_159 rfl (by first | exact kRf_r _ | exact kRf_q _ | exact kRf_n) ?_
            refine gf_X10_77 B dX10_bottle_160 m8.o rfl ?_
            refine k_aload_n B dX10_bottle_163 rfl (by first | exact kRf_r _ | exact kRf_q _ | exact kRf_n) ?_
            refine gf_X10_100 B dX10_bottle_164 m8.o rfl ?_
            refine k_iconst B (v := 0) dX10_bottle_167 (by decide) ?_
            refine k_iast B dX10_bottle_168 (m8.i (k := 29) rfl (by decide)) (vp_in_nI hln (by decide)) ?_
            have m9 := m8.s (k := 29) rfl (by decide) (i := sLn z) (by omega) 0
            refine k_aload_n B dX10_bottle_169 rfl (by first | exact kRf_r _ | exact kRf_q _ | exact kRf_n) ?_
            refine gf_X10_80 B dX10_bottle_170 m9.o rfl ?_
            refine k_aload_n B dX10_bottle_173 rfl (by first | exact kRf_r _ | exact kRf_q _ | exact kRf_n) ?_
            refine gf_X10_100 B dX10_bottle_174 m9.o rfl ?_
            refine k_iconst B (v := (-1)) dX10_bottle_177 (by decide) ?_
            refine k_iast B dX10_bottle_178 (m9.i (k := 30) rfl (by decide)) (vp_in_nI hln (by decide)) ?_
            have m10 := m9.s (k := 30) rfl (by decide) (i := sLn z) (by omega) (-1)
            refine k_aload_n B dX10_bottle_179 rfl (by first | exact kRf_r _ | exact kRf_q _ | exact kRf_n) ?_
            refine k_dup B dX10_bottle_180 rfl ?_
            refine gf_X10_100 B dX10_bottle_181 m10.o rfl ?_
            refine k_iconst B (v := 1) dX10_bottle_184 (by decide) ?_
            refine k_iadd B dX10_bottle_185 ?_
            refine kK.rei (y := nI (sLn z + 1)) (nI_1 _) ?_
            refine pf_X10_100 B dX10_bottle_186 m10.o rfl ?_
            refine k_aload_n B dX10_bottle_189 rfl (by first | exact kRf_r _ | exact kRf_q _ | exact kRf_n) ?_
            refine gf_X10_100 B dX10_bottle_190 kUp_eq rfl ?_
            refine k_iconst B (v := 1) dX10_bottle_193 (by decide) ?_
            refine k_isub B dX10_bottle_194 ?_
            refine kK.rei (y := nI (sLn z)) (nI_pred _) ?_
            refine k_iret B hr dX10_bottle_195 ?_ (by first | exact Nat.le_of_ble_eq_true rfl | omega | (simp only [kR, Value.category, kCat_q, List.map, List.sum_cons, List.sum_nil]; omega)) (by first | exact Nat.le_of_ble_eq_true rfl | omega | (simp only [kR, Value.category, kCat_q, List.map, List.sum_cons, List.sum_nil]; omega))
            have hfb := fBot_bot (z := z) hc10 hle2
            refine mPo.ok gn rfl ?_ ((((((((((fh1.tr f95).tr (kOut.up (mOwn.a (k := 21) rfl))).tr (kOut.up mOwn.o)).tr (kOut.up mOwn.o)).tr (kOut.up (mOwn.a (k := 27) rfl))).tr (kOut.up (mOwn.a (k := 28) rfl))).tr (kOut.up (mOwn.a (k := 29) rfl))).tr (kOut.up (mOwn.a (k := 30) rfl)))).tr (kOut.up mOwn.o))
            rw [nBottle, cN_nI (by omega), cN_nI (by omega)]
            have c9 : ∀ a j, (¬ (27 ≤ a ∧ a ≤ 30) ∨ j ≠ sLn z) → (a ≠ 21 ∨ j ≠ i) → mS (mS (mS (mS (mS mv2 21 i (nI ((sW z i).2.2 + tt))) 27 (sLn z) (nI i)) 28 (sLn z) (nI (sNow z))) 29 (sLn z) 0) 30 (sLn z) (-1) a j = mv2 a j := fun a j q1 q2 => by
              rw [mS_c (lo := 27) (hi := 30) (by decide) a j q1, mS_c (lo := 27) (hi := 30) (by decide) a j q1, mS_c (lo := 27) (hi := 30) (by decide) a j q1, mS_c (lo := 27) (hi := 30) (by decide) a j q1]
              exact q2.elim (fun q => mS_k q) (fun q => mS_j q)
            refine ⟨_, kn2, Lk2, ?_, ?_, h.K.keep (fun a j q1 q2 => (c9 a j (Or.inl (by omega)) (Or.inl (by omega))).trans (g9 a j ⟨by omega, by omega⟩)), ?_, ?_, g4.keep (fun a j q => c9 a j (Or.inl (by omega)) (Or.inl (by omega))), fun j hj => ?_, fun j hj hj2 => ?_⟩
            · show mI D aM ma _ (qB (botS z i tt) (fBot (botS z i tt)) kn2 0) _
              rw [hfb]
              exact m10.up _
            · show kn2 ≤ 20 * sNow z + (sLn z + 1)
              omega
            · show mW (sWn z) (upN (sW z) i ((sW z i).1, (sW z i).2.1, (sW z i).2.2 + tt)) _
              refine h.W.up (fun a j q1 q2 q => (c9 a j (Or.inl (by omega)) (Or.inr q)).trans (g9 a j ⟨by omega, by omega⟩)) ⟨?_, ?_, ?_⟩
              · exact (c9 19 i (Or.inl (by decide)) (Or.inl (by decide))).trans ((g9 19 i ⟨by decide, by decide⟩).trans w1)
              · exact (c9 20 i (Or.inl (by decide)) (Or.inl (by decide))).trans ((g9 20 i ⟨by decide, by decide⟩).trans w2)
              · rw [mS_k (by decide), mS_k (by decide), mS_k (by decide), mS_k (by decide), mS_eq]
            · show mT (sLn z + 1) (upN (sLo z) (sLn z) (i, sNow z, 0, -1, 0, 0)) _
              refine h.T.snoc (fun a j q1 q2 q => (c9 a j (Or.inr q) (Or.inl (by omega))).trans (g9 a j ⟨by omega, by omega⟩)) ((c9 31 _ (Or.inl (by decide)) (Or.inl (by decide))).trans (g9 31 _ ⟨by decide, by decide⟩)) ((c9 32 _ (Or.inl (by decide)) (Or.inl (by decide))).trans (g9 32 _ ⟨by decide, by decide⟩)) ⟨?_, ?_, ?_, mS_eq⟩ rfl rfl
              · rw [mS_k (by decide), mS_k (by decide), mS_k (by decide), mS_eq]
              · rw [mS_k (by decide), mS_k (by decide), mS_eq]
              · rw [mS_k (by decide), mS_eq]
            · have hj : j < 11 + (sLn z + 1) := hj
              show kCon (Lk2 j) = upN (upN (sR z) (sW z i).1 (tkS (sR z (sW z i).1) tt).2) (11 + sLn z) (tkS (sR z (sW z i).1) tt).1 j
              by_cases q : j = 11 + sLn z
              · subst q; rw [upN_eq]; exact g8
              · rw [upN_ne q]
                by_cases q2 : j = (sW z i).1
                · subst q2; rw [upN_eq]; exact g7
                · rw [upN_ne q2, g6 j q2 q]; exact h.C.1 j (by omega)
            · have hj : 11 + (sLn z + 1) ≤ j := hj
              rw [g6 j (by omega) (by omega)]
              exact h.C.2 j (by omega) hj2
          · have hln : ¬ sLn z < 40 := by
              have : sLn z = 40 := (nI_eq (by omega) (by decide)).mp (show nI (sLn z) = nI 40 from c64)
              omega
            exact bad (by rw [decide_eq_false hln, Bool.and_false, Bool.and_false])
    · refine k_iconst B (v := 2) dX10_bottle_30 (by decide) ?_
      refine k_goto B 72 dX10_bottle_31 (by decide) ?_
      refine cl_X10_107 B (c_X10_can hl h.m) h.o dX10_bottle_72 (by first | exact Nat.le_of_ble_eq_true rfl | omega | (simp only [kR, Value.category, kCat_q, List.map, List.sum_cons, List.sum_nil]; omega)) (by first | exact Nat.le_of_ble_eq_true rfl | omega | (simp only [kR, Value.category, kCat_q, List.map, List.sum_cons, List.sum_nil]; omega)) (by first | exact Nat.le_of_ble_eq_true rfl | omega | (simp only [kR, Value.category, kCat_q, List.map, List.sum_cons, List.sum_nil]; omega)) (by first | exact Nat.le_of_ble_eq_true rfl | omega | (simp only [kR, Value.category, kCat_q, List.map, List.sum_cons, List.sum_nil]; omega)) (by first | exact Nat.le_of_ble_eq_true rfl | omega | (simp only [kR, Value.category, kCat_q, List.map, List.sum_cons, List.sum_nil]; omega)) (fun _ hx => hx.elim) (fun v72 s72 hp72 => ?_)
      obtain ⟨rfl, e72⟩ := hp72
      rw [e72]
      refine k_if_ne B 80 dX10_bottle_75 (by decide) (fun c75 => absurd (by decide) c75) (fun _ => ?_)
      refine k_iconst B (v := 0) dX10_bottle_78 (by decide) ?_
      refine k_iret B hr dX10_bottle_79 ?_ (by first | exact Nat.le_of_ble_eq_true rfl | omega | (simp only [kR, Value.category, kCat_q, List.map, List.sum_cons, List.sum_nil]; omega)) (by first | exact Nat.le_of_ble_eq_true rfl | omega | (simp only [kR, Value.category, kCat_q, List.map, List.sum_cons, List.sum_nil]; omega))
      exact mPo.no h ((gIx_p g1).trans (gRg_n ⟨rfl, rg_q c27⟩)) tCd_A rfl
  · refine k_iconst B (v := 1) dX10_bottle_21 (by decide) ?_
    refine k_goto B 72 dX10_bottle_22 (by decide) ?_
    refine cl_X10_107 B (c_X10_can hl h.m) h.o dX10_bottle_72 (by first | exact Nat.le_of_ble_eq_true rfl | omega | (simp only [kR, Value.category, kCat_q, List.map, List.sum_cons, List.sum_nil]; omega)) (by first | exact Nat.le_of_ble_eq_true rfl | omega | (simp only [kR, Value.category, kCat_q, List.map, List.sum_cons, List.sum_nil]; omega)) (by first | exact Nat.le_of_ble_eq_true rfl | omega | (simp only [kR, Value.category, kCat_q, List.map, List.sum_cons, List.sum_nil]; omega)) (by first | exact Nat.le_of_ble_eq_true rfl | omega | (simp only [kR, Value.category, kCat_q, List.map, List.sum_cons, List.sum_nil]; omega)) (by first | exact Nat.le_of_ble_eq_true rfl | omega | (simp only [kR, Value.category, kCat_q, List.map, List.sum_cons, List.sum_nil]; omega)) (fun _ hx => hx.elim) (fun v72 s72 hp72 => ?_)
    obtain ⟨rfl, e72⟩ := hp72
    rw [e72]
    refine k_if_ne B 80 dX10_bottle_75 (by decide) (fun c75 => absurd (by decide) c75) (fun _ => ?_)
    refine k_iconst B (v := 0) dX10_bottle_78 (by decide) ?_
    refine k_iret B hr dX10_bottle_79 ?_ (by first | exact Nat.le_of_ble_eq_true rfl | omega | (simp only [kR, Value.category, kCat_q, List.map, List.sum_cons, List.sum_nil]; omega)) (by first | exact Nat.le_of_ble_eq_true rfl | omega | (simp only [kR, Value.category, kCat_q, List.map, List.sum_cons, List.sum_nil]; omega))
    exact mPo.no h (gIx_n ⟨rfl, in_n (n := sWn z) (by omega) rfl (bI_q c18)⟩) tCd_I rfl
end Bot10
