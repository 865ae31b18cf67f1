section Pass11
variable {l : Launch} {D : va_G} {σ : kS} {aM : Nat} {ma : Nat → Nat} {mv : Nat → Nat → Int32} {q : kQc} {z : kSt} {t : Int32}
set_option maxHeartbeats 1000000 in
set_option maxRecDepth 100000 in
theorem c_X10_pass (hl : l.stackTraces = false) (hs : sOk z) (h : cl10 D aM ma z t σ) {y w : Int32} : kMh hX10_pass l D yX10_pass 5 0 0 [.ref aM, .int y, .int w] σ (mPo D aM ma z (gPass z y w) (some (.int (rPass z y w))) (nPass z y w) (tCd 1 1 2) σ) (fun _ => False) := by
  refine kM_of (L := [some (.ref aM), some (.int y), some (.int w), none, none]) (by decide +kernel) hl (List.forall_mem_cons.mpr ⟨rfl, (List.forall_mem_cons.mpr ⟨rfl, (List.forall_mem_cons.mpr ⟨rfl, (fun _ h => absurd h List.not_mem_nil)⟩)⟩)⟩) (Nat.le_of_ble_eq_true rfl) rfl ?_
  intro p e s m args below meth c B hr hex hnm
  have B : kB p l s m args meth c D (kA σ s.heap.size) 5 cX10_pass RX10 := B
  obtain ⟨mv, kn, Lk, h⟩ := h
  have bad : gPass z y w = some eA → kK p l e (kR 5 0 0) s m args below meth c D (kA σ s.heap.size) 5 (kQ below args s D σ (mPo D aM ma z (gPass z y w) (some (.int (rPass z y w))) (nPass z y w) (tCd 1 1 2) σ) (fun _ => False) 0 0) σ 0 0 25 [some (.ref aM), some (.int y), some (.int w), none, none] [] := by
    intro gg
    refine k_iconst B (v := 0) dX10_pass_25 (by decide) ?_
    refine k_istore_n B dX10_pass_26 (by decide) ?_
    try refine kK.set1 (by first | exact True.intro | rfl | exact kCat_q _) ?_
    refine k_aload_n B dX10_pass_27 rfl (by first | exact kRf_r _ | exact kRf_q _ | exact kRf_n) ?_
    refine k_iload_n B dX10_pass_28 rfl ?_
    refine k_if_ne B 36 dX10_pass_29 (by decide) (fun c29 => ?_) (fun c29 => ?_)
    · exact absurd rfl c29
    · refine k_iconst B (v := 1) dX10_pass_32 (by decide) ?_
      refine k_goto B 53 dX10_pass_33 (by decide) ?_
      refine cl_X10_107 B (c_X10_can hl h.m) h.o dX10_pass_53 (by first | exact Nat.le_of_ble_eq_true rfl | omega | (simp only [kR, Value.category, kCat_q, List.map, List.sum_cons, List.sum_nil]; omega)) (by first | exact Nat.le_of_ble_eq_true rfl | omega | (simp only [kR, Value.category, kCat_q, List.map, List.sum_cons, List.sum_nil]; omega)) (by first | exact Nat.le_of_ble_eq_true rfl | omega | (simp only [kR, Value.category, kCat_q, List.map, List.sum_cons, List.sum_nil]; omega)) (by first | exact Nat.le_of_ble_eq_true rfl | omega | (simp only [kR, Value.category, kCat_q, List.map, List.sum_cons, List.sum_nil]; omega)) (by first | exact Nat.le_of_ble_eq_true rfl | omega | (simp only [kR, Value.category, kCat_q, List.map, List.sum_cons, List.sum_nil]; omega)) (fun _ hx => hx.elim) (fun v53 s53 hp53 => ?_)
      obtain ⟨rfl, e53⟩ := hp53
      rw [e53]
      refine k_if_ne B 61 dX10_pass_56 (by decide) (fun c56 => absurd (by decide) c56) (fun _ => ?_)
      refine k_iconst B (v := 0) dX10_pass_59 (by decide) ?_
      refine k_iret B hr dX10_pass_60 ?_ (by first | exact Nat.le_of_ble_eq_true rfl | omega | (simp only [kR, Value.category, kCat_q, List.map, List.sum_cons, List.sum_nil]; omega)) (by first | exact Nat.le_of_ble_eq_true rfl | omega | (simp only [kR, Value.category, kCat_q, List.map, List.sum_cons, List.sum_nil]; omega))
      exact mPo.no h (gg) tCd_A rfl
  refine k_iload_n B dX10_pass_0 rfl ?_
  refine k_iconst B (v := 1) dX10_pass_1 (by decide) ?_
  refine k_bipush B (v := 20) dX10_pass_2 (by decide) ?_
  refine cl_X10_93 B (c_X10_isIn hl) dX10_pass_4 (by first | exact Nat.le_of_ble_eq_true rfl | omega | (simp only [kR, Value.category, kCat_q, List.map, List.sum_cons, List.sum_nil]; omega)) (by first | exact Nat.le_of_ble_eq_true rfl | omega | (simp only [kR, Value.category, kCat_q, List.map, List.sum_cons, List.sum_nil]; omega)) (by first | exact Nat.le_of_ble_eq_true rfl | omega | (simp only [kR, Value.category, kCat_q, List.map, List.sum_cons, List.sum_nil]; omega)) (by first | exact Nat.le_of_ble_eq_true rfl | omega | (simp only [kR, Value.category, kCat_q, List.map, List.sum_cons, List.sum_nil]; omega)) (by first | exact Nat.le_of_ble_eq_true rfl | omega | (simp only [kR, Value.category, kCat_q, List.map, List.sum_cons, List.sum_nil]; omega)) (fun _ hx => hx.elim) (fun v4 s4 hp4 => ?_)
  obtain ⟨rfl, e4⟩ := hp4
  rw [e4]
  refine k_if_eq B 25 dX10_pass_7 (by decide) (fun c7 => ?_) (fun c7 => ?_)
  · exact bad (gRg_n ⟨rfl, rg_q c7⟩)
  · have g1 : inR y 1 20 := rg_p c7
    obtain ⟨yy, hy1, hy2, ey⟩ := inR_of (a := 1) (n := 20) rfl rfl (by decide) (by decide) g1
    refine k_iload_n B dX10_pass_10 rfl ?_
    refine k_iconst B (v := 0) dX10_pass_11 (by decide) ?_
    refine k_sipush B (v := 1000) dX10_pass_12 (by decide) ?_
    refine cl_X10_93 B (c_X10_isIn hl) dX10_pass_15 (by first | exact Nat.le_of_ble_eq_true rfl | omega | (simp only [kR, Value.category, kCat_q, List.map, List.sum_cons, List.sum_nil]; omega)) (by first | exact Nat.le_of_ble_eq_true rfl | omega | (simp only [kR, Value.category, kCat_q, List.map, List.sum_cons, List.sum_nil]; omega)) (by first | exact Nat.le_of_ble_eq_true rfl | omega | (simp only [kR, Value.category, kCat_q, List.map, List.sum_cons, List.sum_nil]; omega)) (by first | exact Nat.le_of_ble_eq_true rfl | omega | (simp only [kR, Value.category, kCat_q, List.map, List.sum_cons, List.sum_nil]; omega)) (by first | exact Nat.le_of_ble_eq_true rfl | omega | (simp only [kR, Value.category, kCat_q, List.map, List.sum_cons, List.sum_nil]; omega)) (fun _ hx => hx.elim) (fun v15 s15 hp15 => ?_)
    obtain ⟨rfl, e15⟩ := hp15
    rw [e15]
    refine k_if_eq B 25 dX10_pass_18 (by decide) (fun c18 => ?_) (fun c18 => ?_)
    · exact bad ((gRg_p g1).trans (gRg_n ⟨rfl, rg_q c18⟩))
    · have g2 : inR w 0 1000 := rg_p c18
      obtain ⟨rr, hr1, hr2, er⟩ := inR_of (a := 0) (n := 1000) rfl rfl (by decide) (by decide) g2
      have hn3 := hs.1.1
      have gg : gPass z y w = gSt (decide (sNow z + yy ≤ 300)) := by rw [gPass, gRg_p g1, gRg_p g2, ey, cN_nI (by omega)]
      refine k_iconst B (v := 1) dX10_pass_21 (by decide) ?_
      refine k_goto B 26 dX10_pass_22 (by decide) ?_
      refine k_istore_n B dX10_pass_26 (by decide) ?_
      try refine kK.set1 (by first | exact True.intro | rfl | exact kCat_q _) ?_
      refine k_aload_n B dX10_pass_27 rfl (by first | exact kRf_r _ | exact kRf_q _ | exact kRf_n) ?_
      refine k_iload_n B dX10_pass_28 rfl ?_
      refine k_if_ne B 36 dX10_pass_29 (by decide) (fun c29 => ?_) (fun c29 => ?_)
      · refine k_aload_n B dX10_pass_36 rfl (by first | exact kRf_r _ | exact kRf_q _ | exact kRf_n) ?_
        refine gf_X10_131 B dX10_pass_37 h.o rfl ?_
        refine k_iload_n B dX10_pass_40 rfl ?_
        refine k_iadd B dX10_pass_41 ?_
        refine kK.rei (y := nI (sNow z + yy)) (by rw [ey]; exact nI_add _ _) ?_
        refine k_sipush B (v := 300) dX10_pass_42 (by decide) ?_
        refine k_icmp_le B 52 dX10_pass_45 (by decide) (fun c45 => ?_) (fun c45 => ?_)
        · have hle : sNow z + yy ≤ 300 := (nI_leI (by omega) (by decide)).mp c45
          refine k_iconst B (v := 0) dX10_pass_52 (by decide) ?_
          refine cl_X10_107 B (c_X10_can hl h.m) h.o dX10_pass_53 (by first | exact Nat.le_of_ble_eq_true rfl | omega | (simp only [kR, Value.category, kCat_q, List.map, List.sum_cons, List.sum_nil]; omega)) (by first | exact Nat.le_of_ble_eq_true rfl | omega | (simp only [kR, Value.category, kCat_q, List.map, List.sum_cons, List.sum_nil]; omega)) (by first | exact Nat.le_of_ble_eq_true rfl | omega | (simp only [kR, Value.category, kCat_q, List.map, List.sum_cons, List.sum_nil]; omega)) (by first | exact Nat.le_of_ble_eq_true rfl | omega | (simp only [kR, Value.category, kCat_q, List.map, List.sum_cons, List.sum_nil]; omega)) (by first | exact Nat.le_of_ble_eq_true rfl | omega | (simp only [kR, Value.category, kCat_q, List.map, List.sum_cons, List.sum_nil]; omega)) (fun _ hx => hx.elim) (fun v53 s53 hp53 => ?_)
          obtain ⟨rfl, e53⟩ := hp53
          rw [e53]
          refine k_if_ne B 61 dX10_pass_56 (by decide) (fun _ => ?_) (fun c56 => absurd c56 (by decide))
          have h1 := h.can 0
          have fh1 : kOut (mOwn aM ma) σ (kUp σ aM (m10E ma (setT (qZ z kn t) 0))) := kOut.up mOwn.o
          have loop : ∀ (d9 i : Nat) (s1 : kS), i + d9 = yy → cl10 D aM ma (passS rr i z) 0 s1 → kOut (mOwn aM ma) σ s1 → kK p l e (kR 5 0 0) s m args below meth c D (kA σ s.heap.size) 5 (kQ below args s D σ (mPo D aM ma z (gPass z y w) (some (.int (rPass z y w))) (nPass z y w) (tCd 1 1 2) σ) (fun _ => False) 0 0) s1 0 0 64 [some (.ref aM), some (.int (nI yy)), some (.int (nI rr)), none, some (.int (nI i))] [] := by
            intro d9
            induction d9 with
            | zero =>
              intro i s1 hi h1 f1
              obtain rfl : i = yy := hi
              obtain ⟨mv1, kn1, Lk1, h1⟩ := h1
              refine k_iload B dX10_pass_64 rfl ?_
              refine k_iload_n B dX10_pass_66 rfl ?_
              refine k_icmp_ge B 81 dX10_pass_67 (by decide) (fun c67 => ?_) (fun c67 => ?_)
              · refine k_aload_n B dX10_pass_81 rfl (by first | exact kRf_r _ | exact kRf_q _ | exact kRf_n) ?_
                refine gf_X10_131 B dX10_pass_82 h1.o rfl ?_
                refine k_iret B hr dX10_pass_85 ?_ (by first | exact Nat.le_of_ble_eq_true rfl | omega | (simp only [kR, Value.category, kCat_q, List.map, List.sum_cons, List.sum_nil]; omega)) (by first | exact Nat.le_of_ble_eq_true rfl | omega | (simp only [kR, Value.category, kCat_q, List.map, List.sum_cons, List.sum_nil]; omega))
                have en : nPass z y w = passS rr i z := by rw [nPass, ey, er, cN_nI (by omega), cN_nI (by omega)]
                exact mPo.ok (gg.trans (gSt_t (decide_eq_true hle))) (by rw [rPass, en]; rfl) (by rw [en]; exact h1.cl) f1
              · exact absurd (Int32.le_refl _) c67
            | succ d9 ih =>
              intro i s1 hi h1 f1
              obtain ⟨mv1, kn1, Lk1, h2⟩ := id h1
              refine k_iload B dX10_pass_64 rfl ?_
              refine k_iload_n B dX10_pass_66 rfl ?_
              refine k_icmp_ge B 81 dX10_pass_67 (by decide) (fun c67 => ?_) (fun c67 => ?_)
              · exact absurd c67 (nI_ge (by omega) (by omega))
              · refine k_aload_n B dX10_pass_70 rfl (by first | exact kRf_r _ | exact kRf_q _ | exact kRf_n) ?_
                refine k_iload_n B dX10_pass_71 rfl ?_
                refine cl_X10_151 B (c_X10_passes hl (passS_ok hs (n := i) (by omega) hr2) (by rw [passS_now]; omega) h1 hr2) h2.o dX10_pass_72 (by first | exact Nat.le_of_ble_eq_true rfl | omega | (simp only [kR, Value.category, kCat_q, List.map, List.sum_cons, List.sum_nil]; omega)) (by first | exact Nat.le_of_ble_eq_true rfl | omega | (simp only [kR, Value.category, kCat_q, List.map, List.sum_cons, List.sum_nil]; omega)) (by first | exact Nat.le_of_ble_eq_true rfl | omega | (simp only [kR, Value.category, kCat_q, List.map, List.sum_cons, List.sum_nil]; omega)) (by first | exact Nat.le_of_ble_eq_true rfl | omega | (simp only [kR, Value.category, kCat_q, List.map, List.sum_cons, List.sum_nil]; omega)) (by first | exact Nat.le_of_ble_eq_true rfl | omega | (simp only [kR, Value.category, kCat_q, List.map, List.sum_cons, List.sum_nil]; omega)) (fun _ hx => hx.elim) (fun v72 s72 hp72 => ?_)
                obtain ⟨rfl, g3, f72⟩ := hp72
                refine k_iinc1 B dX10_pass_75 rfl (by decide) ?_
                try refine kK.set1 (by first | exact True.intro | rfl | exact kCat_q _) ?_
                refine k_goto B 64 dX10_pass_78 (by decide) ?_
                rw [nI_1]
                exact ih (i + 1) _ (by omega) g3 (f1.tr f72)
          refine k_iconst B (v := 0) dX10_pass_61 (by decide) ?_
          refine k_istore B dX10_pass_62 (by decide) ?_
          try refine kK.set1 (by first | exact True.intro | rfl | exact kCat_q _) ?_
          rw [ey, er, ← nI_0]
          rw [ey, er] at loop
          refine kK.sub (L2 := [some (.ref aM), some (.int (nI yy)), some (.int (nI rr)), none, some (.int (nI 0))]) ⟨Or.inr rfl, Or.inr rfl, Or.inr rfl, Or.inl rfl, Or.inr rfl, trivial⟩ ?_
          exact loop yy 0 _ (Nat.zero_add _) (h1.cl) fh1
        · have hle : ¬ sNow z + yy ≤ 300 := fun q => c45 ((nI_leI (by omega) (by decide)).mpr q)
          refine k_iconst B (v := 2) dX10_pass_48 (by decide) ?_
          refine k_goto B 53 dX10_pass_49 (by decide) ?_
          refine cl_X10_107 B (c_X10_can hl h.m) h.o dX10_pass_53 (by first | exact Nat.le_of_ble_eq_true rfl | omega | (simp only [kR, Value.category, kCat_q, List.map, List.sum_cons, List.sum_nil]; omega)) (by first | exact Nat.le_of_ble_eq_true rfl | omega | (simp only [kR, Value.category, kCat_q, List.map, List.sum_cons, List.sum_nil]; omega)) (by first | exact Nat.le_of_ble_eq_true rfl | omega | (simp only [kR, Value.category, kCat_q, List.map, List.sum_cons, List.sum_nil]; omega)) (by first | exact Nat.le_of_ble_eq_true rfl | omega | (simp only [kR, Value.category, kCat_q, List.map, List.sum_cons, List.sum_nil]; omega)) (by first | exact Nat.le_of_ble_eq_true rfl | omega | (simp only [kR, Value.category, kCat_q, List.map, List.sum_cons, List.sum_nil]; omega)) (fun _ hx => hx.elim) (fun v53 s53 hp53 => ?_)
          obtain ⟨rfl, e53⟩ := hp53
          rw [e53]
          refine k_if_ne B 61 dX10_pass_56 (by decide) (fun c56 => absurd (by decide) c56) (fun _ => ?_)
          refine k_iconst B (v := 0) dX10_pass_59 (by decide) ?_
          refine k_iret B hr dX10_pass_60 ?_ (by first | exact Nat.le_of_ble_eq_true rfl | omega | (simp only [kR, Value.category, kCat_q, List.map, List.sum_cons, List.sum_nil]; omega)) (by first | exact Nat.le_of_ble_eq_true rfl | omega | (simp only [kR, Value.category, kCat_q, List.map, List.sum_cons, List.sum_nil]; omega))
          exact mPo.no h (gg.trans (gSt_f (decide_eq_false hle) rfl)) tCd_S rfl
      · exact absurd c29 (by decide)
set_option maxRecDepth 100000 in
theorem c_X10_fallOf (hl : l.stackTraces = false) (h : mI D aM ma mv q σ) {r : Nat} {L : kPs} (hr5 : r < 51) (hL : knR mv r L) (hk : ∀ a ∈ L, a.1 < 6200 ∧ a.2.2.1 < 2 ^ 31) {b : Bool} : kMh hX10_fallOf l D yX10_fallOf 1 0 0 [.ref aM, .int (nI r), .int (bI b)] σ (fun v s2 => v = some (.int (if b = true then yoI (kCon L) else olI (kCon L))) ∧ s2 = σ) (fun _ => False) := by
  refine kM_of (L := [some (.ref aM), some (.int (nI r)), some (.int (bI b)), none, none]) (by decide +kernel) hl (List.forall_mem_cons.mpr ⟨rfl, (List.forall_mem_cons.mpr ⟨rfl, (List.forall_mem_cons.mpr ⟨rfl, (fun _ h => absurd h List.not_mem_nil)⟩)⟩)⟩) (Nat.le_of_ble_eq_true rfl) rfl ?_
  intro p e s m args below meth c B hr hex hnm
  have B : kB p l s m args meth c D (kA σ s.heap.size) 5 cX10_fallOf RX10 := B
  generalize hG : (if b = true then yoI (kCon L) else olI (kCon L)) = G
  have step : ∀ (j : Nat) (pp : kP) (T : kPs) (old : Int32) (k : Nat), knS mv ((j, pp) :: T) → j < 6200 → (kK p l e (kR 1 0 0) s m args below meth c D (kA σ s.heap.size) 5 (kQ below args s D σ (fun v s2 => v = some (.int G) ∧ s2 = σ) (fun _ => False) 0 0) σ 0 0 10 [some (.ref aM), some (.int (nI r)), some (.int (bI b)), some (.int (nI k)), some (.int (ldI (hdA T)))] []) → kK p l e (kR 1 0 0) s m args below meth c D (kA σ s.heap.size) 5 (kQ below args s D σ (fun v s2 => v = some (.int G) ∧ s2 = σ) (fun _ => False) 0 0) σ 0 0 61 [some (.ref aM), some (.int (nI r)), some (.int (bI b)), some (.int old), some (.int (nI j))] [.int (nI k)] := by
    intro j pp T old k h1 hj kk
    refine k_istore_n B dX10_fallOf_61 (by decide) ?_
    try refine kK.set1 (by first | exact True.intro | rfl | exact kCat_q _) ?_
    refine k_aload_n B dX10_fallOf_62 rfl (by first | exact kRf_r _ | exact kRf_q _ | exact kRf_n) ?_
    refine gf_X10_37 B dX10_fallOf_63 h.o rfl ?_
    refine k_iload B dX10_fallOf_66 rfl ?_
    refine k_iald B dX10_fallOf_68 (h.i (k := 11) rfl (by decide)) (vp_in_nI hj (by decide)) ?_
    refine kK.rei (y := ldI (hdA T)) (by rw [nI_clamp (by omega)]; exact h1.1) ?_
    refine k_istore B dX10_fallOf_69 (by decide) ?_
    try refine kK.set1 (by first | exact True.intro | rfl | exact kCat_q _) ?_
    refine k_goto B 10 dX10_fallOf_71 (by decide) ?_
    exact kk
  have take : ∀ (j : Nat) (pp : kP) (T : kPs) (old : Int32), knS mv ((j, pp) :: T) → j < 6200 → (kK p l e (kR 1 0 0) s m args below meth c D (kA σ s.heap.size) 5 (kQ below args s D σ (fun v s2 => v = some (.int G) ∧ s2 = σ) (fun _ => False) 0 0) σ 0 0 10 [some (.ref aM), some (.int (nI r)), some (.int (bI b)), some (.int (nI pp.2.1)), some (.int (ldI (hdA T)))] []) → kK p l e (kR 1 0 0) s m args below meth c D (kA σ s.heap.size) 5 (kQ below args s D σ (fun v s2 => v = some (.int G) ∧ s2 = σ) (fun _ => False) 0 0) σ 0 0 50 [some (.ref aM), some (.int (nI r)), some (.int (bI b)), some (.int old), some (.int (nI j))] [] := by
    intro j pp T old h1 hj kk
    refine k_aload_n B dX10_fallOf_50 rfl (by first | exact kRf_r _ | exact kRf_q _ | exact kRf_n) ?_
    refine gf_X10_46 B dX10_fallOf_51 h.o rfl ?_
    refine k_iload B dX10_fallOf_54 rfl ?_
    refine k_iald B dX10_fallOf_56 (h.i (k := 14) rfl (by decide)) (vp_in_nI hj (by decide)) ?_
    refine kK.rei (y := nI pp.2.1) (by rw [nI_clamp (by omega)]; exact h1.2.1.2.1) ?_
    refine k_goto B 61 dX10_fallOf_57 (by decide) ?_
    exact step j pp T old _ h1 hj kk
  have loop : ∀ (T : kPs) (k : Nat), k < 2 ^ 31 → knS mv T → (∀ a ∈ T, a.1 < 6200 ∧ a.2.2.1 < 2 ^ 31) → nI (if b = true then maS (kCon T) k else miS (kCon T) k) = G → kK p l e (kR 1 0 0) s m args below meth c D (kA σ s.heap.size) 5 (kQ below args s D σ (fun v s2 => v = some (.int G) ∧ s2 = σ) (fun _ => False) 0 0) σ 0 0 10 [some (.ref aM), some (.int (nI r)), some (.int (bI b)), some (.int (nI k)), some (.int (ldI (hdA T)))] [] := by
    intro T
    induction T with
    | nil =>
      intro k hk1 h1 h2 h3
      refine k_iload B dX10_fallOf_10 rfl ?_
      refine k_iconst B (v := (-1)) dX10_fallOf_12 (by decide) ?_
      refine k_icmp_eq B 74 dX10_fallOf_13 (by decide) (fun c13 => ?_) (fun c13 => ?_)
      · refine k_iload_n B dX10_fallOf_74 rfl ?_
        refine k_iret B hr dX10_fallOf_75 ?_ (by first | exact Nat.le_of_ble_eq_true rfl | omega | (simp only [kR, Value.category, kCat_q, List.map, List.sum_cons, List.sum_nil]; omega)) (by first | exact Nat.le_of_ble_eq_true rfl | omega | (simp only [kR, Value.category, kCat_q, List.map, List.sum_cons, List.sum_nil]; omega))
        exact ⟨by rw [← h3]; cases b <;> rfl, rfl⟩
      · exact absurd rfl c13
    | cons x T ih =>
      obtain ⟨j, pp⟩ := x
      intro k hk1 h1 h2 h3
      obtain ⟨hj, hy⟩ := h2 (j, pp) List.mem_cons_self
      have hj : j < 6200 := hj
      have hy : pp.2.1 < 2 ^ 31 := hy
      have h2T : ∀ a ∈ T, a.1 < 6200 ∧ a.2.2.1 < 2 ^ 31 := fun a ha => h2 a (List.mem_cons_of_mem _ ha)
      have h3 : nI (if b = true then maS (kCon T) (if k < pp.2.1 then pp.2.1 else k) else miS (kCon T) (if pp.2.1 < k then pp.2.1 else k)) = G := h3
      refine k_iload B dX10_fallOf_10 rfl ?_
      refine k_iconst B (v := (-1)) dX10_fallOf_12 (by decide) ?_
      refine k_icmp_eq B 74 dX10_fallOf_13 (by decide) (fun c13 => ?_) (fun c13 => ?_)
      · exact absurd c13 (ldI_no (j := j) (by omega))
      · refine kK.sub (L2 := [some (.ref aM), some (.int (nI r)), some (.int (bI b)), some (.int (nI k)), some (.int (nI j))]) ⟨Or.inr rfl, Or.inr rfl, Or.inr rfl, Or.inr rfl, Or.inr rfl, trivial⟩ ?_
        refine k_iload_n B dX10_fallOf_16 rfl ?_
        refine k_iconst B (v := (-1)) dX10_fallOf_17 (by decide) ?_
        refine k_icmp_eq B 50 dX10_fallOf_18 (by decide) (fun c18 => ?_) (fun c18 => ?_)
        · exact absurd c18 (ldI_no (j := k) hk1)
        · cases b with
          | true =>
            have h3 : nI (maS (kCon T) (if k < pp.2.1 then pp.2.1 else k)) = G := h3
            refine k_iload_n B dX10_fallOf_21 rfl ?_
            refine k_if_eq B 39 dX10_fallOf_22 (by decide) (fun c22 => ?_) (fun c22 => ?_)
            · exact absurd c22 (by decide)
            · refine k_aload_n B dX10_fallOf_25 rfl (by first | exact kRf_r _ | exact kRf_q _ | exact kRf_n) ?_
              refine gf_X10_46 B dX10_fallOf_26 h.o rfl ?_
              refine k_iload B dX10_fallOf_29 rfl ?_
              refine k_iald B dX10_fallOf_31 (h.i (k := 14) rfl (by decide)) (vp_in_nI hj (by decide)) ?_
              refine kK.rei (y := nI pp.2.1) (by rw [nI_clamp (by omega)]; exact h1.2.1.2.1) ?_
              refine k_iload_n B dX10_fallOf_32 rfl ?_
              refine k_icmp_le B 60 dX10_fallOf_33 (by decide) (fun c33 => ?_) (fun c33 => ?_)
              · have hle := (nI_leI hy hk1).mp c33
                refine k_iload_n B dX10_fallOf_60 rfl ?_
                rw [if_neg (by omega)] at h3
                exact step j pp T _ k h1 hj (ih k hk1 h1.2.2 h2T h3)
              · have hlt : k < pp.2.1 := by
                  have : ¬ pp.2.1 ≤ k := fun q => c33 ((nI_leI hy hk1).mpr q)
                  omega
                refine k_goto B 50 dX10_fallOf_36 (by decide) ?_
                rw [if_pos hlt] at h3
                exact take j pp T _ h1 hj (ih _ hy h1.2.2 h2T h3)
          | false =>
            have h3 : nI (miS (kCon T) (if pp.2.1 < k then pp.2.1 else k)) = G := h3
            refine k_iload_n B dX10_fallOf_21 rfl ?_
            refine k_if_eq B 39 dX10_fallOf_22 (by decide) (fun c22 => ?_) (fun c22 => ?_)
            · refine k_aload_n B dX10_fallOf_39 rfl (by first | exact kRf_r _ | exact kRf_q _ | exact kRf_n) ?_
              refine gf_X10_46 B dX10_fallOf_40 h.o rfl ?_
              refine k_iload B dX10_fallOf_43 rfl ?_
              refine k_iald B dX10_fallOf_45 (h.i (k := 14) rfl (by decide)) (vp_in_nI hj (by decide)) ?_
              refine kK.rei (y := nI pp.2.1) (by rw [nI_clamp (by omega)]; exact h1.2.1.2.1) ?_
              refine k_iload_n B dX10_fallOf_46 rfl ?_
              refine k_icmp_ge B 60 dX10_fallOf_47 (by decide) (fun c47 => ?_) (fun c47 => ?_)
              · have hle := (nI_leI hk1 hy).mp c47
                refine k_iload_n B dX10_fallOf_60 rfl ?_
                rw [if_neg (by omega)] at h3
                exact step j pp T _ k h1 hj (ih k hk1 h1.2.2 h2T h3)
              · have hlt : pp.2.1 < k := by
                  have : ¬ k ≤ pp.2.1 := fun q => c47 ((nI_leI hk1 hy).mpr q)
                  omega
                rw [if_pos hlt] at h3
                exact take j pp T _ h1 hj (ih _ hy h1.2.2 h2T h3)
            · exact absurd rfl c22
  refine k_iconst B (v := (-1)) dX10_fallOf_0 (by decide) ?_
  refine k_istore_n B dX10_fallOf_1 (by decide) ?_
  try refine kK.set1 (by first | exact True.intro | rfl | exact kCat_q _) ?_
  refine k_aload_n B dX10_fallOf_2 rfl (by first | exact kRf_r _ | exact kRf_q _ | exact kRf_n) ?_
  refine gf_X10_28 B dX10_fallOf_3 h.o rfl ?_
  refine k_iload_n B dX10_fallOf_6 rfl ?_
  refine k_iald B dX10_fallOf_7 (h.i (k := 7) rfl (by decide)) (vp_in_nI hr5 (by decide)) ?_
  refine kK.rei (y := ldI (hdA L)) (by rw [nI_clamp (by omega)]; exact hL.1) ?_
  refine k_istore B dX10_fallOf_8 (by decide) ?_
  try refine kK.set1 (by first | exact True.intro | rfl | exact kCat_q _) ?_
  cases L with
  | nil =>
    refine k_iload B dX10_fallOf_10 rfl ?_
    refine k_iconst B (v := (-1)) dX10_fallOf_12 (by decide) ?_
    refine k_icmp_eq B 74 dX10_fallOf_13 (by decide) (fun c13 => ?_) (fun c13 => ?_)
    · refine k_iload_n B dX10_fallOf_74 rfl ?_
      refine k_iret B hr dX10_fallOf_75 ?_ (by first | exact Nat.le_of_ble_eq_true rfl | omega | (simp only [kR, Value.category, kCat_q, List.map, List.sum_cons, List.sum_nil]; omega)) (by first | exact Nat.le_of_ble_eq_true rfl | omega | (simp only [kR, Value.category, kCat_q, List.map, List.sum_cons, List.sum_nil]; omega))
      exact ⟨by rw [← hG]; cases b <;> rfl, rfl⟩
    · exact absurd rfl c13
  | cons x T =>
    obtain ⟨j, pp⟩ := x
    obtain ⟨hj, hy⟩ := hk (j, pp) List.mem_cons_self
    have hj : j < 6200 := hj
    have h1 := hL.2.2.2
    refine k_iload B dX10_fallOf_10 rfl ?_
    refine k_iconst B (v := (-1)) dX10_fallOf_12 (by decide) ?_
    refine k_icmp_eq B 74 dX10_fallOf_13 (by decide) (fun c13 => ?_) (fun c13 => ?_)
    · exact absurd c13 (ldI_no (j := j) (by omega))
    · refine kK.sub (L2 := [some (.ref aM), some (.int (nI r)), some (.int (bI b)), some (.int (-1)), some (.int (nI j))]) ⟨Or.inr rfl, Or.inr rfl, Or.inr rfl, Or.inr rfl, Or.inr rfl, trivial⟩ ?_
      refine k_iload_n B dX10_fallOf_16 rfl ?_
      refine k_iconst B (v := (-1)) dX10_fallOf_17 (by decide) ?_
      refine k_icmp_eq B 50 dX10_fallOf_18 (by decide) (fun c18 => ?_) (fun c18 => ?_)
      · exact take j pp T _ h1 hj (loop T _ hy h1.2.2 (fun a ha => hk a (List.mem_cons_of_mem _ ha)) (by rw [← hG]; cases b <;> rfl))
      · exact absurd rfl c18
end Pass11
