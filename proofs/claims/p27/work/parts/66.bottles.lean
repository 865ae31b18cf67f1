/-- what a step of the law leaves -/
def lPs (D : va_G) (aO ac ap aw ah : Nat) (z : kSt) (F : kF) (v : Option Value) (s2 : kS) : Prop := v = some (.int 1) ∧ ∃ z2 J2, sOk z2 ∧ zI z2 ∧ jR z2 J2 ∧ sNow z2 ≤ sNow z + 1 ∧ lW D aO ac ap aw ah z2 J2 F s2
theorem hW_0 : hW (-1) 0 0 = 0 := by decide
section Bottles
variable {l : Launch} {D : va_G} {σ : kS} {aO ac ap aw ah : Nat} {z : kSt} {J : List kJe} {F : kF}
set_option maxHeartbeats 4000000 in
set_option maxRecDepth 100000 in
theorem c_L_bottles (hl : l.stackTraces = false) (hs : sOk z) (hz : zI z) (hJ : jR z J) (hW9 : lW D aO ac ap aw ah z J F σ) {x y : Nat} (hx : x < 2 ^ 30) (hy : y < 2 ^ 30) : kMh hL_bottles l D yL_bottles 10 60 400 [.ref aO, .int (nI x), .int (nI y), .ref ac, .ref aw] σ (lPs D aO ac ap aw ah z F) (fun _ => False) := by
  refine kM_of (L := [some (.ref aO), some (.int (nI x)), some (.int (nI y)), some (.ref ac), some (.ref aw), none, none, none, none, none, none, none]) (by decide +kernel) hl (List.forall_mem_cons.mpr ⟨rfl, (List.forall_mem_cons.mpr ⟨rfl, (List.forall_mem_cons.mpr ⟨rfl, (List.forall_mem_cons.mpr ⟨rfl, (List.forall_mem_cons.mpr ⟨rfl, (fun _ h => absurd h List.not_mem_nil)⟩)⟩)⟩)⟩)⟩) (Nat.le_of_ble_eq_true rfl) rfl ?_
  intro p e s m args below meth c B hr hex hnm
  have B : kB p l s m args meth c D (kA σ s.heap.size) 12 cL_bottles RL := B
  obtain ⟨h, fc, fp, fw, fh, ha, hcA, hpA, hwA, hhA⟩ := id hW9
  obtain ⟨c0, c1, c2, c3, c4, c5, c6, c7⟩ := id hcA
  have h6 := hs.2.2.1.1
  have h40 := hs.2.2.2.1.1
  by_cases hn0 : sWn z = 0
  · have g0 : gBottle z 0 1 = some eI := if_neg (fun q => absurd q.2 (by rw [hn0]; decide))
    refine k_aload_n B dL_bottles_0 rfl (by first | exact kRf_r _ | exact kRf_q _ | exact kRf_n) ?_
    refine k_iconst B (v := 1) dL_bottles_1 (by decide) ?_
    refine k_ald B 1 dL_bottles_2 ha.1 (by rfl) (by first | omega | decide) (by decide) (c1) ?_
    refine k_if_ne B 24 dL_bottles_3 (by decide) (fun c9 => (c9 (by rw [hn0]; rfl)).elim) (fun _ => ?_)
    refine k_aload_n B dL_bottles_6 rfl (by first | exact kRf_r _ | exact kRf_q _ | exact kRf_n) ?_
    refine k_iconst B (v := 0) dL_bottles_7 (by decide) ?_
    refine k_iconst B (v := 0) dL_bottles_8 (by decide) ?_
    refine k_iconst B (v := 1) dL_bottles_9 (by decide) ?_
    refine cl_L_90 B (c_L_asks0 hl hs h) dL_bottles_10 (by first | exact Nat.le_of_ble_eq_true rfl | omega | (simp only [kR, Value.category, kCat_q, List.map, List.sum_cons, List.sum_nil]; omega)) (by first | exact Nat.le_of_ble_eq_true rfl | omega | (simp only [kR, Value.category, kCat_q, List.map, List.sum_cons, List.sum_nil]; omega)) (by first | exact Nat.le_of_ble_eq_true rfl | omega | (simp only [kR, Value.category, kCat_q, List.map, List.sum_cons, List.sum_nil]; omega)) (by first | exact Nat.le_of_ble_eq_true rfl | omega | (simp only [kR, Value.category, kCat_q, List.map, List.sum_cons, List.sum_nil]; omega)) (by first | exact Nat.le_of_ble_eq_true rfl | omega | (simp only [kR, Value.category, kCat_q, List.map, List.sum_cons, List.sum_nil]; omega)) (fun _ hx => hx.elim) (fun v10 s10 hp10 => ?_)
    rcases hp10 with ⟨g, -⟩ | ⟨E, hE, rfl, e10⟩
    · rw [g0] at g; cases g
    · rw [g0] at hE
      cases hE
      rw [e10]
      refine kK.rev (y := .int (-70007)) (by rw [aCd_I]) ?_
      refine k_ldc B qw626 dL_bottles_13 ?_
      refine k_icmp_ne B 22 dL_bottles_15 (by decide) (fun c9 => (c9 (rfl)).elim) (fun _ => ?_)
      refine k_iconst B (v := 1) dL_bottles_18 (by decide) ?_
      refine k_goto B 23 dL_bottles_19 (by decide) ?_
      refine k_zret B hr dL_bottles_23 (by rfl) ?_ (by first | exact Nat.le_of_ble_eq_true rfl | omega | (simp only [kR, Value.category, kCat_q, List.map, List.sum_cons, List.sum_nil]; omega)) (by first | exact Nat.le_of_ble_eq_true rfl | omega | (simp only [kR, Value.category, kCat_q, List.map, List.sum_cons, List.sum_nil]; omega))
      exact ⟨rfl, z, J, hs, hz, hJ, by omega, hW9⟩
  · have hn1 : 1 ≤ sWn z := by omega
    refine k_aload_n B dL_bottles_0 rfl (by first | exact kRf_r _ | exact kRf_q _ | exact kRf_n) ?_
    refine k_iconst B (v := 1) dL_bottles_1 (by decide) ?_
    refine k_ald B 1 dL_bottles_2 ha.1 (by rfl) (by first | omega | decide) (by decide) (c1) ?_
    refine k_if_ne B 24 dL_bottles_3 (by decide) (fun _ => ?_) (fun c9 => absurd c9 (nI_ne0 hn1 (by omega)))
    obtain ⟨i, hi⟩ : ∃ i, i = x % sWn z := ⟨_, rfl⟩
    have hiw : i < sWn z := by rw [hi]; exact Nat.mod_lt _ hn1
    obtain ⟨u, hu⟩ : ∃ u, u = 1 + y % 40 := ⟨_, rfl⟩
    have hu1 : 1 ≤ u := by omega
    have hu2 : u ≤ 40 := by omega
    obtain ⟨w0, w1, w2⟩ := hwA i hiw
    have hwl := hs.2.2.1.2 i hiw
    have hw10 := hwl.1
    have hun := hs.un (i := (sW z i).1) (by omega)
    have hmy : rMay z i ≤ 10000 := by have := rMay_le (z := z) (i := i); have := hwl.2.1; omega
    have hu3 : inR (nI u) 1 1000 := ⟨nI_le (a := 1) hu1 (by omega), nI_le (b := 1000) (by omega) (by decide)⟩
    have gg : gBottle z (nI i) (nI u) = gSt (decide (u ≤ rMay z i) && (decide (u ≤ unS (sR z (sW z i).1)) && decide (sLn z < 40))) := by
      rw [gBottle, gWl, gIx_p ⟨nI_pos' (by omega), nI_lt hiw (by omega)⟩, gRg_p hu3, cN_nI (by omega), cN_nI (by omega)]
    refine k_iload_n B dL_bottles_24 rfl ?_
    refine k_aload_n B dL_bottles_25 rfl (by first | exact kRf_r _ | exact kRf_q _ | exact kRf_n) ?_
    refine k_iconst B (v := 1) dL_bottles_26 (by decide) ?_
    refine k_ald B 1 dL_bottles_27 ha.1 (by rfl) (by first | omega | decide) (by decide) (c1) ?_
    refine k_irem B dL_bottles_28 (nI_ne0 hn1 (by omega)) ?_
    refine kK.rei (y := nI i) (by rw [nI_rem (by omega) hn1 (by omega), hi]) ?_
    refine k_istore B dL_bottles_29 (by decide) ?_
    try refine kK.set1 (by first | exact True.intro | rfl | exact kCat_q _) ?_
    refine k_iconst B (v := 1) dL_bottles_31 (by decide) ?_
    refine k_iload_n B dL_bottles_32 rfl ?_
    refine k_bipush B (v := 40) dL_bottles_33 (by decide) ?_
    refine k_irem B dL_bottles_35 (by decide) ?_
    refine kK.rei (y := nI (y % 40)) (nI_rem (b := 40) (by omega) (by decide) (by decide)) ?_
    refine k_iadd B dL_bottles_36 ?_
    refine kK.rei (y := nI u) (by rw [hu]; exact nI_add 1 (y % 40)) ?_
    refine k_istore B dL_bottles_37 (by decide) ?_
    try refine kK.set1 (by first | exact True.intro | rfl | exact kCat_q _) ?_
    refine k_aload_n B dL_bottles_39 rfl (by first | exact kRf_r _ | exact kRf_q _ | exact kRf_n) ?_
    refine k_aload B dL_bottles_40 rfl (by first | exact kRf_r _ | exact kRf_q _ | exact kRf_n) ?_
    refine k_iload B dL_bottles_42 rfl ?_
    refine k_ald B i dL_bottles_44 ha.2.2.1 (by rfl) (by first | omega | decide) (by decide) (w0) ?_
    refine k_iconst B (v := 0) dL_bottles_45 (by decide) ?_
    refine cl_L_52 B (c_X9_cellOf hl hs h) (h.rv.choose_spec) dL_bottles_46 (by first | exact Nat.le_of_ble_eq_true rfl | omega | (simp only [kR, Value.category, kCat_q, List.map, List.sum_cons, List.sum_nil]; omega)) (by first | exact Nat.le_of_ble_eq_true rfl | omega | (simp only [kR, Value.category, kCat_q, List.map, List.sum_cons, List.sum_nil]; omega)) (by first | exact Nat.le_of_ble_eq_true rfl | omega | (simp only [kR, Value.category, kCat_q, List.map, List.sum_cons, List.sum_nil]; omega)) (by first | exact Nat.le_of_ble_eq_true rfl | omega | (simp only [kR, Value.category, kCat_q, List.map, List.sum_cons, List.sum_nil]; omega)) (by first | exact Nat.le_of_ble_eq_true rfl | omega | (simp only [kR, Value.category, kCat_q, List.map, List.sum_cons, List.sum_nil]; omega)) (noE (gCl hw10 ⟨by decide, by decide⟩)) (rdI (rCl0 hw10) ?_)
    refine k_istore B dL_bottles_49 (by decide) ?_
    try refine kK.set1 (by first | exact True.intro | rfl | exact kCat_q _) ?_
    refine k_aload_n B dL_bottles_51 rfl (by first | exact kRf_r _ | exact kRf_q _ | exact kRf_n) ?_
    refine k_iconst B (v := 5) dL_bottles_52 (by decide) ?_
    refine cl_L_86 B (c_X9_sum hl hs h) (h.rv.choose_spec) dL_bottles_53 (by first | exact Nat.le_of_ble_eq_true rfl | omega | (simp only [kR, Value.category, kCat_q, List.map, List.sum_cons, List.sum_nil]; omega)) (by first | exact Nat.le_of_ble_eq_true rfl | omega | (simp only [kR, Value.category, kCat_q, List.map, List.sum_cons, List.sum_nil]; omega)) (by first | exact Nat.le_of_ble_eq_true rfl | omega | (simp only [kR, Value.category, kCat_q, List.map, List.sum_cons, List.sum_nil]; omega)) (by first | exact Nat.le_of_ble_eq_true rfl | omega | (simp only [kR, Value.category, kCat_q, List.map, List.sum_cons, List.sum_nil]; omega)) (by first | exact Nat.le_of_ble_eq_true rfl | omega | (simp only [kR, Value.category, kCat_q, List.map, List.sum_cons, List.sum_nil]; omega)) (noE (gRg_p ⟨by decide, by decide⟩)) (rdL rSu5 ?_)
    refine k_lstore B dL_bottles_56 (by decide) ?_
    have bad : gBottle z (nI i) (nI u) = some eS → ∀ k n, k ≤ 10 → n ≤ 50 → kK p l e (kR 10 60 400) s m args below meth c D (kA σ s.heap.size) 12 (kQ below args s D σ (lPs D aO ac ap aw ah z F) (fun _ => False) 60 400) σ k n 91 [some (.ref aO), some (.int (nI x)), some (.int (nI y)), some (.ref ac), some (.ref aw), some (.int (nI i)), some (.int (nI u)), some (.int (nI (unS (sR z (sW z i).1)))), some (.long (nL (sVil z))), none, none, none] [] := by
      intro g0 k n hk hn
      refine k_iconst B (v := 0) dL_bottles_91 (by decide) ?_
      refine k_istore B dL_bottles_92 (by decide) ?_
      try refine kK.set1 (by first | exact True.intro | rfl | exact kCat_q _) ?_
      refine k_aload_n B dL_bottles_94 rfl (by first | exact kRf_r _ | exact kRf_q _ | exact kRf_n) ?_
      refine k_iconst B (v := 0) dL_bottles_95 (by decide) ?_
      refine k_iload B dL_bottles_96 rfl ?_
      refine k_iload B dL_bottles_98 rfl ?_
      refine cl_L_90 B (c_L_asks0 hl hs h) dL_bottles_100 (by first | exact Nat.le_of_ble_eq_true rfl | omega | (simp only [kR, Value.category, kCat_q, List.map, List.sum_cons, List.sum_nil]; omega)) (by first | exact Nat.le_of_ble_eq_true rfl | omega | (simp only [kR, Value.category, kCat_q, List.map, List.sum_cons, List.sum_nil]; omega)) (by first | exact Nat.le_of_ble_eq_true rfl | omega | (simp only [kR, Value.category, kCat_q, List.map, List.sum_cons, List.sum_nil]; omega)) (by first | exact Nat.le_of_ble_eq_true rfl | omega | (simp only [kR, Value.category, kCat_q, List.map, List.sum_cons, List.sum_nil]; omega)) (by first | exact Nat.le_of_ble_eq_true rfl | omega | (simp only [kR, Value.category, kCat_q, List.map, List.sum_cons, List.sum_nil]; omega)) (fun _ hx => hx.elim) (fun v100 s100 hp100 => ?_)
      rcases hp100 with ⟨g, -⟩ | ⟨E, hE, rfl, e10⟩
      · rw [g0] at g; cases g
      · rw [g0] at hE
        cases hE
        rw [e10]
        refine kK.rev (y := .int (-70008)) (by rw [aCd_S]) ?_
        refine k_istore B dL_bottles_103 (by decide) ?_
        try refine kK.set1 (by first | exact True.intro | rfl | exact kCat_q _) ?_
        refine k_iload B dL_bottles_105 rfl ?_
        refine k_if_ne B 149 dL_bottles_107 (by decide) (fun c9 => (c9 (rfl)).elim) (fun _ => ?_)
        refine k_iload B dL_bottles_110 rfl ?_
        refine k_ldc B qw628 dL_bottles_112 ?_
        refine k_icmp_ne B 147 dL_bottles_114 (by decide) (fun c9 => (c9 (rfl)).elim) (fun _ => ?_)
        refine k_aload_n B dL_bottles_117 rfl (by first | exact kRf_r _ | exact kRf_q _ | exact kRf_n) ?_
        refine k_aload B dL_bottles_118 rfl (by first | exact kRf_r _ | exact kRf_q _ | exact kRf_n) ?_
        refine k_iload B dL_bottles_120 rfl ?_
        refine k_ald B i dL_bottles_122 ha.2.2.1 (by rfl) (by first | omega | decide) (by decide) (w0) ?_
        refine k_iconst B (v := 0) dL_bottles_123 (by decide) ?_
        refine cl_L_52 B (c_X9_cellOf hl hs h) (h.rv.choose_spec) dL_bottles_124 (by first | exact Nat.le_of_ble_eq_true rfl | omega | (simp only [kR, Value.category, kCat_q, List.map, List.sum_cons, List.sum_nil]; omega)) (by first | exact Nat.le_of_ble_eq_true rfl | omega | (simp only [kR, Value.category, kCat_q, List.map, List.sum_cons, List.sum_nil]; omega)) (by first | exact Nat.le_of_ble_eq_true rfl | omega | (simp only [kR, Value.category, kCat_q, List.map, List.sum_cons, List.sum_nil]; omega)) (by first | exact Nat.le_of_ble_eq_true rfl | omega | (simp only [kR, Value.category, kCat_q, List.map, List.sum_cons, List.sum_nil]; omega)) (by first | exact Nat.le_of_ble_eq_true rfl | omega | (simp only [kR, Value.category, kCat_q, List.map, List.sum_cons, List.sum_nil]; omega)) (noE (gCl hw10 ⟨by decide, by decide⟩)) (rdI (rCl0 hw10) ?_)
        refine k_iload B dL_bottles_127 rfl ?_
        refine k_icmp_ne B 147 dL_bottles_129 (by decide) (fun c9 => (c9 (rfl)).elim) (fun _ => ?_)
        refine k_aload_n B dL_bottles_132 rfl (by first | exact kRf_r _ | exact kRf_q _ | exact kRf_n) ?_
        refine k_iconst B (v := 5) dL_bottles_133 (by decide) ?_
        refine cl_L_86 B (c_X9_sum hl hs h) (h.rv.choose_spec) dL_bottles_134 (by first | exact Nat.le_of_ble_eq_true rfl | omega | (simp only [kR, Value.category, kCat_q, List.map, List.sum_cons, List.sum_nil]; omega)) (by first | exact Nat.le_of_ble_eq_true rfl | omega | (simp only [kR, Value.category, kCat_q, List.map, List.sum_cons, List.sum_nil]; omega)) (by first | exact Nat.le_of_ble_eq_true rfl | omega | (simp only [kR, Value.category, kCat_q, List.map, List.sum_cons, List.sum_nil]; omega)) (by first | exact Nat.le_of_ble_eq_true rfl | omega | (simp only [kR, Value.category, kCat_q, List.map, List.sum_cons, List.sum_nil]; omega)) (by first | exact Nat.le_of_ble_eq_true rfl | omega | (simp only [kR, Value.category, kCat_q, List.map, List.sum_cons, List.sum_nil]; omega)) (noE (gRg_p ⟨by decide, by decide⟩)) (rdL rSu5 ?_)
        refine k_lload B dL_bottles_137 rfl ?_
        refine k_lcmp B dL_bottles_139 ?_
        refine k_if_ne B 147 dL_bottles_140 (by decide) (fun c9 => (c9 ((lg_cmp_eq _ _).mpr rfl)).elim) (fun _ => ?_)
        refine k_iconst B (v := 1) dL_bottles_143 (by decide) ?_
        refine k_goto B 148 dL_bottles_144 (by decide) ?_
        refine k_zret B hr dL_bottles_148 (by rfl) ?_ (by first | exact Nat.le_of_ble_eq_true rfl | omega | (simp only [kR, Value.category, kCat_q, List.map, List.sum_cons, List.sum_nil]; omega)) (by first | exact Nat.le_of_ble_eq_true rfl | omega | (simp only [kR, Value.category, kCat_q, List.map, List.sum_cons, List.sum_nil]; omega))
        exact ⟨rfl, z, J, hs, hz, hJ, by omega, hW9⟩
    have good : u ≤ rMay z i → u ≤ unS (sR z (sW z i).1) → sLn z < 40 → ∀ k n, k ≤ 10 → n ≤ 50 → kK p l e (kR 10 60 400) s m args below meth c D (kA σ s.heap.size) 12 (kQ below args s D σ (lPs D aO ac ap aw ah z F) (fun _ => False) 60 400) σ k n 87 [some (.ref aO), some (.int (nI x)), some (.int (nI y)), some (.ref ac), some (.ref aw), some (.int (nI i)), some (.int (nI u)), some (.int (nI (unS (sR z (sW z i).1)))), some (.long (nL (sVil z))), none, none, none] [] := by
      intro g1 g2 g3 k n hk hn
      have g0 : gBottle z (nI i) (nI u) = none := by rw [gg, decide_eq_true g1, decide_eq_true g2, decide_eq_true g3]; rfl
      have en : nBottle z (nI i) (nI u) = botS z i u := by rw [nBottle, cN_nI (by omega), cN_nI (by omega)]
      have ej : jBottle z (nI i) (nI u) J = J ++ [.inr ((sW z i).1, 11 + sLn z, u)] := by rw [jBottle, cN_nI (by omega), cN_nI (by omega)]
      have hs2 := ok_bot hs hiw (show 0 < u by omega) (by omega) g1 g2 g3
      have hz2 := zI_bot hs hz hiw g2
      have hJ2 := jR_bot hs hiw (show 0 < u by omega) (by omega) g2 g3 hJ
      have hl2 : sLn z < sLn (botS z i u) := Nat.lt_succ_self _
      have r1 : unS (sR (botS z i u) (sW z i).1) = unS (sR z (sW z i).1) - u := by
        show unS (upN (upN (sR z) (sW z i).1 (tkS (sR z (sW z i).1) u).2) (11 + sLn z) (tkS (sR z (sW z i).1) u).1 (sW z i).1) = _
        rw [upN_ne (by omega), upN_eq]
        have e1 := tkS_un (P := sR z (sW z i).1) (w := u)
        have e2 := tkS_all g2
        omega
      have r2 : unS (sR (botS z i u) (11 + sLn z)) = u := by
        show unS (upN (upN (sR z) (sW z i).1 (tkS (sR z (sW z i).1) u).2) (11 + sLn z) (tkS (sR z (sW z i).1) u).1 (11 + sLn z)) = _
        rw [upN_eq, tkS_all g2]
      have r3 : sLo (botS z i u) (sLn z) = (i, sNow z, 0, -1, 0, 0) := upN_eq
      have hcen := hs.1.2.1
      refine k_iconst B (v := 1) dL_bottles_87 (by decide) ?_
      refine k_goto B 92 dL_bottles_88 (by decide) ?_
      refine k_istore B dL_bottles_92 (by decide) ?_
      try refine kK.set1 (by first | exact True.intro | rfl | exact kCat_q _) ?_
      refine k_aload_n B dL_bottles_94 rfl (by first | exact kRf_r _ | exact kRf_q _ | exact kRf_n) ?_
      refine k_iconst B (v := 0) dL_bottles_95 (by decide) ?_
      refine k_iload B dL_bottles_96 rfl ?_
      refine k_iload B dL_bottles_98 rfl ?_
      refine cl_L_90 B (c_L_asks0 hl hs h) dL_bottles_100 (by first | exact Nat.le_of_ble_eq_true rfl | omega | (simp only [kR, Value.category, kCat_q, List.map, List.sum_cons, List.sum_nil]; omega)) (by first | exact Nat.le_of_ble_eq_true rfl | omega | (simp only [kR, Value.category, kCat_q, List.map, List.sum_cons, List.sum_nil]; omega)) (by first | exact Nat.le_of_ble_eq_true rfl | omega | (simp only [kR, Value.category, kCat_q, List.map, List.sum_cons, List.sum_nil]; omega)) (by first | exact Nat.le_of_ble_eq_true rfl | omega | (simp only [kR, Value.category, kCat_q, List.map, List.sum_cons, List.sum_nil]; omega)) (by first | exact Nat.le_of_ble_eq_true rfl | omega | (simp only [kR, Value.category, kCat_q, List.map, List.sum_cons, List.sum_nil]; omega)) (fun _ hx => hx.elim) (fun v100 s100 hp100 => ?_)
      rcases hp100 with ⟨-, rfl, h2, f2⟩ | ⟨E, hE, -⟩
      · rw [en, ej] at h2
        refine kK.rev (y := .int (nI (sLn z))) rfl ?_
        have a2 := ha.keep f2
        refine k_istore B dL_bottles_103 (by decide) ?_
        try refine kK.set1 (by first | exact True.intro | rfl | exact kCat_q _) ?_
        refine k_iload B dL_bottles_105 rfl ?_
        refine k_if_ne B 149 dL_bottles_107 (by decide) (fun _ => ?_) (fun c9 => absurd c9 (by decide))
        refine k_aload B dL_bottles_149 rfl (by first | exact kRf_r _ | exact kRf_q _ | exact kRf_n) ?_
        refine k_bipush B (v := 12) dL_bottles_151 (by decide) ?_
        refine k_iload B dL_bottles_153 rfl ?_
        refine k_iadd B dL_bottles_155 ?_
        refine kK.rei (y := nI (12 + i)) (nI_add 12 i) ?_
        refine k_dup2 B dL_bottles_156 rfl rfl ?_
        refine k_ald B (12 + i) dL_bottles_157 a2.2.2.1 (by rfl) (by first | omega | decide) (by decide) (w2) ?_
        refine k_iload B dL_bottles_158 rfl ?_
        refine k_iadd B dL_bottles_160 ?_
        refine kK.rei (y := nI ((sW z i).2.2 + u)) (nI_add _ _) ?_
        refine k_aupG B (12 + i) dL_bottles_161 a2.2.2.1 (by rfl) (by first | omega | decide) (by decide) (fun s161 ha161 ho161 => ?_)
        have a3 := a2.w ho161 ha161
        have h3 := h2.outI a2.2.2.1 ho161
        refine k_aload_n B dL_bottles_162 rfl (by first | exact kRf_r _ | exact kRf_q _ | exact kRf_n) ?_
        refine k_iconst B (v := 2) dL_bottles_163 (by decide) ?_
        refine k_dup2 B dL_bottles_164 rfl rfl ?_
        refine k_ald B 2 dL_bottles_165 a3.1 (by rfl) (by first | omega | decide) (by decide) (c2) ?_
        refine k_iconst B (v := 1) dL_bottles_166 (by decide) ?_
        refine k_iadd B dL_bottles_167 ?_
        refine kK.rei (y := nI (sLn z + 1)) (nI_1 _) ?_
        refine k_aupG B 2 dL_bottles_168 a3.1 (by rfl) (by first | omega | decide) (by decide) (fun s168 ha168 ho168 => ?_)
        have a4 := a3.c ho168 ha168
        have h4 := h3.outI a3.1 ho168
        refine k_iload B dL_bottles_169 rfl ?_
        refine k_aload_n B dL_bottles_171 rfl (by first | exact kRf_r _ | exact kRf_q _ | exact kRf_n) ?_
        refine k_iconst B (v := 2) dL_bottles_172 (by decide) ?_
        refine k_ald B 2 dL_bottles_173 a4.1 (by rfl) (by first | omega | decide) (by decide) (upN_eq) ?_
        refine k_iconst B (v := 1) dL_bottles_174 (by decide) ?_
        refine k_isub B dL_bottles_175 ?_
        refine kK.rei (y := nI (sLn z)) (nI_pred _) ?_
        refine k_icmp_ne B 269 dL_bottles_176 (by decide) (fun c9 => (c9 (rfl)).elim) (fun _ => ?_)
        refine k_aload_n B dL_bottles_179 rfl (by first | exact kRf_r _ | exact kRf_q _ | exact kRf_n) ?_
        refine k_aload B dL_bottles_180 rfl (by first | exact kRf_r _ | exact kRf_q _ | exact kRf_n) ?_
        refine k_iload B dL_bottles_182 rfl ?_
        refine k_ald B i dL_bottles_184 a4.2.2.1 (by rfl) (by first | omega | decide) (by decide) ((upN_ne (show i ≠ 12 + i by omega)).trans w0) ?_
        refine k_iconst B (v := 0) dL_bottles_185 (by decide) ?_
        refine cl_L_52 B (c_X9_cellOf hl hs2 h4) (h4.rv.choose_spec) dL_bottles_186 (by first | exact Nat.le_of_ble_eq_true rfl | omega | (simp only [kR, Value.category, kCat_q, List.map, List.sum_cons, List.sum_nil]; omega)) (by first | exact Nat.le_of_ble_eq_true rfl | omega | (simp only [kR, Value.category, kCat_q, List.map, List.sum_cons, List.sum_nil]; omega)) (by first | exact Nat.le_of_ble_eq_true rfl | omega | (simp only [kR, Value.category, kCat_q, List.map, List.sum_cons, List.sum_nil]; omega)) (by first | exact Nat.le_of_ble_eq_true rfl | omega | (simp only [kR, Value.category, kCat_q, List.map, List.sum_cons, List.sum_nil]; omega)) (by first | exact Nat.le_of_ble_eq_true rfl | omega | (simp only [kR, Value.category, kCat_q, List.map, List.sum_cons, List.sum_nil]; omega)) (noE (gCl hw10 ⟨by decide, by decide⟩)) (rdI (rCl0 hw10) ?_)
        refine kK.rei (y := nI (unS (sR z (sW z i).1) - u)) (by rw [r1]) ?_
        refine k_iload B dL_bottles_189 rfl ?_
        refine k_iload B dL_bottles_191 rfl ?_
        refine k_isub B dL_bottles_193 ?_
        refine kK.rei (y := nI (unS (sR z (sW z i).1) - u)) (nI_sub g2) ?_
        refine k_icmp_ne B 269 dL_bottles_194 (by decide) (fun c9 => (c9 (rfl)).elim) (fun _ => ?_)
        refine k_aload_n B dL_bottles_197 rfl (by first | exact kRf_r _ | exact kRf_q _ | exact kRf_n) ?_
        refine k_iconst B (v := 5) dL_bottles_198 (by decide) ?_
        refine cl_L_86 B (c_X9_sum hl hs2 h4) (h4.rv.choose_spec) dL_bottles_199 (by first | exact Nat.le_of_ble_eq_true rfl | omega | (simp only [kR, Value.category, kCat_q, List.map, List.sum_cons, List.sum_nil]; omega)) (by first | exact Nat.le_of_ble_eq_true rfl | omega | (simp only [kR, Value.category, kCat_q, List.map, List.sum_cons, List.sum_nil]; omega)) (by first | exact Nat.le_of_ble_eq_true rfl | omega | (simp only [kR, Value.category, kCat_q, List.map, List.sum_cons, List.sum_nil]; omega)) (by first | exact Nat.le_of_ble_eq_true rfl | omega | (simp only [kR, Value.category, kCat_q, List.map, List.sum_cons, List.sum_nil]; omega)) (by first | exact Nat.le_of_ble_eq_true rfl | omega | (simp only [kR, Value.category, kCat_q, List.map, List.sum_cons, List.sum_nil]; omega)) (noE (gRg_p ⟨by decide, by decide⟩)) (rdL rSu5 ?_)
        refine k_lload B dL_bottles_202 rfl ?_
        refine k_aload_n B dL_bottles_204 rfl (by first | exact kRf_r _ | exact kRf_q _ | exact kRf_n) ?_
        refine k_iconst B (v := 4) dL_bottles_205 (by decide) ?_
        refine k_ald B 4 dL_bottles_206 a4.1 (by rfl) (by first | omega | decide) (by decide) ((upN_ne (by decide)).trans c4) ?_
        refine k_i2l B dL_bottles_207 ?_
        refine kK.rel (y := nL (sCen z)) (nI_L (by omega)) ?_
        refine k_iload B dL_bottles_208 rfl ?_
        refine k_i2l B dL_bottles_210 ?_
        refine kK.rel (y := nL u) (nI_L (by omega)) ?_
        refine k_lmul B dL_bottles_211 ?_
        refine kK.rel (y := nL (sCen z * u)) (nL_mul _ _) ?_
        refine k_ladd B dL_bottles_212 ?_
        refine kK.rel (y := nL (sVil z + sCen z * u)) (nL_add _ _) ?_
        refine k_lcmp B dL_bottles_213 ?_
        refine k_if_ne B 269 dL_bottles_214 (by decide) (fun c9 => (c9 ((lg_cmp_eq _ _).mpr (by rw [Nat.mul_comm (sCen z)]; rfl))).elim) (fun _ => ?_)
        refine k_aload_n B dL_bottles_217 rfl (by first | exact kRf_r _ | exact kRf_q _ | exact kRf_n) ?_
        refine k_iload B dL_bottles_218 rfl ?_
        refine k_iconst B (v := 0) dL_bottles_220 (by decide) ?_
        refine cl_L_36 B (c_X9_lotOf hl hs2 h4) (h4.rv.choose_spec) dL_bottles_221 (by first | exact Nat.le_of_ble_eq_true rfl | omega | (simp only [kR, Value.category, kCat_q, List.map, List.sum_cons, List.sum_nil]; omega)) (by first | exact Nat.le_of_ble_eq_true rfl | omega | (simp only [kR, Value.category, kCat_q, List.map, List.sum_cons, List.sum_nil]; omega)) (by first | exact Nat.le_of_ble_eq_true rfl | omega | (simp only [kR, Value.category, kCat_q, List.map, List.sum_cons, List.sum_nil]; omega)) (by first | exact Nat.le_of_ble_eq_true rfl | omega | (simp only [kR, Value.category, kCat_q, List.map, List.sum_cons, List.sum_nil]; omega)) (by first | exact Nat.le_of_ble_eq_true rfl | omega | (simp only [kR, Value.category, kCat_q, List.map, List.sum_cons, List.sum_nil]; omega)) (noE (gLf hl2 hs2.2.2.2.1.1 ⟨by decide, by decide⟩)) (rdI (rLo0 (Nat.lt_of_lt_of_le hl2 hs2.2.2.2.1.1)) ?_)
        refine kK.rei (y := nI i) (by rw [r3]) ?_
        refine k_iload B dL_bottles_224 rfl ?_
        refine k_icmp_ne B 269 dL_bottles_226 (by decide) (fun c9 => (c9 (rfl)).elim) (fun _ => ?_)
        refine k_aload_n B dL_bottles_229 rfl (by first | exact kRf_r _ | exact kRf_q _ | exact kRf_n) ?_
        refine k_iload B dL_bottles_230 rfl ?_
        refine k_iconst B (v := 1) dL_bottles_232 (by decide) ?_
        refine cl_L_36 B (c_X9_lotOf hl hs2 h4) (h4.rv.choose_spec) dL_bottles_233 (by first | exact Nat.le_of_ble_eq_true rfl | omega | (simp only [kR, Value.category, kCat_q, List.map, List.sum_cons, List.sum_nil]; omega)) (by first | exact Nat.le_of_ble_eq_true rfl | omega | (simp only [kR, Value.category, kCat_q, List.map, List.sum_cons, List.sum_nil]; omega)) (by first | exact Nat.le_of_ble_eq_true rfl | omega | (simp only [kR, Value.category, kCat_q, List.map, List.sum_cons, List.sum_nil]; omega)) (by first | exact Nat.le_of_ble_eq_true rfl | omega | (simp only [kR, Value.category, kCat_q, List.map, List.sum_cons, List.sum_nil]; omega)) (by first | exact Nat.le_of_ble_eq_true rfl | omega | (simp only [kR, Value.category, kCat_q, List.map, List.sum_cons, List.sum_nil]; omega)) (noE (gLf hl2 hs2.2.2.2.1.1 ⟨by decide, by decide⟩)) (rdI (rLo1 (Nat.lt_of_lt_of_le hl2 hs2.2.2.2.1.1)) ?_)
        refine kK.rei (y := nI u) (by rw [r2]) ?_
        refine k_iload B dL_bottles_236 rfl ?_
        refine k_icmp_ne B 269 dL_bottles_238 (by decide) (fun c9 => (c9 (rfl)).elim) (fun _ => ?_)
        refine k_aload_n B dL_bottles_241 rfl (by first | exact kRf_r _ | exact kRf_q _ | exact kRf_n) ?_
        refine k_iload B dL_bottles_242 rfl ?_
        refine k_iconst B (v := 3) dL_bottles_244 (by decide) ?_
        refine cl_L_36 B (c_X9_lotOf hl hs2 h4) (h4.rv.choose_spec) dL_bottles_245 (by first | exact Nat.le_of_ble_eq_true rfl | omega | (simp only [kR, Value.category, kCat_q, List.map, List.sum_cons, List.sum_nil]; omega)) (by first | exact Nat.le_of_ble_eq_true rfl | omega | (simp only [kR, Value.category, kCat_q, List.map, List.sum_cons, List.sum_nil]; omega)) (by first | exact Nat.le_of_ble_eq_true rfl | omega | (simp only [kR, Value.category, kCat_q, List.map, List.sum_cons, List.sum_nil]; omega)) (by first | exact Nat.le_of_ble_eq_true rfl | omega | (simp only [kR, Value.category, kCat_q, List.map, List.sum_cons, List.sum_nil]; omega)) (by first | exact Nat.le_of_ble_eq_true rfl | omega | (simp only [kR, Value.category, kCat_q, List.map, List.sum_cons, List.sum_nil]; omega)) (noE (gLf hl2 hs2.2.2.2.1.1 ⟨by decide, by decide⟩)) (rdI (rLo3 (Nat.lt_of_lt_of_le hl2 hs2.2.2.2.1.1)) ?_)
        refine kK.rei (y := nI (sNow z)) (by rw [r3]) ?_
        refine k_aload_n B dL_bottles_248 rfl (by first | exact kRf_r _ | exact kRf_q _ | exact kRf_n) ?_
        refine k_iconst B (v := 0) dL_bottles_249 (by decide) ?_
        refine k_ald B 0 dL_bottles_250 a4.1 (by rfl) (by first | omega | decide) (by decide) ((upN_ne (by decide)).trans c0) ?_
        refine k_icmp_ne B 269 dL_bottles_251 (by decide) (fun c9 => (c9 (rfl)).elim) (fun _ => ?_)
        refine k_aload_n B dL_bottles_254 rfl (by first | exact kRf_r _ | exact kRf_q _ | exact kRf_n) ?_
        refine k_iload B dL_bottles_255 rfl ?_
        refine k_bipush B (v := 7) dL_bottles_257 (by decide) ?_
        refine cl_L_36 B (c_X9_lotOf hl hs2 h4) (h4.rv.choose_spec) dL_bottles_259 (by first | exact Nat.le_of_ble_eq_true rfl | omega | (simp only [kR, Value.category, kCat_q, List.map, List.sum_cons, List.sum_nil]; omega)) (by first | exact Nat.le_of_ble_eq_true rfl | omega | (simp only [kR, Value.category, kCat_q, List.map, List.sum_cons, List.sum_nil]; omega)) (by first | exact Nat.le_of_ble_eq_true rfl | omega | (simp only [kR, Value.category, kCat_q, List.map, List.sum_cons, List.sum_nil]; omega)) (by first | exact Nat.le_of_ble_eq_true rfl | omega | (simp only [kR, Value.category, kCat_q, List.map, List.sum_cons, List.sum_nil]; omega)) (by first | exact Nat.le_of_ble_eq_true rfl | omega | (simp only [kR, Value.category, kCat_q, List.map, List.sum_cons, List.sum_nil]; omega)) (noE (gLf hl2 hs2.2.2.2.1.1 ⟨by decide, by decide⟩)) (rdI (rLo7 (Nat.lt_of_lt_of_le hl2 hs2.2.2.2.1.1)) ?_)
        refine k_if_ne B 269 dL_bottles_262 (by decide) (fun c9 => (c9 (by rw [r3])).elim) (fun _ => ?_)
        refine k_iconst B (v := 1) dL_bottles_265 (by decide) ?_
        refine k_goto B 270 dL_bottles_266 (by decide) ?_
        refine k_zret B hr dL_bottles_270 (by rfl) ?_ (by first | exact Nat.le_of_ble_eq_true rfl | omega | (simp only [kR, Value.category, kCat_q, List.map, List.sum_cons, List.sum_nil]; omega)) (by first | exact Nat.le_of_ble_eq_true rfl | omega | (simp only [kR, Value.category, kCat_q, List.map, List.sum_cons, List.sum_nil]; omega))
        refine ⟨rfl, _, _, hs2, hz2, hJ2, Nat.le_succ _, h4, _, fp, _, fh, a4, ⟨?_, ?_, ?_, ?_, ?_, ?_, ?_, ?_⟩, hpA, fun k hk => ?_, fun k hk => ?_⟩
        · rw [upN_ne (by decide)]; exact c0
        · rw [upN_ne (by decide)]; exact c1
        · exact upN_eq
        · rw [upN_ne (by decide)]; exact c3
        · rw [upN_ne (by decide)]; exact c4
        · rw [upN_ne (by decide)]; exact c5
        · rw [upN_ne (by decide)]; exact c6
        · rw [upN_ne (by decide)]; exact c7
        · have hk : k < sWn z := hk
          obtain ⟨v0, v1, v2⟩ := hwA k hk
          rw [upN_ne (by omega), upN_ne (by omega)]
          show fw k = nI (upN (sW z) i ((sW z i).1, (sW z i).2.1, (sW z i).2.2 + u) k).1 ∧ fw (6 + k) = nI (upN (sW z) i ((sW z i).1, (sW z i).2.1, (sW z i).2.2 + u) k).2.1 ∧ upN fw (12 + i) (nI ((sW z i).2.2 + u)) (12 + k) = nI (upN (sW z) i ((sW z i).1, (sW z i).2.1, (sW z i).2.2 + u) k).2.2
          by_cases q : k = i
          · subst q
            rw [upN_eq, upN_eq]
            exact ⟨v0, v1, rfl⟩
          · rw [upN_ne q, upN_ne (by omega)]
            exact ⟨v0, v1, v2⟩
        · show fh k = if k < sLn z + 1 then hV (upN (sLo z) (sLn z) (i, sNow z, 0, -1, 0, 0) k) else 0
          rw [hhA k hk]
          by_cases q : k = sLn z
          · subst q
            rw [upN_eq, if_neg (by omega), if_pos (by omega)]
            exact hW_0.symm
          · rw [upN_ne q]
            by_cases q2 : k < sLn z
            · rw [if_pos q2, if_pos (by omega)]
            · rw [if_neg q2, if_neg (by omega)]
      · rw [g0] at hE; cases hE
    refine k_iload B dL_bottles_58 rfl ?_
    refine k_aload_n B dL_bottles_60 rfl (by first | exact kRf_r _ | exact kRf_q _ | exact kRf_n) ?_
    refine k_iload B dL_bottles_61 rfl ?_
    refine k_aload_n B dL_bottles_63 rfl (by first | exact kRf_r _ | exact kRf_q _ | exact kRf_n) ?_
    refine k_aload B dL_bottles_64 rfl (by first | exact kRf_r _ | exact kRf_q _ | exact kRf_n) ?_
    refine cl_L_97 B (c_L_may hl hs h ha.1 hcA ha.2.2.1 hwA hiw) dL_bottles_66 (by first | exact Nat.le_of_ble_eq_true rfl | omega | (simp only [kR, Value.category, kCat_q, List.map, List.sum_cons, List.sum_nil]; omega)) (by first | exact Nat.le_of_ble_eq_true rfl | omega | (simp only [kR, Value.category, kCat_q, List.map, List.sum_cons, List.sum_nil]; omega)) (by first | exact Nat.le_of_ble_eq_true rfl | omega | (simp only [kR, Value.category, kCat_q, List.map, List.sum_cons, List.sum_nil]; omega)) (by first | exact Nat.le_of_ble_eq_true rfl | omega | (simp only [kR, Value.category, kCat_q, List.map, List.sum_cons, List.sum_nil]; omega)) (by first | exact Nat.le_of_ble_eq_true rfl | omega | (simp only [kR, Value.category, kCat_q, List.map, List.sum_cons, List.sum_nil]; omega)) (fun _ hx => hx.elim) (rdV ?_)
    refine k_icmp_gt B 91 dL_bottles_69 (by decide) (fun c69 => ?_) (fun c69 => ?_)
    · have q1 := (nI_ltI (by omega) (by omega)).mp c69
      refine bad ?_ _ _ (by omega) (by omega)
      rw [gg, decide_eq_false (by omega), Bool.false_and]; rfl
    · have q1 : u ≤ rMay z i := Nat.le_of_not_lt (fun q => c69 ((nI_ltI (by omega) (by omega)).mpr q))
      refine k_iload B dL_bottles_72 rfl ?_
      refine k_iload B dL_bottles_74 rfl ?_
      refine k_icmp_gt B 91 dL_bottles_76 (by decide) (fun c76 => ?_) (fun c76 => ?_)
      · have q2 := (nI_ltI (by omega) (by omega)).mp c76
        refine bad ?_ _ _ (by omega) (by omega)
        rw [gg, decide_eq_false (show ¬ u ≤ unS (sR z (sW z i).1) by omega), Bool.false_and, Bool.and_false]; rfl
      · have q2 : u ≤ unS (sR z (sW z i).1) := Nat.le_of_not_lt (fun q => c76 ((nI_ltI (by omega) (by omega)).mpr q))
        refine k_aload_n B dL_bottles_79 rfl (by first | exact kRf_r _ | exact kRf_q _ | exact kRf_n) ?_
        refine k_iconst B (v := 2) dL_bottles_80 (by decide) ?_
        refine k_ald B 2 dL_bottles_81 ha.1 (by rfl) (by first | omega | decide) (by decide) (c2) ?_
        refine k_bipush B (v := 40) dL_bottles_82 (by decide) ?_
        refine k_icmp_ge B 91 dL_bottles_84 (by decide) (fun c84 => ?_) (fun c84 => ?_)
        · have q3 := (nI_leI (a := 40) (by omega) (by omega)).mp c84
          refine bad ?_ _ _ (by omega) (by omega)
          rw [gg, decide_eq_false (show ¬ sLn z < 40 by omega), Bool.and_false, Bool.and_false]; rfl
        · have q3 : sLn z < 40 := Nat.lt_of_not_le (fun q => c84 ((nI_leI (a := 40) (by omega) (by omega)).mpr q))
          exact good q1 q2 q3 _ _ (by omega) (by omega)
end Bottles
