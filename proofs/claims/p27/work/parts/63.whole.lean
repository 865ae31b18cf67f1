theorem suN_add2 {f g : Nat → Nat} {n : Nat} : suN (fun i => f i + g i) n = suN f n + suN g n := by
  induction n with
  | zero => rfl
  | succ n ih => simp only [suN, ih]; omega
theorem suN_0 {n : Nat} : suN (fun _ => 0) n = 0 := by
  induction n with
  | zero => rfl
  | succ n ih => simp only [suN, ih]
theorem suN_one {a x n : Nat} (h : a < n) : suN (fun i => if i = a then x else 0) n = x := by
  induction n with
  | zero => omega
  | succ n ih =>
    simp only [suN]
    by_cases q : a = n
    · subst q
      rw [if_pos rfl]
      have : suN (fun i => if i = a then x else 0) a = suN (fun _ => 0) a := suN_congr (fun i hi => if_neg (by omega))
      rw [this, suN_0, Nat.zero_add]
    · rw [if_neg (Ne.symm q), ih (by omega), Nat.add_zero]
theorem frS_zero {P : List kP} {c y : Int32} (h : ∀ q ∈ P, ¬ nI q.2.1 = y) : frS c y P = 0 := by
  induction P with
  | nil => rfl
  | cons p t ih =>
    simp only [frS]
    rw [if_neg (fun q => h p List.mem_cons_self q.2), ih (fun q hq => h q (List.mem_cons_of_mem _ hq))]
/-- all units fell somewhere in some year -/
theorem frS_all {P : List kP} {b : Nat} (hb : b ≤ 300) (h : ∀ q ∈ P, q.1 < 10 ∧ q.2.1 < b) : suN (fun c => suN (fun y => frS (nI c) (nI y) P) b) 10 = unS P := by
  induction P with
  | nil =>
    show suN (fun c => suN (fun _ => 0) b) 10 = 0
    rw [suN_0, suN_0]
  | cons p t ih =>
    have hp := h p List.mem_cons_self
    have hp1 := hp.1
    have hp2 := hp.2
    simp only [unS]
    rw [← ih (fun q hq => h q (List.mem_cons_of_mem _ hq))]
    have e1 : ∀ c, c < 10 → suN (fun y => frS (nI c) (nI y) (p :: t)) b = (if c = p.1 then kUn p else 0) + suN (fun y => frS (nI c) (nI y) t) b := by
      intro c hc
      have e2 : suN (fun y => frS (nI c) (nI y) (p :: t)) b = suN (fun y => (if nI p.1 = nI c ∧ nI p.2.1 = nI y then kUn p else 0) + frS (nI c) (nI y) t) b := rfl
      rw [e2, suN_add2 (f := fun y => if nI p.1 = nI c ∧ nI p.2.1 = nI y then kUn p else 0) (g := fun y => frS (nI c) (nI y) t)]
      congr 1
      by_cases q : c = p.1
      · rw [if_pos q]
        have e3 : suN (fun y => if nI p.1 = nI c ∧ nI p.2.1 = nI y then kUn p else 0) b = suN (fun y => if y = p.2.1 then kUn p else 0) b := suN_congr (fun y hy => by
          by_cases q2 : y = p.2.1
          · rw [if_pos q2, if_pos ⟨by rw [q], by rw [q2]⟩]
          · rw [if_neg q2, if_neg (fun x => q2 ((nI_eq (by omega) (by omega)).mp x.2).symm)])
        rw [e3]
        exact suN_one hp2
      · rw [if_neg q]
        have e3 : suN (fun y => if nI p.1 = nI c ∧ nI p.2.1 = nI y then kUn p else 0) b = suN (fun _ => 0) b := suN_congr (fun y hy => if_neg (fun x => q ((nI_eq (by omega) (by omega)).mp x.1).symm))
        rw [e3, suN_0]
    rw [suN_congr e1, suN_add2 (f := fun c => if c = p.1 then kUn p else 0) (g := fun c => suN (fun y => frS (nI c) (nI y) t) b), suN_one hp1]
section Whole
variable {l : Launch} {D : va_G} {σ : kS} {aO ac : Nat} {z : kSt} {J : List kJe} {F : kF} {fc : Nat → Int32}
set_option maxHeartbeats 2000000 in
set_option maxRecDepth 100000 in
theorem c_L_isWhole (hl : l.stackTraces = false) (hs : sOk z) (h : cl9 D aO z J F σ) (hJ : jR z J) (hcn : cnt F ≤ 3400) (hc : σ ac = some (iA D 8 fc)) (c0 : fc 0 = nI (sNow z)) {i : Nat} (hi : i < sLn z) : kMh hL_isWhole l D yL_isWhole 9 16000 83000 [.ref aO, .int (nI i), .ref ac] σ (fun v _ => v = some (.int 1)) (fun _ => False) := by
  refine kM_of (L := [some (.ref aO), some (.int (nI i)), some (.ref ac), none, none, none, none, none, none]) (by decide +kernel) hl (List.forall_mem_cons.mpr ⟨rfl, (List.forall_mem_cons.mpr ⟨rfl, (List.forall_mem_cons.mpr ⟨rfl, (fun _ h => absurd h List.not_mem_nil)⟩)⟩)⟩) (Nat.le_of_ble_eq_true rfl) rfl ?_
  intro p e s m args below meth c B hr hex hnm
  have B : kB p l s m args meth c D (kA σ s.heap.size) 9 cL_isWhole RL := B
  have h40 := hs.2.2.2.1.1
  have i40 : i < 40 := by omega
  have hn3 := hs.1.1
  have hlt := hs.2.2.2.1.2 i hi
  have hpk := hlt.2.2.2.2.2.1
  have hu2 := hlt.2.2.2.2.2.2.2
  have hall := frS_all (P := sR z (11 + i)) (b := sNow z) hn3 (fun q hq => ⟨(hpk q hq).1, Nat.lt_of_lt_of_le (hpk q hq).2.1 hlt.2.1⟩)
  have hyr : ∀ q ∈ sR z (11 + i), q.2.1 < sNow z := fun q hq => Nat.lt_of_lt_of_le (hpk q hq).2.1 hlt.2.1
  have outer : ∀ (n9 c9 : Nat) (F1 : kF) (s1 : kS), c9 + n9 = 10 → cnt F ≤ cnt F1 → cnt F1 ≤ 3400 → cl9 D aO z J F1 s1 → kFr k9F σ s1 → kK p l e (kR 9 16000 83000) s m args below meth c D (kA σ s.heap.size) 9 (kQ below args s D σ (fun v _ => v = some (.int 1)) (fun _ => False) 16000 83000) s1 (1200 * c9 + (cnt F1 - cnt F)) (7200 * c9 + 3 * (cnt F1 - cnt F)) 11 [some (.ref aO), some (.int (nI i)), some (.ref ac), some (.int (nI (suN (fun c => suN (fun y => frS (nI c) (nI y) (sR z (11 + i))) (sNow z)) c9))), some (.int (nI (suN (fun c => suN (fun y => frS (nI c) (nI y) (sR z (11 + i))) (sNow z)) c9))), some (.int 0), some (.int (nI c9)), none, none] [] := by
    intro n9
    induction n9 with
    | zero =>
      intro c9 F1 s1 hc9 hc0 hc1 h1 f1
      have hc10 : c9 = 10 := by omega
      subst hc10
      rw [hall]
      refine k_iload B dL_isWhole_11 rfl ?_
      refine k_bipush B (v := 10) dL_isWhole_13 (by decide) ?_
      refine k_icmp_ge B 95 dL_isWhole_15 (by decide) (fun _ => ?_) (fun c9 => (c9 (by decide)).elim)
      refine k_iload_n B dL_isWhole_95 rfl ?_
      refine k_aload_n B dL_isWhole_96 rfl (by first | exact kRf_r _ | exact kRf_q _ | exact kRf_n) ?_
      refine k_iload_n B dL_isWhole_97 rfl ?_
      refine k_iconst B (v := 1) dL_isWhole_98 (by decide) ?_
      refine cl_L_36 B (c_X9_lotOf hl hs h1) (h1.rv.choose_spec) dL_isWhole_99 (by first | exact Nat.le_of_ble_eq_true rfl | omega | (simp only [kR, Value.category, kCat_q, List.map, List.sum_cons, List.sum_nil]; omega)) (by first | exact Nat.le_of_ble_eq_true rfl | omega | (simp only [kR, Value.category, kCat_q, List.map, List.sum_cons, List.sum_nil]; omega)) (by first | exact Nat.le_of_ble_eq_true rfl | omega | (simp only [kR, Value.category, kCat_q, List.map, List.sum_cons, List.sum_nil]; omega)) (by first | exact Nat.le_of_ble_eq_true rfl | omega | (simp only [kR, Value.category, kCat_q, List.map, List.sum_cons, List.sum_nil]; omega)) (by first | exact Nat.le_of_ble_eq_true rfl | omega | (simp only [kR, Value.category, kCat_q, List.map, List.sum_cons, List.sum_nil]; omega)) (noE (gLf hi hs.2.2.2.1.1 ⟨by decide, by decide⟩)) (rdI (rLo1 (Nat.lt_of_lt_of_le hi hs.2.2.2.1.1)) ?_)
      refine k_icmp_ne B 154 dL_isWhole_102 (by decide) (fun c9 => (c9 (rfl)).elim) (fun _ => ?_)
      refine k_iload B dL_isWhole_105 rfl ?_
      refine k_iload_n B dL_isWhole_107 rfl ?_
      refine k_icmp_ne B 154 dL_isWhole_108 (by decide) (fun c9 => (c9 (rfl)).elim) (fun _ => ?_)
      refine k_iload B dL_isWhole_111 rfl ?_
      refine k_if_ne B 154 dL_isWhole_113 (by decide) (fun c9 => (c9 (rfl)).elim) (fun _ => ?_)
      refine k_aload_n B dL_isWhole_116 rfl (by first | exact kRf_r _ | exact kRf_q _ | exact kRf_n) ?_
      refine k_iload_n B dL_isWhole_117 rfl ?_
      refine k_iconst B (v := 0) dL_isWhole_118 (by decide) ?_
      refine k_iconst B (v := (-1)) dL_isWhole_119 (by decide) ?_
      refine cl_L_75 B (c_X9_from hl hs h1) (h1.rv.choose_spec) dL_isWhole_120 (by first | exact Nat.le_of_ble_eq_true rfl | omega | (simp only [kR, Value.category, kCat_q, List.map, List.sum_cons, List.sum_nil]; omega)) (by first | exact Nat.le_of_ble_eq_true rfl | omega | (simp only [kR, Value.category, kCat_q, List.map, List.sum_cons, List.sum_nil]; omega)) (by first | exact Nat.le_of_ble_eq_true rfl | omega | (simp only [kR, Value.category, kCat_q, List.map, List.sum_cons, List.sum_nil]; omega)) (by first | exact Nat.le_of_ble_eq_true rfl | omega | (simp only [kR, Value.category, kCat_q, List.map, List.sum_cons, List.sum_nil]; omega)) (by first | exact Nat.le_of_ble_eq_true rfl | omega | (simp only [kR, Value.category, kCat_q, List.map, List.sum_cons, List.sum_nil]; omega)) (noE (gFr hi hs.2.2.2.1.1 (show 0 < 10 by decide))) (rdI (rFr (Nat.lt_of_lt_of_le hi hs.2.2.2.1.1)) ?_)
      refine kK.rei (y := 0) (by rw [frS_zero (fun q hq x => absurd x (fun x => by have := nI_pos' (n := q.2.1) (by have := hyr q hq; omega); rw [x] at this; exact absurd this (by decide)))]; rfl) ?_
      refine k_if_ne B 154 dL_isWhole_123 (by decide) (fun c9 => (c9 (rfl)).elim) (fun _ => ?_)
      refine k_aload_n B dL_isWhole_126 rfl (by first | exact kRf_r _ | exact kRf_q _ | exact kRf_n) ?_
      refine k_iload_n B dL_isWhole_127 rfl ?_
      refine k_bipush B (v := 9) dL_isWhole_128 (by decide) ?_
      refine k_aload_n B dL_isWhole_130 rfl (by first | exact kRf_r _ | exact kRf_q _ | exact kRf_n) ?_
      refine k_iconst B (v := 0) dL_isWhole_131 (by decide) ?_
      refine k_ald B 0 dL_isWhole_132 (iA_keep f1 hc) (by rfl) (by first | omega | decide) (by decide) (c0) ?_
      refine cl_L_75 B (c_X9_from hl hs h1) (h1.rv.choose_spec) dL_isWhole_133 (by first | exact Nat.le_of_ble_eq_true rfl | omega | (simp only [kR, Value.category, kCat_q, List.map, List.sum_cons, List.sum_nil]; omega)) (by first | exact Nat.le_of_ble_eq_true rfl | omega | (simp only [kR, Value.category, kCat_q, List.map, List.sum_cons, List.sum_nil]; omega)) (by first | exact Nat.le_of_ble_eq_true rfl | omega | (simp only [kR, Value.category, kCat_q, List.map, List.sum_cons, List.sum_nil]; omega)) (by first | exact Nat.le_of_ble_eq_true rfl | omega | (simp only [kR, Value.category, kCat_q, List.map, List.sum_cons, List.sum_nil]; omega)) (by first | exact Nat.le_of_ble_eq_true rfl | omega | (simp only [kR, Value.category, kCat_q, List.map, List.sum_cons, List.sum_nil]; omega)) (noE (gFr hi hs.2.2.2.1.1 (show 9 < 10 by decide))) (rdI (rFr (Nat.lt_of_lt_of_le hi hs.2.2.2.1.1)) ?_)
      refine kK.rei (y := 0) (by rw [frS_zero (fun q hq x => absurd ((nI_eq (by have := hyr q hq; omega) (by omega)).mp x) (by have := hyr q hq; omega))]; rfl) ?_
      refine k_if_ne B 154 dL_isWhole_136 (by decide) (fun c9 => (c9 (rfl)).elim) (fun _ => ?_)
      have hmx : frS 3 2147483647 (sR z (11 + i)) = 0 := frS_zero (fun q hq x => absurd ((nI_eq (b := 2147483647) (by have := hyr q hq; omega) (by decide)).mp x) (by have := hyr q hq; omega))
      have hg3 : gFrom z (nI i) 3 = none := gFr hi h40 (show 3 < 10 by decide)
      obtain ⟨d1, d2⟩ := fa_cnt (p0 := nI i) (p1 := 3) (p2 := 2147483647) hs hJ hc1
      obtain ⟨d3, d4⟩ := d2 hg3
      refine k_aload_n B dL_isWhole_139 rfl (by first | exact kRf_r _ | exact kRf_q _ | exact kRf_n) ?_
      refine k_iload_n B dL_isWhole_140 rfl ?_
      refine k_iconst B (v := 3) dL_isWhole_141 (by decide) ?_
      refine k_ldc B qw212 dL_isWhole_142 ?_
      refine cl_L_79 B (c_X9_fromAnew hl hs h1 (jR_ok hJ)) (h1.rv.choose_spec) dL_isWhole_144 (by first | exact Nat.le_of_ble_eq_true rfl | omega | (simp only [kR, Value.category, kCat_q, List.map, List.sum_cons, List.sum_nil]; omega)) (by first | exact Nat.le_of_ble_eq_true rfl | omega | (simp only [kR, Value.category, kCat_q, List.map, List.sum_cons, List.sum_nil]; omega)) (by first | exact Nat.le_of_ble_eq_true rfl | omega | (simp only [kR, Value.category, kCat_q, List.map, List.sum_cons, List.sum_nil]; omega)) (by first | exact Nat.le_of_ble_eq_true rfl | omega | (simp only [kR, Value.category, kCat_q, List.map, List.sum_cons, List.sum_nil]; omega)) (by first | exact Nat.le_of_ble_eq_true rfl | omega | (simp only [kR, Value.category, kCat_q, List.map, List.sum_cons, List.sum_nil]; omega)) (noE hg3) (fun v144 s144 hp144 => ?_)
      obtain ⟨-, e1, h2, f2⟩ := hp144
      rw [e1]
      refine kK.rev (y := .int 0) (by rw [fa_val hs hJ hg3, rFr i40, hmx]; rfl) ?_
      refine k_if_ne B 154 dL_isWhole_147 (by decide) (fun c9 => (c9 (rfl)).elim) (fun _ => ?_)
      refine k_iconst B (v := 1) dL_isWhole_150 (by decide) ?_
      refine k_goto B 155 dL_isWhole_151 (by decide) ?_
      refine k_zret B hr dL_isWhole_155 (by rfl) ?_ (by first | exact Nat.le_of_ble_eq_true rfl | omega | (simp only [kR, Value.category, kCat_q, List.map, List.sum_cons, List.sum_nil]; omega)) (by first | exact Nat.le_of_ble_eq_true rfl | omega | (simp only [kR, Value.category, kCat_q, List.map, List.sum_cons, List.sum_nil]; omega))
      rfl
    | succ n9 ih =>
      intro c9 F1 s1 hc9 hc0 hc1 h1 f1
      have hc10 : c9 < 10 := by omega
      have inner : ∀ (m9 y9 : Nat) (F1 : kF) (s1 : kS), y9 + m9 = sNow z → cnt F ≤ cnt F1 → cnt F1 ≤ 3400 → cl9 D aO z J F1 s1 → kFr k9F σ s1 → kK p l e (kR 9 16000 83000) s m args below meth c D (kA σ s.heap.size) 9 (kQ below args s D σ (fun v _ => v = some (.int 1)) (fun _ => False) 16000 83000) s1 (1200 * c9 + 4 * y9 + (cnt F1 - cnt F)) (7200 * c9 + 24 * y9 + 3 * (cnt F1 - cnt F)) 21 [some (.ref aO), some (.int (nI i)), some (.ref ac), some (.int (nI (suN (fun c => suN (fun y => frS (nI c) (nI y) (sR z (11 + i))) (sNow z)) c9 + suN (fun y => frS (nI c9) (nI y) (sR z (11 + i))) y9))), some (.int (nI (suN (fun c => suN (fun y => frS (nI c) (nI y) (sR z (11 + i))) (sNow z)) c9 + suN (fun y => frS (nI c9) (nI y) (sR z (11 + i))) y9))), some (.int 0), some (.int (nI c9)), some (.int (nI y9)), none] [] := by
        intro m9
        induction m9 with
        | zero =>
          intro y9 F1 s1 hy9 hc0 hc1 h1 f1
          have hy : y9 = sNow z := by omega
          subst hy
          refine k_iload B dL_isWhole_21 rfl ?_
          refine k_aload_n B dL_isWhole_23 rfl (by first | exact kRf_r _ | exact kRf_q _ | exact kRf_n) ?_
          refine k_iconst B (v := 0) dL_isWhole_24 (by decide) ?_
          refine k_ald B 0 dL_isWhole_25 (iA_keep f1 hc) (by rfl) (by first | omega | decide) (by decide) (c0) ?_
          refine k_icmp_ge B 89 dL_isWhole_26 (by decide) (fun _ => ?_) (fun c9 => (c9 (Int32.le_refl _)).elim)
          refine k_iincN (y := nI (c9 + 1)) B dL_isWhole_89 rfl (by decide) (nI_1 c9) ?_
          try refine kK.set1 (by first | exact True.intro | rfl | exact kCat_q _) ?_
          refine k_goto B 11 dL_isWhole_92 (by decide) ?_
          refine kK.sub (L2 := [some (.ref aO), some (.int (nI i)), some (.ref ac), some (.int (nI (suN (fun c => suN (fun y => frS (nI c) (nI y) (sR z (11 + i))) (sNow z)) (c9 + 1)))), some (.int (nI (suN (fun c => suN (fun y => frS (nI c) (nI y) (sR z (11 + i))) (sNow z)) (c9 + 1)))), some (.int 0), some (.int (nI (c9 + 1))), none, none]) ⟨Or.inr rfl, Or.inr rfl, Or.inr rfl, Or.inr rfl, Or.inr rfl, Or.inr rfl, Or.inr rfl, Or.inl rfl, Or.inl rfl, trivial⟩ ?_
          exact kK.widen (by omega) (by omega) (ih (c9 + 1) F1 s1 (by omega) hc0 hc1 h1 f1)
        | succ m9 ih2 =>
          intro y9 F1 s1 hy9 hc0 hc1 h1 f1
          have hy : y9 < sNow z := by omega
          have hfl := frS_le (c := nI c9) (y := nI y9) (P := sR z (11 + i))
          obtain ⟨d1, d2⟩ := fa_cnt (p0 := nI i) (p1 := nI c9) (p2 := nI y9) hs hJ hc1
          obtain ⟨d3, d4⟩ := d2 (gFr hi h40 hc10)
          refine k_iload B dL_isWhole_21 rfl ?_
          refine k_aload_n B dL_isWhole_23 rfl (by first | exact kRf_r _ | exact kRf_q _ | exact kRf_n) ?_
          refine k_iconst B (v := 0) dL_isWhole_24 (by decide) ?_
          refine k_ald B 0 dL_isWhole_25 (iA_keep f1 hc) (by rfl) (by first | omega | decide) (by decide) (c0) ?_
          refine k_icmp_ge B 89 dL_isWhole_26 (by decide) (fun c9 => absurd c9 (fun q => nI_ge hy (by omega) q)) (fun _ => ?_)
          have eS : suN (fun c => suN (fun y => frS (nI c) (nI y) (sR z (11 + i))) (sNow z)) c9 + suN (fun y => frS (nI c9) (nI y) (sR z (11 + i))) y9 + frS (nI c9) (nI y9) (sR z (11 + i)) = suN (fun c => suN (fun y => frS (nI c) (nI y) (sR z (11 + i))) (sNow z)) c9 + suN (fun y => frS (nI c9) (nI y) (sR z (11 + i))) (y9 + 1) := Nat.add_assoc _ _ _
          by_cases hpos : 1 ≤ frS (nI c9) (nI y9) (sR z (11 + i))
          · refine k_aload_n B dL_isWhole_29 rfl (by first | exact kRf_r _ | exact kRf_q _ | exact kRf_n) ?_
            refine k_iload_n B dL_isWhole_30 rfl ?_
            refine k_iload B dL_isWhole_31 rfl ?_
            refine k_iload B dL_isWhole_33 rfl ?_
            refine cl_L_75 B (c_X9_from hl hs h1) (h1.rv.choose_spec) dL_isWhole_35 (by first | exact Nat.le_of_ble_eq_true rfl | omega | (simp only [kR, Value.category, kCat_q, List.map, List.sum_cons, List.sum_nil]; omega)) (by first | exact Nat.le_of_ble_eq_true rfl | omega | (simp only [kR, Value.category, kCat_q, List.map, List.sum_cons, List.sum_nil]; omega)) (by first | exact Nat.le_of_ble_eq_true rfl | omega | (simp only [kR, Value.category, kCat_q, List.map, List.sum_cons, List.sum_nil]; omega)) (by first | exact Nat.le_of_ble_eq_true rfl | omega | (simp only [kR, Value.category, kCat_q, List.map, List.sum_cons, List.sum_nil]; omega)) (by first | exact Nat.le_of_ble_eq_true rfl | omega | (simp only [kR, Value.category, kCat_q, List.map, List.sum_cons, List.sum_nil]; omega)) (noE (gFr hi hs.2.2.2.1.1 hc10)) (rdI (rFr (Nat.lt_of_lt_of_le hi hs.2.2.2.1.1)) ?_)
            refine k_istore B dL_isWhole_38 (by decide) ?_
            try refine kK.set1 (by first | exact True.intro | rfl | exact kCat_q _) ?_
            refine k_iload_n B dL_isWhole_40 rfl ?_
            refine k_iload B dL_isWhole_41 rfl ?_
            refine k_iadd B dL_isWhole_43 ?_
            refine kK.rei (y := nI (suN (fun c => suN (fun y => frS (nI c) (nI y) (sR z (11 + i))) (sNow z)) c9 + suN (fun y => frS (nI c9) (nI y) (sR z (11 + i))) (y9 + 1))) ((nI_add _ _).trans (congrArg nI eS)) ?_
            refine k_istore_n B dL_isWhole_44 (by decide) ?_
            try refine kK.set1 (by first | exact True.intro | rfl | exact kCat_q _) ?_
            refine k_iload B dL_isWhole_45 rfl ?_
            refine k_iload B dL_isWhole_47 rfl ?_
            refine k_if_le B 64 dL_isWhole_49 (by decide) (fun c9 => absurd c9 (nI_nle hpos (by omega))) (fun _ => ?_)
            refine k_aload_n B dL_isWhole_52 rfl (by first | exact kRf_r _ | exact kRf_q _ | exact kRf_n) ?_
            refine k_iload_n B dL_isWhole_53 rfl ?_
            refine k_iload B dL_isWhole_54 rfl ?_
            refine k_iload B dL_isWhole_56 rfl ?_
            refine cl_L_79 B (c_X9_fromAnew hl hs h1 (jR_ok hJ)) (h1.rv.choose_spec) dL_isWhole_58 (by first | exact Nat.le_of_ble_eq_true rfl | omega | (simp only [kR, Value.category, kCat_q, List.map, List.sum_cons, List.sum_nil]; omega)) (by first | exact Nat.le_of_ble_eq_true rfl | omega | (simp only [kR, Value.category, kCat_q, List.map, List.sum_cons, List.sum_nil]; omega)) (by first | exact Nat.le_of_ble_eq_true rfl | omega | (simp only [kR, Value.category, kCat_q, List.map, List.sum_cons, List.sum_nil]; omega)) (by first | exact Nat.le_of_ble_eq_true rfl | omega | (simp only [kR, Value.category, kCat_q, List.map, List.sum_cons, List.sum_nil]; omega)) (by first | exact Nat.le_of_ble_eq_true rfl | omega | (simp only [kR, Value.category, kCat_q, List.map, List.sum_cons, List.sum_nil]; omega)) (noE (gFr hi h40 hc10)) (fun v58 s58 hp58 => ?_)
            obtain ⟨-, e1, h2, f2⟩ := hp58
            rw [e1]
            refine kK.rev (y := .int (nI (frS (nI c9) (nI y9) (sR z (11 + i))))) (by rw [fa_val hs hJ (gFr hi h40 hc10), rFr i40]) ?_
            refine k_goto B 65 dL_isWhole_61 (by decide) ?_
            refine k_iadd B dL_isWhole_65 ?_
            refine kK.rei (y := nI (suN (fun c => suN (fun y => frS (nI c) (nI y) (sR z (11 + i))) (sNow z)) c9 + suN (fun y => frS (nI c9) (nI y) (sR z (11 + i))) (y9 + 1))) ((nI_add _ _).trans (congrArg nI eS)) ?_
            refine k_istore B dL_isWhole_66 (by decide) ?_
            try refine kK.set1 (by first | exact True.intro | rfl | exact kCat_q _) ?_
            refine k_iload B dL_isWhole_68 rfl ?_
            refine k_iload B dL_isWhole_70 rfl ?_
            refine k_if_ge B 79 dL_isWhole_72 (by decide) (fun _ => ?_) (fun c9 => (c9 (nI_pos' (by omega))).elim)
            refine k_iconst B (v := 0) dL_isWhole_79 (by decide) ?_
            refine k_iadd B dL_isWhole_80 ?_
            refine kK.rei (y := 0) (by decide) ?_
            refine k_istore B dL_isWhole_81 (by decide) ?_
            try refine kK.set1 (by first | exact True.intro | rfl | exact kCat_q _) ?_
            refine k_iincN (y := nI (y9 + 1)) B dL_isWhole_83 rfl (by decide) (nI_1 y9) ?_
            try refine kK.set1 (by first | exact True.intro | rfl | exact kCat_q _) ?_
            refine k_goto B 21 dL_isWhole_86 (by decide) ?_
            refine kK.sub (L2 := [some (.ref aO), some (.int (nI i)), some (.ref ac), some (.int (nI (suN (fun c => suN (fun y => frS (nI c) (nI y) (sR z (11 + i))) (sNow z)) c9 + suN (fun y => frS (nI c9) (nI y) (sR z (11 + i))) (y9 + 1)))), some (.int (nI (suN (fun c => suN (fun y => frS (nI c) (nI y) (sR z (11 + i))) (sNow z)) c9 + suN (fun y => frS (nI c9) (nI y) (sR z (11 + i))) (y9 + 1)))), some (.int 0), some (.int (nI c9)), some (.int (nI (y9 + 1))), none]) ⟨Or.inr rfl, Or.inr rfl, Or.inr rfl, Or.inr rfl, Or.inr rfl, Or.inr rfl, Or.inr rfl, Or.inr rfl, Or.inl rfl, trivial⟩ ?_
            exact kK.widen (by omega) (by omega) (ih2 (y9 + 1) _ s58 (by omega) (by omega) d3 h2 (f1.tr f2))
          · have hz0 : frS (nI c9) (nI y9) (sR z (11 + i)) = 0 := by omega
            rw [hz0, Nat.add_zero] at eS
            refine k_aload_n B dL_isWhole_29 rfl (by first | exact kRf_r _ | exact kRf_q _ | exact kRf_n) ?_
            refine k_iload_n B dL_isWhole_30 rfl ?_
            refine k_iload B dL_isWhole_31 rfl ?_
            refine k_iload B dL_isWhole_33 rfl ?_
            refine cl_L_75 B (c_X9_from hl hs h1) (h1.rv.choose_spec) dL_isWhole_35 (by first | exact Nat.le_of_ble_eq_true rfl | omega | (simp only [kR, Value.category, kCat_q, List.map, List.sum_cons, List.sum_nil]; omega)) (by first | exact Nat.le_of_ble_eq_true rfl | omega | (simp only [kR, Value.category, kCat_q, List.map, List.sum_cons, List.sum_nil]; omega)) (by first | exact Nat.le_of_ble_eq_true rfl | omega | (simp only [kR, Value.category, kCat_q, List.map, List.sum_cons, List.sum_nil]; omega)) (by first | exact Nat.le_of_ble_eq_true rfl | omega | (simp only [kR, Value.category, kCat_q, List.map, List.sum_cons, List.sum_nil]; omega)) (by first | exact Nat.le_of_ble_eq_true rfl | omega | (simp only [kR, Value.category, kCat_q, List.map, List.sum_cons, List.sum_nil]; omega)) (noE (gFr hi hs.2.2.2.1.1 hc10)) (rdI (rFr (Nat.lt_of_lt_of_le hi hs.2.2.2.1.1)) ?_)
            refine kK.rei (y := 0) (by rw [hz0]; rfl) ?_
            refine k_istore B dL_isWhole_38 (by decide) ?_
            try refine kK.set1 (by first | exact True.intro | rfl | exact kCat_q _) ?_
            refine k_iload_n B dL_isWhole_40 rfl ?_
            refine k_iload B dL_isWhole_41 rfl ?_
            refine k_iadd B dL_isWhole_43 ?_
            refine kK.rei (y := nI (suN (fun c => suN (fun y => frS (nI c) (nI y) (sR z (11 + i))) (sNow z)) c9 + suN (fun y => frS (nI c9) (nI y) (sR z (11 + i))) (y9 + 1))) ((Int32.add_zero _).trans (congrArg nI eS)) ?_
            refine k_istore_n B dL_isWhole_44 (by decide) ?_
            try refine kK.set1 (by first | exact True.intro | rfl | exact kCat_q _) ?_
            refine k_iload B dL_isWhole_45 rfl ?_
            refine k_iload B dL_isWhole_47 rfl ?_
            refine k_if_le B 64 dL_isWhole_49 (by decide) (fun _ => ?_) (fun c9 => (c9 (by decide)).elim)
            refine k_iconst B (v := 0) dL_isWhole_64 (by decide) ?_
            refine k_iadd B dL_isWhole_65 ?_
            refine kK.rei (y := nI (suN (fun c => suN (fun y => frS (nI c) (nI y) (sR z (11 + i))) (sNow z)) c9 + suN (fun y => frS (nI c9) (nI y) (sR z (11 + i))) (y9 + 1))) ((Int32.add_zero _).trans (congrArg nI eS)) ?_
            refine k_istore B dL_isWhole_66 (by decide) ?_
            try refine kK.set1 (by first | exact True.intro | rfl | exact kCat_q _) ?_
            refine k_iload B dL_isWhole_68 rfl ?_
            refine k_iload B dL_isWhole_70 rfl ?_
            refine k_if_ge B 79 dL_isWhole_72 (by decide) (fun _ => ?_) (fun c9 => (c9 (by decide)).elim)
            refine k_iconst B (v := 0) dL_isWhole_79 (by decide) ?_
            refine k_iadd B dL_isWhole_80 ?_
            refine kK.rei (y := 0) (by decide) ?_
            refine k_istore B dL_isWhole_81 (by decide) ?_
            try refine kK.set1 (by first | exact True.intro | rfl | exact kCat_q _) ?_
            refine k_iincN (y := nI (y9 + 1)) B dL_isWhole_83 rfl (by decide) (nI_1 y9) ?_
            try refine kK.set1 (by first | exact True.intro | rfl | exact kCat_q _) ?_
            refine k_goto B 21 dL_isWhole_86 (by decide) ?_
            refine kK.sub (L2 := [some (.ref aO), some (.int (nI i)), some (.ref ac), some (.int (nI (suN (fun c => suN (fun y => frS (nI c) (nI y) (sR z (11 + i))) (sNow z)) c9 + suN (fun y => frS (nI c9) (nI y) (sR z (11 + i))) (y9 + 1)))), some (.int (nI (suN (fun c => suN (fun y => frS (nI c) (nI y) (sR z (11 + i))) (sNow z)) c9 + suN (fun y => frS (nI c9) (nI y) (sR z (11 + i))) (y9 + 1)))), some (.int 0), some (.int (nI c9)), some (.int (nI (y9 + 1))), none]) ⟨Or.inr rfl, Or.inr rfl, Or.inr rfl, Or.inr rfl, Or.inr rfl, Or.inr rfl, Or.inr rfl, Or.inr rfl, Or.inl rfl, trivial⟩ ?_
            exact kK.widen (by omega) (by omega) (ih2 (y9 + 1) F1 s1 (by omega) hc0 hc1 h1 f1)
      refine k_iload B dL_isWhole_11 rfl ?_
      refine k_bipush B (v := 10) dL_isWhole_13 (by decide) ?_
      refine k_icmp_ge B 95 dL_isWhole_15 (by decide) (fun c9 => absurd c9 (fun q => nI_ge hc10 (by decide) q)) (fun _ => ?_)
      refine k_iconst B (v := 0) dL_isWhole_18 (by decide) ?_
      refine k_istore B dL_isWhole_19 (by decide) ?_
      try refine kK.set1 (by first | exact True.intro | rfl | exact kCat_q _) ?_
      refine kK.sub (L2 := [some (.ref aO), some (.int (nI i)), some (.ref ac), some (.int (nI (suN (fun c => suN (fun y => frS (nI c) (nI y) (sR z (11 + i))) (sNow z)) c9 + suN (fun y => frS (nI c9) (nI y) (sR z (11 + i))) 0))), some (.int (nI (suN (fun c => suN (fun y => frS (nI c) (nI y) (sR z (11 + i))) (sNow z)) c9 + suN (fun y => frS (nI c9) (nI y) (sR z (11 + i))) 0))), some (.int 0), some (.int (nI c9)), some (.int (nI 0)), none]) ⟨Or.inr rfl, Or.inr rfl, Or.inr rfl, Or.inr rfl, Or.inr rfl, Or.inr rfl, Or.inr rfl, Or.inr ((by rw [nI_0])), Or.inl rfl, trivial⟩ ?_
      exact inner (sNow z) 0 F1 s1 (by omega) hc0 hc1 h1 f1
  refine k_iconst B (v := 0) dL_isWhole_0 (by decide) ?_
  refine k_istore_n B dL_isWhole_1 (by decide) ?_
  try refine kK.set1 (by first | exact True.intro | rfl | exact kCat_q _) ?_
  refine k_iconst B (v := 0) dL_isWhole_2 (by decide) ?_
  refine k_istore B dL_isWhole_3 (by decide) ?_
  try refine kK.set1 (by first | exact True.intro | rfl | exact kCat_q _) ?_
  refine k_iconst B (v := 0) dL_isWhole_5 (by decide) ?_
  refine k_istore B dL_isWhole_6 (by decide) ?_
  try refine kK.set1 (by first | exact True.intro | rfl | exact kCat_q _) ?_
  refine k_iconst B (v := 0) dL_isWhole_8 (by decide) ?_
  refine k_istore B dL_isWhole_9 (by decide) ?_
  try refine kK.set1 (by first | exact True.intro | rfl | exact kCat_q _) ?_
  refine kK.sub (L2 := [some (.ref aO), some (.int (nI i)), some (.ref ac), some (.int (nI (suN (fun c => suN (fun y => frS (nI c) (nI y) (sR z (11 + i))) (sNow z)) 0))), some (.int (nI (suN (fun c => suN (fun y => frS (nI c) (nI y) (sR z (11 + i))) (sNow z)) 0))), some (.int 0), some (.int (nI 0)), none, none]) ⟨Or.inr rfl, Or.inr rfl, Or.inr rfl, Or.inr ((congrArg (fun x => some (Value.int x)) nI_0)), Or.inr ((congrArg (fun x => some (Value.int x)) nI_0)), Or.inr rfl, Or.inr ((congrArg (fun x => some (Value.int x)) nI_0)), Or.inl rfl, Or.inl rfl, trivial⟩ ?_
  exact kK.widen (by omega) (by omega) (outer 10 0 F σ rfl (Nat.le_refl _) hcn h kFr.rf)
end Whole
