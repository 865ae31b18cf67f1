def kK0 (i : Nat) : kCl := (if i = 0 then none else some (i - 1), 5, 0, 0, 0, 0)
def st0 : kSt := ((0, 1, 0, 0, 0, 0, 0, 0, 0, 0), kK0, fun _ => [], (0, fun _ => (0, 0, 0)), (0, fun _ => (0, 0, 0, 0, 0, 0)))
def n9E (cA : Nat) : va_E := .inr (9, [.ref cA, .null, .null, .null, .null, .int 0, .int 0, .int 0, .int 0, .null, .int 0, .int 0, .int 0, .long 0, .long 0, .long 0, .long 0])
def b9E : va_E := .inr (9, [.null, .null, .null, .null, .null, .int 0, .int 0, .int 0, .int 0, .null, .int 0, .int 0, .int 0, .long 0, .long 0, .long 0, .long 0])
theorem cE_upN {cad ra : Nat → Nat} {i j q b : Nat} (hj : j < i) : cE (upN cad i q) (upN ra i b) j (kK0 j) = cE cad ra j (kK0 j) := by
  unfold cE
  rw [upN_ne (show j ≠ i by omega)]
  have : (kK0 j).1.map (upN cad i q) = (kK0 j).1.map cad := by
    unfold kK0
    by_cases h : j = 0
    · simp [h]
    · simp only [h, if_false, Option.map_some]
      rw [upN_ne (by omega)]
  rw [this]
def P9 (e : va_E) : Prop := kC e ≠ 9 ∧ kC e ≠ 1
def pre9 (D : va_G) (aO cA : Nat) (cad ra : Nat → Nat) (σ s : kS) : Prop := ar9 (D.1 15) 10 cA 10 cad s ∧ ce9 cad ra kK0 s ∧ rwI 10 ra (fun _ => []) s ∧ kOut (fun b => b = aO) σ s ∧ kFr (fun k => k = 9) σ s
theorem isAr_P9 {N : Nat} {e : va_E} (h : isAr N e) : P9 e := by
  obtain ⟨c1, M, f | f | f | f | f⟩ | f := e
  all_goals first | exact h.elim | exact ⟨show (15 : Nat) ≠ 9 by decide, show (15 : Nat) ≠ 1 by decide⟩
theorem P9_of {e : va_E} {k : Nat} (h : kC e = k) (h9 : k ≠ 9) (h1 : k ≠ 1) : P9 e := ⟨by rw [h]; exact h9, by rw [h]; exact h1⟩
theorem rP_P9 {e : va_E} (h : rP e) : P9 e := h.elim (fun q => P9_of q (by decide) (by decide)) (fun q => P9_of q (by decide) (by decide))
theorem pre9.keep {D : va_G} {aO cA : Nat} {cad ra : Nat → Nat} {σ s s2 : kS} (h : pre9 D aO cA cad ra σ s) (hk : kKp P9 s s2) (ho : kOut (fun b => b = aO) σ s2) (hf : kFr (fun k => k = 9) σ s2) : pre9 D aO cA cad ra σ s2 :=
  ⟨h.1.keep (hk.mono (fun _ q => isAr_P9 q)), h.2.1.keep (hk.mono (fun _ q => P9_of q (by decide) (by decide))), h.2.2.1.keep (hk.mono (fun _ q => rP_P9 q)), ho, hf⟩
theorem kKp.upO {s : kS} {a : Nat} {e0 e : va_E} (h : s a = some e0) (h9 : kC e0 = 9) : kKp P9 s (kUp s a e) := kKp.up h (fun q => q.1 h9)
theorem pre9.up {D : va_G} {aO cA : Nat} {cad ra : Nat → Nat} {σ s : kS} {e0 e : va_E} (h : pre9 D aO cA cad ra σ s) (h0 : s aO = some e0) (h9 : kC e0 = 9) : pre9 D aO cA cad ra σ (kUp s aO e) := h.keep (kKp.upO h0 h9) (h.2.2.2.1.tr (kOut.up rfl)) (h.2.2.2.2.tr (kFr.up h0 h9))
theorem pre9.new {D : va_G} {aO cA q : Nat} {cad ra : Nat → Nat} {σ s : kS} {e : va_E} (h : pre9 D aO cA cad ra σ s) (h0 : s q = none) : pre9 D aO cA cad ra σ (kUp s q e) := h.keep (kKp.new h0) (h.2.2.2.1.tr (kOut.new h0)) (h.2.2.2.2.tr (kFr.new h0))
section Ini9
variable {l : Launch} {D : va_G} {σ : kS} {aO : Nat}
set_option maxHeartbeats 8000000 in
set_option maxRecDepth 100000 in
theorem c_X9_init (hl : l.stackTraces = false) (ha : σ aO = some b9E) : kMh hX9_init l D yX9_init 3 36 223 [.ref aO] σ (fun v s2 => v = none ∧ cl9 D aO st0 [] kF0 s2 ∧ kOut (fun b => b = aO) σ s2 ∧ kFr (fun k => k = 9) σ s2) (fun _ => False) := by
  refine kM_of (L := [some (.ref aO), none, none]) (by decide +kernel) hl (List.forall_mem_cons.mpr ⟨rfl, (fun _ h => absurd h List.not_mem_nil)⟩) (Nat.le_of_ble_eq_true rfl) rfl ?_
  intro p e s m args below meth c B hr hex hnm
  have B : kB p l s m args meth c D (kA σ s.heap.size) 3 cX9_init RX9 := B
  have hini : meth.name = "<init>" := hnm
  refine k_aload_n B dX9_init_0 rfl (by first | exact kRf_r _ | exact kRf_q _ | exact kRf_n) ?_
  refine ob_X9_1 B dX9_init_1 (by first | exact Nat.le_of_ble_eq_true rfl | omega | (simp only [kR, Value.category, kCat_q, List.map, List.sum_cons, List.sum_nil]; omega)) (by first | exact Nat.le_of_ble_eq_true rfl | omega | (simp only [kR, Value.category, kCat_q, List.map, List.sum_cons, List.sum_nil]; omega)) ?_
  refine k_aload_n B dX9_init_4 rfl (by first | exact kRf_r _ | exact kRf_q _ | exact kRf_n) ?_
  refine k_bipush B (v := 10) dX9_init_5 (by decide) ?_
  refine k_newq B (ti := 4) (C := RX0) rfl qw50 aoT0 dX9_init_7 (N := 10) (by decide) (by decide) (by decide) (by decide) (by decide) (fun cA hcA => ?_)
  have hac : aO ≠ cA := kNeN ha hcA
  refine pf_X9_11 B hini dX9_init_10 (kUp_o hac ha) rfl (by first | exact kRf_r _ | exact kRf_q _ | exact kRf_n) ?_
  generalize hs1 : kUp (kUp σ cA (.inl (D.1 15, 10, .inr (.inr (.inr (.inr fun _ => none)))))) aO _ = s1
  have g1 : s1 aO = some (n9E cA) := by rw [← hs1]; exact kUp_eq
  have g2 : s1 cA = some (.inl (D.1 15, 10, .inr (.inr (.inr (.inr fun _ => none))))) := by rw [← hs1]; exact kUp_o (Ne.symm hac) kUp_eq
  have g3 : kOut (fun b => b = aO) σ s1 := by rw [← hs1]; exact (kOut.new hcA).tr (kOut.up rfl)
  have g4 : kFr (fun k => k = 9) σ s1 := by rw [← hs1]; exact (kFr.new hcA).tr (kFr.up (kUp_o hac ha) rfl)
  have fin : ∀ (cad ra : Nat → Nat) (s1 : kS), s1 aO = some (n9E cA) → pre9 D aO cA cad ra σ s1 → ∀ v9 : Value,
      kK p l e (kR 3 36 223) s m args below meth c D (kA σ s.heap.size) 3 (kQ below args s D σ (fun v s2 => v = none ∧ cl9 D aO st0 [] kF0 s2 ∧ kOut (fun b => b = aO) σ s2 ∧ kFr (fun k => k = 9) σ s2) (fun _ => False) 36 223) s1 21 120 46 [some (.ref aO), some v9, some (.int (nI 10))] [] := by
    intro cad ra s1 h1 h2 v9
    obtain ⟨ft, hft, hft2⟩ := h2.1
    refine k_aload_n B dX9_init_46 rfl (by first | exact kRf_r _ | exact kRf_q _ | exact kRf_n) ?_
    refine k_aload_n B dX9_init_47 rfl (by first | exact kRf_r _ | exact kRf_q _ | exact kRf_n) ?_
    refine gf_X9_11 B dX9_init_48 h1 rfl ?_
    refine k_iconst B (v := 0) dX9_init_51 (by decide) ?_
    refine kK.rei (y := nI 0) nI_0.symm ?_
    refine k_aald B (ti := 4) (C := RX0) rfl dX9_init_52 hft (vp_in_nI (by decide) (by decide)) ?_
    refine kK.rev (y := .ref (cad 0)) (by rw [nI_clamp (by decide), hft2 0 (by decide)]; rfl) ?_
    refine pf_X9_18 B dX9_init_53 h1 rfl (by first | exact kRf_r _ | exact kRf_q _ | exact kRf_n) ?_
    refine k_aload_n B dX9_init_56 rfl (by first | exact kRf_r _ | exact kRf_q _ | exact kRf_n) ?_
    refine k_bipush B (v := 6) dX9_init_57 (by decide) ?_
    refine k_newq B (ti := 5) (C := RX8) rfl qw108 aoT8 dX9_init_59 (N := 6) (by decide) (by decide) (by decide) (by decide) (by decide) (fun wA hwA => ?_)
    have n1 : aO ≠ wA := kNeN kUp_eq hwA
    refine pf_X9_24 B hini dX9_init_62 (kUp_o n1 kUp_eq) rfl (by first | exact kRf_r _ | exact kRf_q _ | exact kRf_n) ?_
    generalize hs2 : kUp (kUp (kUp s1 aO _) wA _) aO _ = s2
    have a2 : s2 aO = some (.inr (9, [.ref cA, .ref wA, .null, .null, .null, .int 0, .int 0, .int 0, .int 0, .ref (cad 0), .int 0, .int 0, .int 0, .long 0, .long 0, .long 0, .long 0])) := by rw [← hs2]; exact kUp_eq
    have w2 : ar9 (D.1 16) 6 wA 0 id s2 := ⟨_, by rw [← hs2]; exact kUp_o (Ne.symm n1) kUp_eq, fun i hi => absurd hi (by omega)⟩
    have p2 : pre9 D aO cA cad ra σ s2 := by rw [← hs2]; exact ((h2.up h1 rfl).new hwA).up (kUp_o n1 kUp_eq) rfl
    refine k_aload_n B dX9_init_65 rfl (by first | exact kRf_r _ | exact kRf_q _ | exact kRf_n) ?_
    refine k_bipush B (v := 40) dX9_init_66 (by decide) ?_
    refine k_newq B (ti := 6) (C := RX2) rfl qw110 aoT2 dX9_init_68 (N := 40) (by decide) (by decide) (by decide) (by decide) (by decide) (fun lA hlA => ?_)
    have n2 : aO ≠ lA := kNeN a2 hlA
    refine pf_X9_30 B hini dX9_init_71 (kUp_o n2 a2) rfl (by first | exact kRf_r _ | exact kRf_q _ | exact kRf_n) ?_
    generalize hs3 : kUp (kUp s2 lA _) aO _ = s3
    have a3 : s3 aO = some (.inr (9, [.ref cA, .ref wA, .ref lA, .null, .null, .int 0, .int 0, .int 0, .int 0, .ref (cad 0), .int 0, .int 0, .int 0, .long 0, .long 0, .long 0, .long 0])) := by rw [← hs3]; exact kUp_eq
    have l3 : ar9 (D.1 17) 40 lA 0 id s3 := ⟨_, by rw [← hs3]; exact kUp_o (Ne.symm n2) kUp_eq, fun i hi => absurd hi (by omega)⟩
    have k3 : kKp P9 s2 s3 := by rw [← hs3]; exact (kKp.new hlA).tr (kKp.upO (kUp_o n2 a2) rfl)
    have p3 : pre9 D aO cA cad ra σ s3 := by rw [← hs3]; exact (p2.new hlA).up (kUp_o n2 a2) rfl
    have w3 := w2.keep (k3.mono (fun _ q => isAr_P9 q))
    refine k_aload_n B dX9_init_74 rfl (by first | exact kRf_r _ | exact kRf_q _ | exact kRf_n) ?_
    refine nw_X9_34 B dX9_init_75 (by first | exact Nat.le_of_ble_eq_true rfl | omega | (simp only [kR, Value.category, kCat_q, List.map, List.sum_cons, List.sum_nil]; omega)) (by first | exact Nat.le_of_ble_eq_true rfl | omega | (simp only [kR, Value.category, kCat_q, List.map, List.sum_cons, List.sum_nil]; omega)) (fun q75 hq75 => ?_)
    refine k_dup B dX9_init_78 rfl ?_
    have n3 : aO ≠ q75 := kNeN a3 hq75
    refine cl_X9_36 B (c_X6_init hl) dX9_init_79 (by first | exact Nat.le_of_ble_eq_true rfl | omega | (simp only [kR, Value.category, kCat_q, List.map, List.sum_cons, List.sum_nil]; omega)) (by first | exact Nat.le_of_ble_eq_true rfl | omega | (simp only [kR, Value.category, kCat_q, List.map, List.sum_cons, List.sum_nil]; omega)) (by first | exact Nat.le_of_ble_eq_true rfl | omega | (simp only [kR, Value.category, kCat_q, List.map, List.sum_cons, List.sum_nil]; omega)) (by first | exact Nat.le_of_ble_eq_true rfl | omega | (simp only [kR, Value.category, kCat_q, List.map, List.sum_cons, List.sum_nil]; omega)) (by first | exact Nat.le_of_ble_eq_true rfl | omega | (simp only [kR, Value.category, kCat_q, List.map, List.sum_cons, List.sum_nil]; omega)) (fun _ hx => hx.elim) (fun v79 s79 hp79 => ?_)
    obtain ⟨rfl, e79⟩ := hp79
    rw [e79]
    refine pf_X9_37 B hini dX9_init_82 (kUp_o n3 a3) rfl (by first | exact kRf_r _ | exact kRf_q _ | exact kRf_n) ?_
    generalize hs4 : kUp (kUp s3 q75 _) aO _ = s4
    have a4 : s4 aO = some (.inr (9, [.ref cA, .ref wA, .ref lA, .ref q75, .null, .int 0, .int 0, .int 0, .int 0, .ref (cad 0), .int 0, .int 0, .int 0, .long 0, .long 0, .long 0, .long 0])) := by rw [← hs4]; exact kUp_eq
    have r4 : s4 q75 = some (rowE 0 none none) := by rw [← hs4]; exact kUp_o (Ne.symm n3) kUp_eq
    have k4 : kKp P9 s3 s4 := by rw [← hs4]; exact (kKp.new hq75).tr (kKp.upO (kUp_o n3 a3) rfl)
    have p4 : pre9 D aO cA cad ra σ s4 := by rw [← hs4]; exact (p3.new hq75).up (kUp_o n3 a3) rfl
    have x4 := p4.2.2.1
    have w4 := w3.keep (k4.mono (fun _ q => isAr_P9 q))
    have l4 := l3.keep (k4.mono (fun _ q => isAr_P9 q))
    have y4 : rwI 11 (upN ra 10 q75) (upN (fun _ => []) 10 []) s4 := (p3.2.2.1).snoc (k4.mono (fun _ q => rP_P9 q)) hq75 r4 trivial List.nodup_nil (fun _ h => by cases h)
    refine k_aload_n B dX9_init_85 rfl (by first | exact kRf_r _ | exact kRf_q _ | exact kRf_n) ?_
    refine nw_X9_41 B dX9_init_86 (by first | exact Nat.le_of_ble_eq_true rfl | omega | (simp only [kR, Value.category, kCat_q, List.map, List.sum_cons, List.sum_nil]; omega)) (by first | exact Nat.le_of_ble_eq_true rfl | omega | (simp only [kR, Value.category, kCat_q, List.map, List.sum_cons, List.sum_nil]; omega)) (fun q86 hq86 => ?_)
    refine k_dup B dX9_init_89 rfl ?_
    have n4 : aO ≠ q86 := kNeN a4 hq86
    refine cl_X9_43 B (c_X1_init hl kUp_eq) dX9_init_90 (by first | exact Nat.le_of_ble_eq_true rfl | omega | (simp only [kR, Value.category, kCat_q, List.map, List.sum_cons, List.sum_nil]; omega)) (by first | exact Nat.le_of_ble_eq_true rfl | omega | (simp only [kR, Value.category, kCat_q, List.map, List.sum_cons, List.sum_nil]; omega)) (by first | exact Nat.le_of_ble_eq_true rfl | omega | (simp only [kR, Value.category, kCat_q, List.map, List.sum_cons, List.sum_nil]; omega)) (by first | exact Nat.le_of_ble_eq_true rfl | omega | (simp only [kR, Value.category, kCat_q, List.map, List.sum_cons, List.sum_nil]; omega)) (by first | exact Nat.le_of_ble_eq_true rfl | omega | (simp only [kR, Value.category, kCat_q, List.map, List.sum_cons, List.sum_nil]; omega)) (fun _ hx => hx.elim) (fun v90 s90 hp90 => ?_)
    obtain ⟨rfl, ⟨tk, tad, j5⟩, o5, f5⟩ := hp90
    have a5 := o5 _ _ (kUp_o n4 a4) n4
    refine pf_X9_44 B hini dX9_init_93 a5 rfl (by first | exact kRf_r _ | exact kRf_q _ | exact kRf_n) ?_
    refine k_aload_n B dX9_init_96 rfl (by first | exact kRf_r _ | exact kRf_q _ | exact kRf_n) ?_
    refine k_iconst B (v := 1) dX9_init_97 (by decide) ?_
    refine pf_X9_48 B dX9_init_98 kUp_eq rfl ?_
    generalize hs6 : kUp (kUp s90 aO _) aO _ = s6
    have a6 : s6 aO = some (o9E cA wA lA q75 q86 (cad 0) st0) := by rw [← hs6]; exact kUp_eq
    have k6 : kKp P9 s4 s6 := by rw [← hs6]; exact (kKp.new hq86).tr ((f5.kp (fun e he => he.2)).tr ((kKp.upO a5 rfl).tr (kKp.upO kUp_eq rfl)))
    have j6 : jo9 D q86 [] kF0 s6 := by
      have : jo9 D q86 [] kF0 s90 := ⟨tk, tad, [], j5, trivial, List.nodup_nil, rfl⟩
      rw [← hs6]
      have hj : ∀ e : va_E, kC e = 9 → ¬ jP e := by
        intro e h q
        obtain ⟨c1, M, f | f | f | f | f⟩ | f := e
        all_goals first | (cases h; done) | skip
        rcases q with q | q | q | q | q
        all_goals first | exact q.elim | (rw [h] at q; cases q)
      exact this.keep ((kKp.up a5 (hj _ rfl)).tr (kKp.up kUp_eq (hj _ rfl)))
    have o6 : kOut (fun b => b = aO) σ s6 := by
      rw [← hs6]
      exact fun b y hb hx => kUp_o hx (kUp_o hx (o5 _ _ (kUp_o (kNeN (p4.2.2.2.1 b y hb hx) hq86) (p4.2.2.2.1 b y hb hx)) (kNeN (p4.2.2.2.1 b y hb hx) hq86)))
    have f6 : kFr (fun k => k = 9) σ s6 := fun b y hb hx => o6 b y hb (fun h => by
      subst h
      rw [ha] at hb
      cases hb
      exact hx rfl)
    refine k_vret B hr dX9_init_101 ?_ (by first | exact Nat.le_of_ble_eq_true rfl | omega | (simp only [kR, Value.category, kCat_q, List.map, List.sum_cons, List.sum_nil]; omega)) (by first | exact Nat.le_of_ble_eq_true rfl | omega | (simp only [kR, Value.category, kCat_q, List.map, List.sum_cons, List.sum_nil]; omega))
    refine ⟨rfl, ⟨cA, wA, lA, q86, cad, upN ra 10 q75, id, id, upN (fun _ => []) 10 [], a6, p4.1.keep (k6.mono (fun _ q => isAr_P9 q)), w4.keep (k6.mono (fun _ q => isAr_P9 q)), l4.keep (k6.mono (fun _ q => isAr_P9 q)), fun i hi => ?_, ⟨fun i hi => absurd hi (Nat.not_lt_zero i), fun i _ hi => absurd hi (Nat.not_lt_zero i)⟩, ⟨fun i hi => absurd hi (Nat.not_lt_zero i), fun i _ hi => absurd hi (Nat.not_lt_zero i)⟩, y4.keep (k6.mono (fun _ q => rP_P9 q)), fun i hi => ?_, j6⟩, o6, f6⟩
    · have := k6 _ _ (p4.2.1 i hi) (P9_of (k := 0) rfl (by decide) (by decide))
      rw [this]
      unfold cE
      rw [upN_ne (show i ≠ 10 by omega)]
      rfl
    · by_cases q : i = 10
      · subst q; rw [upN_eq]; rfl
      · rw [upN_ne q]; rfl
  have loop : ∀ (n i : Nat) (ft : Nat → Option Nat) (cad ra : Nat → Nat) (s1 : kS), i + n = 10 → s1 aO = some (n9E cA) → s1 cA = some (.inl (D.1 15, 10, .inr (.inr (.inr (.inr ft))))) → (∀ j, j < i → ft j = some (cad j)) → (∀ j, j < i → s1 (cad j) = some (cE cad ra j (kK0 j))) → rwI i ra (fun _ => []) s1 → kOut (fun b => b = aO) σ s1 → kFr (fun k => k = 9) σ s1 →
      kK p l e (kR 3 36 223) s m args below meth c D (kA σ s.heap.size) 3 (kQ below args s D σ (fun v s2 => v = none ∧ cl9 D aO st0 [] kF0 s2 ∧ kOut (fun b => b = aO) σ s2 ∧ kFr (fun k => k = 9) σ s2) (fun _ => False) 36 223) s1 (1 + 2 * i) (10 + 11 * i) 17 [some (.ref aO), some (va_rf (if i = 0 then none else some (cad (i - 1)))), some (.int (nI i))] [] := by
    intro n
    induction n with
    | zero =>
      intro i ft cad ra s1 hi h1 h2 h3 h4 h5 h6 h7
      have hi10 : i = 10 := by omega
      subst hi10
      refine k_iload_n B dX9_init_17 rfl ?_
      refine k_bipush B (v := 10) dX9_init_18 (by decide) ?_
      refine k_icmp_ge B 46 dX9_init_20 (by decide) (fun c20 => ?_) (fun c20 => ?_)
      · exact fin cad ra s1 h1 ⟨⟨ft, h2, h3⟩, h4, h5, h6, h7⟩ _
      · exact absurd (Int32.le_refl _) c20
    | succ n ih =>
      intro i ft cad ra s1 hi h1 h2 h3 h4 h5 h6 h7
      have hi10 : i < 10 := by omega
      refine k_iload_n B dX9_init_17 rfl ?_
      refine k_bipush B (v := 10) dX9_init_18 (by decide) ?_
      refine k_icmp_ge B 46 dX9_init_20 (by decide) (fun c20 => ?_) (fun c20 => ?_)
      · exact absurd (show nI 10 ≤ nI i from c20) (nI_ge hi10 (by omega))
      · refine nw_X9_9 B dX9_init_23 (by first | exact Nat.le_of_ble_eq_true rfl | omega | (simp only [kR, Value.category, kCat_q, List.map, List.sum_cons, List.sum_nil]; omega)) (by first | exact Nat.le_of_ble_eq_true rfl | omega | (simp only [kR, Value.category, kCat_q, List.map, List.sum_cons, List.sum_nil]; omega)) (fun q23 hq23 => ?_)
        refine k_dup B dX9_init_26 rfl ?_
        refine k_iload_n B dX9_init_27 rfl ?_
        refine k_aload_n B dX9_init_28 rfl (by first | exact kRf_r _ | exact kRf_q _ | exact kRf_n) ?_
        refine cl_X9_15 B (c_X0_init hl (i := i) (r := if i = 0 then none else some (cad (i - 1))) kUp_eq) dX9_init_29 (by first | exact Nat.le_of_ble_eq_true rfl | omega | (simp only [kR, Value.category, kCat_q, List.map, List.sum_cons, List.sum_nil]; omega)) (by first | exact Nat.le_of_ble_eq_true rfl | omega | (simp only [kR, Value.category, kCat_q, List.map, List.sum_cons, List.sum_nil]; omega)) (by first | exact Nat.le_of_ble_eq_true rfl | omega | (simp only [kR, Value.category, kCat_q, List.map, List.sum_cons, List.sum_nil]; omega)) (by first | exact Nat.le_of_ble_eq_true rfl | omega | (simp only [kR, Value.category, kCat_q, List.map, List.sum_cons, List.sum_nil]; omega)) (by first | exact Nat.le_of_ble_eq_true rfl | omega | (simp only [kR, Value.category, kCat_q, List.map, List.sum_cons, List.sum_nil]; omega)) (fun _ hx => hx.elim) (fun v29 s29 hp29 => ?_)
        obtain ⟨b, rfl, hb, e29⟩ := hp29
        have hbq : b ≠ q23 := Ne.symm (kNeN kUp_eq hb)
        have kk : ∀ a e, s1 a = some e → s29 a = some e := fun a e h => by rw [e29]; exact kUp_o (kNeN h hq23) (kUp_o (kNeN (kUp_o (kNeN h hq23) h) hb) (kUp_o (kNeN h hq23) h))
        have hcell : s29 q23 = some (cE (upN cad i q23) (upN ra i b) i (kK0 i)) := by
          rw [e29, kUp_eq]
          unfold cE
          rw [upN_eq]
          have : (kK0 i).1.map (upN cad i q23) = if i = 0 then none else some (cad (i - 1)) := by
            unfold kK0
            by_cases h : i = 0
            · simp [h]
            · simp only [h, if_false, Option.map_some]
              rw [upN_ne (by omega)]
          rw [this]
          rfl
        have hrow : s29 b = some (rowE 0 none none) := by rw [e29]; exact kUp_o hbq kUp_eq
        have hb1 : s1 b = none := by
          have := hb
          rwa [kUp_ne hbq] at this
        refine k_astore_n B dX9_init_32 (by decide) (by first | exact kRf_r _ | exact kRf_q _ | exact kRf_n) ?_
        try refine kK.set1 (by first | exact True.intro | rfl | exact kCat_q _) ?_
        refine k_aload_n B dX9_init_33 rfl (by first | exact kRf_r _ | exact kRf_q _ | exact kRf_n) ?_
        refine gf_X9_11 B dX9_init_34 (kk _ _ h1) rfl ?_
        refine k_iload_n B dX9_init_37 rfl ?_
        refine k_aload_n B dX9_init_38 rfl (by first | exact kRf_r _ | exact kRf_q _ | exact kRf_n) ?_
        refine k_aast B (ti := 4) (C := RX0) rfl (ci := 0) rfl dX9_init_39 (kk _ _ h2) hcell (vp_in_nI hi10 (by omega)) ?_
        refine k_iinc1 B dX9_init_40 rfl (by decide) ?_
        try refine kK.set1 (by first | exact True.intro | rfl | exact kCat_q _) ?_
        refine k_goto B 17 dX9_init_43 (by decide) ?_
        refine kK.sub (L2 := [some (.ref aO), some (va_rf (if i + 1 = 0 then none else some (upN cad i q23 (i + 1 - 1)))), some (.int (nI (i + 1)))]) ⟨Or.inr rfl, Or.inr (by rw [if_neg (by omega), Nat.add_sub_cancel, upN_eq]; rfl), Or.inr (by rw [← nI_1]), trivial⟩ ?_
        refine kK.widen (k2 := 1 + 2 * (i + 1)) (n2 := 10 + 11 * (i + 1)) (by omega) (by omega) ?_
        have kk2 : ∀ (a : Nat) (e : va_E), s1 a = some e → ¬ isAr 10 e → kUp s29 cA (.inl (D.1 15, 10, .inr (.inr (.inr (.inr (va_up ft (nI i).toNatClampNeg (some q23))))))) a = some e := fun a e h hn => kUp_o (fun q => by subst q; rw [h2] at h; cases h; exact hn rfl) (kk a e h)
        have hqc : q23 ≠ cA := kNeL hcell (kk _ _ h2)
        have hbc : b ≠ cA := kNeL hrow (kk _ _ h2)
        refine ih (i + 1) _ (upN cad i q23) (upN ra i b) _ (by omega) (kk2 _ _ h1 (fun q => q)) kUp_eq (fun j hj => ?_) (fun j hj => ?_) ?_ ?_ ?_
        · rw [nI_clamp (by omega), va_up]
          by_cases q : j = i
          · subst q; rw [upN_eq, if_pos rfl]
          · rw [upN_ne q, if_neg q]; exact h3 j (by omega)
        · by_cases q : j = i
          · subst q; rw [upN_eq]; exact kUp_o hqc hcell
          · rw [upN_ne q, cE_upN (by omega)]; exact kk2 _ _ (h4 j (by omega)) (fun q => q)
        · have := h5.snoc (s2 := kUp s29 cA (.inl (D.1 15, 10, .inr (.inr (.inr (.inr (va_up ft (nI i).toNatClampNeg (some q23)))))))) (r := b) (P2 := []) (fun a e h hp => kk2 a e h (fun q => by
            rcases hp with h | h
            · obtain ⟨c1, M, f | f | f | f | f⟩ | f := e
              all_goals first | exact q.elim | cases h
            · obtain ⟨c1, M, f | f | f | f | f⟩ | f := e
              all_goals first | exact q.elim | cases h)) hb1 (kUp_o hbc hrow) trivial List.nodup_nil (fun _ h => by cases h)
          have e1 : upN (fun _ => ([] : kPs)) i [] = fun _ => [] := upN_self (f := fun _ => ([] : kPs))
          rw [e1] at this
          exact this
        · exact fun x y hb hx => kUp_o (fun h => by subst h; rw [hcA] at hb; cases hb) (kk _ _ (h6 x y hb hx))
        · exact fun x y hb hx => kUp_o (fun h => by subst h; rw [hcA] at hb; cases hb) (kk _ _ (h7 x y hb hx))
  refine k_null B dX9_init_13 ?_
  refine k_astore_n B dX9_init_14 (by decide) (by first | exact kRf_r _ | exact kRf_q _ | exact kRf_n) ?_
  try refine kK.set1 (by first | exact True.intro | rfl | exact kCat_q _) ?_
  refine k_iconst B (v := 0) dX9_init_15 (by decide) ?_
  refine k_istore_n B dX9_init_16 (by decide) ?_
  try refine kK.set1 (by first | exact True.intro | rfl | exact kCat_q _) ?_
  have go := loop 10 0 _ (fun _ => 0) (fun _ => 0) s1 rfl g1 g2 (fun j h => absurd h (Nat.not_lt_zero j)) (fun j h => absurd h (Nat.not_lt_zero j)) ⟨fun j h => absurd h (Nat.not_lt_zero j), fun j h => absurd h (Nat.not_lt_zero j), fun j h => absurd h (Nat.not_lt_zero j), fun j _ h => absurd h (Nat.not_lt_zero j), fun j _ h => absurd h (Nat.not_lt_zero j)⟩ g3 g4
  rw [nI_0] at go
  exact go
end Ini9
