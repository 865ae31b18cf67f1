def kF0 : kF := (fun _ => 0, fun _ => 0, fun _ => [], 0)
section JInit
variable {l : Launch} {D : va_G} {σ : kS} {aJ : Nat}
set_option maxHeartbeats 4000000 in
set_option maxRecDepth 100000 in
theorem c_X1_init (hl : l.stackTraces = false) (ha : σ aJ = some (.inr (1, [.null, .null, .null, .null]))) : kMh hX1_init l D yX1_init 2 11 50 [.ref aJ] σ (fun v s2 => v = none ∧ (∃ (tk : Nat) (tad : Nat → Nat), tkF D aJ tk tad none none kF0 s2) ∧ kOut (fun b => b = aJ) σ s2 ∧ kFr (fun k => k = 1) σ s2) (fun _ => False) := by
  refine kM_of (L := [some (.ref aJ), none]) (by decide +kernel) hl (List.forall_mem_cons.mpr ⟨rfl, (fun _ h => absurd h List.not_mem_nil)⟩) (Nat.le_of_ble_eq_true rfl) rfl ?_
  intro p e s m args below meth c B hr hex hnm
  have B : kB p l s m args meth c D (kA σ s.heap.size) 2 cX1_init RX1 := B
  have hini : meth.name = "<init>" := hnm
  refine k_aload_n B dX1_init_0 rfl (by first | exact kRf_r _ | exact kRf_q _ | exact kRf_n) ?_
  refine ob_X1_3 B dX1_init_1 (by first | exact Nat.le_of_ble_eq_true rfl | omega | (simp only [kR, Value.category, kCat_q, List.map, List.sum_cons, List.sum_nil]; omega)) (by first | exact Nat.le_of_ble_eq_true rfl | omega | (simp only [kR, Value.category, kCat_q, List.map, List.sum_cons, List.sum_nil]; omega)) ?_
  refine k_aload_n B dX1_init_4 rfl (by first | exact kRf_r _ | exact kRf_q _ | exact kRf_n) ?_
  refine k_bipush B (v := 10) dX1_init_5 (by decide) ?_
  refine k_newq B (ti := 7) (C := RX7) rfl qw120 aoT7 dX1_init_7 (N := 10) (by decide) (by decide) (by decide) (by decide) (by decide) (fun tk htk => ?_)
  have hat : aJ ≠ tk := kNeN ha htk
  refine pf_X1_11 B hini dX1_init_10 (kUp_o hat ha) rfl (by first | exact kRf_r _ | exact kRf_q _ | exact kRf_n) ?_
  generalize hs1 : kUp (kUp σ tk (.inl (D.1 18, 10, .inr (.inr (.inr (.inr fun _ => none)))))) aJ _ = s1
  have g1 : s1 aJ = some (jE tk none none none) := by rw [← hs1]; exact kUp_eq
  have g2 : s1 tk = some (.inl (D.1 18, 10, .inr (.inr (.inr (.inr fun _ => none))))) := by rw [← hs1]; exact kUp_o (Ne.symm hat) kUp_eq
  have g3 : kOut (fun b => b = aJ) σ s1 := by rw [← hs1]; exact (kOut.new htk).tr (kOut.up rfl)
  have g4 : kFr (fun k => k = 1) σ s1 := by rw [← hs1]; exact (kFr.new htk).tr (kFr.up (kUp_o hat ha) rfl)
  have loop : ∀ (n i : Nat) (ft : Nat → Option Nat) (tad : Nat → Nat) (s1 : kS), i + n = 10 → s1 aJ = some (jE tk none none none) → s1 tk = some (.inl (D.1 18, 10, .inr (.inr (.inr (.inr ft))))) → (∀ j, j < i → ft j = some (tad j)) → (∀ j, j < i → s1 (tad j) = some (tE 0 0 none none)) → (∀ j1 j2, j1 < i → j2 < i → tad j1 = tad j2 → j1 = j2) → kOut (fun b => b = aJ) σ s1 → kFr (fun k => k = 1) σ s1 →
      kK p l e (kR 2 11 50) s m args below meth c D (kA σ s.heap.size) 2 (kQ below args s D σ (fun v s2 => v = none ∧ (∃ (tk : Nat) (tad : Nat → Nat), tkF D aJ tk tad none none kF0 s2) ∧ kOut (fun b => b = aJ) σ s2 ∧ kFr (fun k => k = 1) σ s2) (fun _ => False) 11 50) s1 (1 + i) (10 + 4 * i) 15 [some (.ref aJ), some (.int (nI i))] [] := by
    intro n
    induction n with
    | zero =>
      intro i ft tad s1 hi h1 h2 h3 h4 h5 h6 h7
      have hi10 : i = 10 := by omega
      subst hi10
      refine k_iload_n B dX1_init_15 rfl ?_
      refine k_bipush B (v := 10) dX1_init_16 (by decide) ?_
      refine k_icmp_ge B 40 dX1_init_18 (by decide) (fun c18 => ?_) (fun c18 => ?_)
      · refine k_vret B hr dX1_init_40 ?_ (by first | exact Nat.le_of_ble_eq_true rfl | omega | (simp only [kR, Value.category, kCat_q, List.map, List.sum_cons, List.sum_nil]; omega)) (by first | exact Nat.le_of_ble_eq_true rfl | omega | (simp only [kR, Value.category, kCat_q, List.map, List.sum_cons, List.sum_nil]; omega))
        exact ⟨rfl, ⟨tk, tad, fun _ => [], [], ⟨h1, ⟨ft, h2, h3⟩, h4, fun _ _ => trivial, trivial, fun _ _ => List.nodup_nil, List.nodup_nil, fun _ _ _ _ _ _ h => (by cases h), fun _ _ _ h => (by cases h), h5⟩, fun _ _ => rfl, rfl⟩, h6, h7⟩
      · exact absurd (Int32.le_refl _) c18
    | succ n ih =>
      intro i ft tad s1 hi h1 h2 h3 h4 h5 h6 h7
      have hi10 : i < 10 := by omega
      refine k_iload_n B dX1_init_15 rfl ?_
      refine k_bipush B (v := 10) dX1_init_16 (by decide) ?_
      refine k_icmp_ge B 40 dX1_init_18 (by decide) (fun c18 => ?_) (fun c18 => ?_)
      · exact absurd (show nI 10 ≤ nI i from c18) (nI_ge hi10 (by omega))
      · refine k_aload_n B dX1_init_21 rfl (by first | exact kRf_r _ | exact kRf_q _ | exact kRf_n) ?_
        refine gf_X1_11 B dX1_init_22 h1 rfl ?_
        refine k_iload_n B dX1_init_25 rfl ?_
        refine nw_X1_9 B dX1_init_26 (by first | exact Nat.le_of_ble_eq_true rfl | omega | (simp only [kR, Value.category, kCat_q, List.map, List.sum_cons, List.sum_nil]; omega)) (by first | exact Nat.le_of_ble_eq_true rfl | omega | (simp only [kR, Value.category, kCat_q, List.map, List.sum_cons, List.sum_nil]; omega)) (fun q26 hq26 => ?_)
        refine k_dup B dX1_init_29 rfl ?_
        refine cl_X1_17 B (c_X7_init hl) dX1_init_30 (by first | exact Nat.le_of_ble_eq_true rfl | omega | (simp only [kR, Value.category, kCat_q, List.map, List.sum_cons, List.sum_nil]; omega)) (by first | exact Nat.le_of_ble_eq_true rfl | omega | (simp only [kR, Value.category, kCat_q, List.map, List.sum_cons, List.sum_nil]; omega)) (by first | exact Nat.le_of_ble_eq_true rfl | omega | (simp only [kR, Value.category, kCat_q, List.map, List.sum_cons, List.sum_nil]; omega)) (by first | exact Nat.le_of_ble_eq_true rfl | omega | (simp only [kR, Value.category, kCat_q, List.map, List.sum_cons, List.sum_nil]; omega)) (by first | exact Nat.le_of_ble_eq_true rfl | omega | (simp only [kR, Value.category, kCat_q, List.map, List.sum_cons, List.sum_nil]; omega)) (fun _ hx => hx.elim) (fun v30 s30 hp30 => ?_)
        obtain ⟨rfl, e30⟩ := hp30
        rw [e30]
        have n1 : aJ ≠ q26 := kNeN h1 hq26
        have n2 : tk ≠ q26 := kNeN h2 hq26
        refine k_aast B (ti := 7) (C := RX7) rfl (ci := 7) rfl dX1_init_33 (kUp_o n2 h2) kUp_eq (vp_in_nI hi10 (by omega)) ?_
        refine k_iinc1 B dX1_init_34 rfl (by decide) ?_
        try refine kK.set1 (by first | exact True.intro | rfl | exact kCat_q _) ?_
        refine k_goto B 15 dX1_init_37 (by decide) ?_
        rw [show nI i + 1 = nI (i + 1) by rw [← nI_1]]
        refine kK.widen (k2 := 1 + (i + 1)) (n2 := 10 + 4 * (i + 1)) (by omega) (by omega) ?_
        have hd : ∀ j, j < i → tad j ≠ q26 := fun j hj => kNeN (h4 j hj) hq26
        refine ih (i + 1) _ (upN tad i q26) _ (by omega) (kUp_o (kNeL h1 h2) (kUp_o n1 h1)) kUp_eq (fun j hj => ?_) (fun j hj => ?_) (fun j1 j2 hj1 hj2 hj => ?_) ?_ ?_
        · rw [nI_clamp (by omega), va_up]
          by_cases q : j = i
          · subst q; rw [upN_eq, if_pos rfl]
          · rw [upN_ne q, if_neg q]; exact h3 j (by omega)
        · by_cases q : j = i
          · subst q; rw [upN_eq]; exact kUp_o (Ne.symm n2) kUp_eq
          · rw [upN_ne q]
            exact kUp_o (kNeL (h4 j (by omega)) h2) (kUp_o (hd j (by omega)) (h4 j (by omega)))
        · by_cases q : j1 = i
          · by_cases q2 : j2 = i
            · rw [q, q2]
            · subst q; rw [upN_eq, upN_ne q2] at hj; exact absurd hj.symm (hd j2 (by omega))
          · by_cases q2 : j2 = i
            · subst q2; rw [upN_eq, upN_ne q] at hj; exact absurd hj (hd j1 (by omega))
            · rw [upN_ne q, upN_ne q2] at hj; exact h5 j1 j2 (by omega) (by omega) hj
        · exact fun b y hb hx => kUp_o (fun h => by subst h; rw [htk] at hb; cases hb) (kUp_o (kNeN (h6 b y hb hx) hq26) (h6 b y hb hx))
        · exact fun b y hb hx => kUp_o (fun h => by subst h; rw [htk] at hb; cases hb) (kUp_o (kNeN (h7 b y hb hx) hq26) (h7 b y hb hx))
  refine k_iconst B (v := 0) dX1_init_13 (by decide) ?_
  refine k_istore_n B dX1_init_14 (by decide) ?_
  try refine kK.set1 (by first | exact True.intro | rfl | exact kCat_q _) ?_
  have fin := loop 10 0 _ (fun _ => 0) s1 rfl g1 g2 (fun j h => absurd h (by omega)) (fun j h => absurd h (by omega)) (fun j _ h => absurd h (by omega)) g3 g4
  rw [nI_0] at fin
  exact fin
end JInit
