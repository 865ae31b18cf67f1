theorem trv_fuel {K : Nat → kCl} (hK : ∀ i d, i < 10 → (K i).1 = some d → d < i) : ∀ c n m, c < 10 → c < n → c < m → trvF K n c = trvF K m c := by
  intro c
  induction c using Nat.strongRecOn with
  | ind c ih =>
    intro n m hc hn hm
    cases n with
    | zero => omega
    | succ n =>
      cases m with
      | zero => omega
      | succ m =>
        simp only [trvF]
        cases hd : (K c).1 with
        | none => rfl
        | some d =>
          have := hK c d hc hd
          show (K c).2.1 + trvF K n d = (K c).2.1 + trvF K m d
          rw [ih d this n m (by omega) (by omega) (by omega)]
theorem trv_none {K : Nat → kCl} {c : Nat} (h : (K c).1 = none) : trvF K (c + 1) c = (K c).2.1 + 0 := by simp only [trvF, h]
theorem trv_some {K : Nat → kCl} {c d : Nat} (hK : ∀ i d, i < 10 → (K i).1 = some d → d < i) (hc : c < 10) (h : (K c).1 = some d) : trvF K (c + 1) c = (K c).2.1 + trvF K (d + 1) d := by
  have hd := hK c d hc h
  rw [← trv_fuel hK d c (d + 1) (by omega) hd (by omega)]
  simp only [trvF, h]
theorem trv_le {z : kSt} (hs : sOk z) {c : Nat} (hc : c < 10) : trvF (sK z) (c + 1) c ≤ 40 * (c + 1) := by
  induction c using Nat.strongRecOn with
  | ind c ih =>
    have hk := hs.2.1 c hc
    cases hd : (sK z c).1 with
    | none => rw [trv_none hd]; have := hk.2.2.1; omega
    | some d =>
      have h1 := hk.1 d hd
      rw [trv_some hs.low hc hd]
      have := ih d h1 (by omega)
      have := hk.2.2.1
      omega
theorem ask_l {z : kSt} (h40 : sLn z ≤ 40) {w : Int32} : gLotOf z (nI (sLn z)) w = some eI := if_neg (fun q => absurd q.2 (nI_nlt (Nat.le_refl _) (by omega)))
section Sound
variable {l : Launch} {D : va_G} {σ : kS} {aO ac aw ah : Nat} {z : kSt} {J : List kJe} {F : kF} {fc fw fh : Nat → Int32}
set_option maxHeartbeats 2000000 in
set_option maxRecDepth 100000 in
theorem c_L_isSound (hl : l.stackTraces = false) (hs : sOk z) (h : cl9 D aO z J F σ) (hz : zI z) (hJ : jR z J) (hcn : cnt F ≤ 3400) (hc : σ ac = some (iA D 8 fc)) (hcA : cA z fc) (hw : σ aw = some (iA D 18 fw)) (hwA : wA z fw) (hh : σ ah = some (iA D 40 fh)) (hhA : hA z fh) : kMh hL_isSound l D yL_isSound 11 9000 45000 [.ref aO, .ref ac, .ref aw, .ref ah] σ (fun v s2 => v = some (.int 1) ∧ ∃ F2, cnt F2 ≤ 3400 ∧ cl9 D aO z J F2 s2 ∧ kFr k9F σ s2) (fun _ => False) := by
  refine kM_of (L := [some (.ref aO), some (.ref ac), some (.ref aw), some (.ref ah), none, none, none, none, none, none, none, none]) (by decide +kernel) hl (List.forall_mem_cons.mpr ⟨rfl, (List.forall_mem_cons.mpr ⟨rfl, (List.forall_mem_cons.mpr ⟨rfl, (List.forall_mem_cons.mpr ⟨rfl, (fun _ h => absurd h List.not_mem_nil)⟩)⟩)⟩)⟩) (Nat.le_of_ble_eq_true rfl) rfl ?_
  intro p e s m args below meth c B hr hex hnm
  have B : kB p l s m args meth c D (kA σ s.heap.size) 12 cL_isSound RL := B
  have h40 := hs.2.2.2.1.1
  have h6 := hs.2.2.1.1
  have hn3 := hs.1.1
  obtain ⟨c0, c1, c2, c3, -, -, -, -⟩ := id hcA
  have fin : ∀ (F1 : kF) (s1 : kS) (k n : Nat), cnt F1 ≤ 3400 → cl9 D aO z J F1 s1 → kFr k9F σ s1 → k ≤ 8998 → n ≤ 44980 → kK p l e (kR 11 9000 45000) s m args below meth c D (kA σ s.heap.size) 12 (kQ below args s D σ (fun v s2 => v = some (.int 1) ∧ ∃ F2, cnt F2 ≤ 3400 ∧ cl9 D aO z J F2 s2 ∧ kFr k9F σ s2) (fun _ => False) 9000 45000) s1 k n 361 [some (.ref aO), some (.ref ac), some (.ref aw), some (.ref ah), some (.long (nL (fIn z))), none, some (.long (nL (fFal z))), none, some (.int 1), none, none, none] [] := by
    intro F1 s1 k n hc1 h1 f1 hk hn
    refine k_iload B dL_isSound_361 rfl ?_
    refine k_if_eq B 393 dL_isSound_363 (by decide) (fun c9 => absurd c9 (by decide)) (fun _ => ?_)
    refine k_lload B dL_isSound_366 rfl ?_
    refine k_aload_n B dL_isSound_368 rfl (by first | exact kRf_r _ | exact kRf_q _ | exact kRf_n) ?_
    refine k_iconst B (v := 1) dL_isSound_369 (by decide) ?_
    refine cl_L_86 B (c_X9_sum hl hs h1) (h1.rv.choose_spec) dL_isSound_370 (by first | exact Nat.le_of_ble_eq_true rfl | omega | (simp only [kR, Value.category, kCat_q, List.map, List.sum_cons, List.sum_nil]; omega)) (by first | exact Nat.le_of_ble_eq_true rfl | omega | (simp only [kR, Value.category, kCat_q, List.map, List.sum_cons, List.sum_nil]; omega)) (by first | exact Nat.le_of_ble_eq_true rfl | omega | (simp only [kR, Value.category, kCat_q, List.map, List.sum_cons, List.sum_nil]; omega)) (by first | exact Nat.le_of_ble_eq_true rfl | omega | (simp only [kR, Value.category, kCat_q, List.map, List.sum_cons, List.sum_nil]; omega)) (by first | exact Nat.le_of_ble_eq_true rfl | omega | (simp only [kR, Value.category, kCat_q, List.map, List.sum_cons, List.sum_nil]; omega)) (noE (gRg_p ⟨by decide, by decide⟩)) (rdL rSu1 ?_)
    refine k_lcmp B dL_isSound_373 ?_
    refine k_if_ne B 393 dL_isSound_374 (by decide) (fun c9 => (c9 ((lg_cmp_eq _ _).mpr rfl)).elim) (fun _ => ?_)
    refine k_lload B dL_isSound_377 rfl ?_
    refine k_aload_n B dL_isSound_379 rfl (by first | exact kRf_r _ | exact kRf_q _ | exact kRf_n) ?_
    refine k_bipush B (v := 6) dL_isSound_380 (by decide) ?_
    refine cl_L_86 B (c_X9_sum hl hs h1) (h1.rv.choose_spec) dL_isSound_382 (by first | exact Nat.le_of_ble_eq_true rfl | omega | (simp only [kR, Value.category, kCat_q, List.map, List.sum_cons, List.sum_nil]; omega)) (by first | exact Nat.le_of_ble_eq_true rfl | omega | (simp only [kR, Value.category, kCat_q, List.map, List.sum_cons, List.sum_nil]; omega)) (by first | exact Nat.le_of_ble_eq_true rfl | omega | (simp only [kR, Value.category, kCat_q, List.map, List.sum_cons, List.sum_nil]; omega)) (by first | exact Nat.le_of_ble_eq_true rfl | omega | (simp only [kR, Value.category, kCat_q, List.map, List.sum_cons, List.sum_nil]; omega)) (by first | exact Nat.le_of_ble_eq_true rfl | omega | (simp only [kR, Value.category, kCat_q, List.map, List.sum_cons, List.sum_nil]; omega)) (noE (gRg_p ⟨by decide, by decide⟩)) (rdL rSu6 ?_)
    refine k_lcmp B dL_isSound_385 ?_
    refine k_if_ne B 393 dL_isSound_386 (by decide) (fun c9 => (c9 ((lg_cmp_eq _ _).mpr rfl)).elim) (fun _ => ?_)
    refine k_iconst B (v := 1) dL_isSound_389 (by decide) ?_
    refine k_goto B 394 dL_isSound_390 (by decide) ?_
    refine k_zret B hr dL_isSound_394 (by rfl) ?_ (by first | exact Nat.le_of_ble_eq_true rfl | omega | (simp only [kR, Value.category, kCat_q, List.map, List.sum_cons, List.sum_nil]; omega)) (by first | exact Nat.le_of_ble_eq_true rfl | omega | (simp only [kR, Value.category, kCat_q, List.map, List.sum_cons, List.sum_nil]; omega))
    exact ⟨rfl, F1, hc1, h1, f1⟩
  have loop3 : ∀ (n9 j : Nat) (F1 : kF) (s1 : kS), j + n9 = sLn z → cnt F ≤ cnt F1 → cnt F1 ≤ 3400 → cl9 D aO z J F1 s1 → kFr k9F σ s1 → kK p l e (kR 11 9000 45000) s m args below meth c D (kA σ s.heap.size) 12 (kQ below args s D σ (fun v s2 => v = some (.int 1) ∧ ∃ F2, cnt F2 ≤ 3400 ∧ cl9 D aO z J F2 s2 ∧ kFr k9F σ s2) (fun _ => False) 9000 45000) s1 (300 + 130 * j + (cnt F1 - cnt F)) (1800 + 800 * j + 3 * (cnt F1 - cnt F)) 299 [some (.ref aO), some (.ref ac), some (.ref aw), some (.ref ah), some (.long (nL (fIn z))), none, some (.long (nL (suN (fun i => if truI (sLo z i).2.2.2.1 (sLo z i).2.2.2.2.1 = 0 then 1 else 0) j))), none, some (.int 1), some (.int (nI j)), none, none] [] := by
    intro n9
    induction n9 with
    | zero =>
      intro j F1 s1 hj hc0 hc1 h1 f1
      have hj2 : j = sLn z := by omega
      subst hj2
      refine k_iload B dL_isSound_299 rfl ?_
      refine k_aload_n B dL_isSound_301 rfl (by first | exact kRf_r _ | exact kRf_q _ | exact kRf_n) ?_
      refine k_iconst B (v := 2) dL_isSound_302 (by decide) ?_
      refine k_ald B 2 dL_isSound_303 (iA_keep f1 hc) (by rfl) (by first | omega | decide) (by decide) (c2) ?_
      refine k_icmp_ge B 361 dL_isSound_304 (by decide) (fun _ => ?_) (fun c9 => (c9 (Int32.le_refl _)).elim)
      refine kK.sub (L2 := [some (.ref aO), some (.ref ac), some (.ref aw), some (.ref ah), some (.long (nL (fIn z))), none, some (.long (nL (fFal z))), none, some (.int 1), none, none, none]) ⟨Or.inr rfl, Or.inr rfl, Or.inr rfl, Or.inr rfl, Or.inr rfl, Or.inl rfl, Or.inr rfl, Or.inl rfl, Or.inr rfl, Or.inl rfl, Or.inl rfl, Or.inl rfl, trivial⟩ ?_
      exact fin F1 s1 _ _ hc1 h1 f1 (by omega) (by omega)
    | succ n9 ih =>
      intro j F1 s1 hj hc0 hc1 h1 f1
      have hj2 : j < sLn z := by omega
      have hlb := hs.lb hj2
      have hfj : fh j = hV (sLo z j) := by rw [hhA j (by omega), if_pos hj2]
      obtain ⟨m1, m2⟩ := lotF_cnt (F := F1) hs hJ hj2 hc1 8
      refine k_iload B dL_isSound_299 rfl ?_
      refine k_aload_n B dL_isSound_301 rfl (by first | exact kRf_r _ | exact kRf_q _ | exact kRf_n) ?_
      refine k_iconst B (v := 2) dL_isSound_302 (by decide) ?_
      refine k_ald B 2 dL_isSound_303 (iA_keep f1 hc) (by rfl) (by first | omega | decide) (by decide) (c2) ?_
      refine k_icmp_ge B 361 dL_isSound_304 (by decide) (fun c9 => absurd c9 (fun q => nI_ge hj2 (by omega) q)) (fun _ => ?_)
      refine k_iload B dL_isSound_307 rfl ?_
      refine k_if_eq B 361 dL_isSound_309 (by decide) (fun c9 => absurd c9 (by decide)) (fun _ => ?_)
      refine k_aload_n B dL_isSound_312 rfl (by first | exact kRf_r _ | exact kRf_q _ | exact kRf_n) ?_
      refine k_iload B dL_isSound_313 rfl ?_
      refine k_aload_n B dL_isSound_315 rfl (by first | exact kRf_r _ | exact kRf_q _ | exact kRf_n) ?_
      refine k_aload_n B dL_isSound_316 rfl (by first | exact kRf_r _ | exact kRf_q _ | exact kRf_n) ?_
      refine cl_L_101 B (c_L_isLot hl hs h1 hz hJ hc1 (iA_keep f1 hc) c3 (iA_keep f1 hh) hj2 hfj) dL_isSound_317 (by first | exact Nat.le_of_ble_eq_true rfl | omega | (simp only [kR, Value.category, kCat_q, List.map, List.sum_cons, List.sum_nil]; omega)) (by first | exact Nat.le_of_ble_eq_true rfl | omega | (simp only [kR, Value.category, kCat_q, List.map, List.sum_cons, List.sum_nil]; omega)) (by first | exact Nat.le_of_ble_eq_true rfl | omega | (simp only [kR, Value.category, kCat_q, List.map, List.sum_cons, List.sum_nil]; omega)) (by first | exact Nat.le_of_ble_eq_true rfl | omega | (simp only [kR, Value.category, kCat_q, List.map, List.sum_cons, List.sum_nil]; omega)) (by first | exact Nat.le_of_ble_eq_true rfl | omega | (simp only [kR, Value.category, kCat_q, List.map, List.sum_cons, List.sum_nil]; omega)) (fun _ hx => hx.elim) (fun v317 s317 hp317 => ?_)
      obtain ⟨rfl, h2, f2⟩ := hp317
      have f3 := f1.tr f2
      refine kK.rev (y := .int 1) rfl ?_
      have nxt : ∀ x : Int64, x = nL (if truI (sLo z j).2.2.2.1 (sLo z j).2.2.2.2.1 = 0 then 1 else 0) → kK p l e (kR 11 9000 45000) s m args below meth c D (kA σ s.heap.size) 12 (kQ below args s D σ (fun v s2 => v = some (.int 1) ∧ ∃ F2, cnt F2 ≤ 3400 ∧ cl9 D aO z J F2 s2 ∧ kFr k9F σ s2) (fun _ => False) 9000 45000) s317 (300 + 130 * (j + 1) + (cnt (lotF z J j F1 8) - cnt F)) (1800 + 800 * (j + 1) + 3 * (cnt (lotF z J j F1 8) - cnt F)) 352 [some (.ref aO), some (.ref ac), some (.ref aw), some (.ref ah), some (.long (nL (fIn z))), none, none, none, some (.int 1), some (.int (nI j)), none, none] [.long x, .long (nL (suN (fun i => if truI (sLo z i).2.2.2.1 (sLo z i).2.2.2.2.1 = 0 then 1 else 0) j))] := by
        intro x hx
        subst hx
        refine k_ladd B dL_isSound_352 ?_
        refine kK.rel (y := nL (suN (fun i => if truI (sLo z i).2.2.2.1 (sLo z i).2.2.2.2.1 = 0 then 1 else 0) (j + 1))) (nL_add _ _) ?_
        refine k_lstore B dL_isSound_353 (by decide) ?_
        refine k_iincN (y := nI (j + 1)) B dL_isSound_355 rfl (by decide) (nI_1 j) ?_
        try refine kK.set1 (by first | exact True.intro | rfl | exact kCat_q _) ?_
        refine k_goto B 299 dL_isSound_358 (by decide) ?_
        refine kK.sub (L2 := [some (.ref aO), some (.ref ac), some (.ref aw), some (.ref ah), some (.long (nL (fIn z))), none, some (.long (nL (suN (fun i => if truI (sLo z i).2.2.2.1 (sLo z i).2.2.2.2.1 = 0 then 1 else 0) (j + 1)))), none, some (.int 1), some (.int (nI (j + 1))), none, none]) ⟨Or.inr rfl, Or.inr rfl, Or.inr rfl, Or.inr rfl, Or.inr rfl, Or.inl rfl, Or.inr rfl, Or.inl rfl, Or.inr rfl, Or.inr rfl, Or.inl rfl, Or.inl rfl, trivial⟩ ?_
        exact ih (j + 1) _ s317 (by omega) (by omega) m2 h2 f3
      by_cases hneg : (sLo z j).2.2.2.1 = -1
      · refine k_istore B dL_isSound_320 (by decide) ?_
        try refine kK.set1 (by first | exact True.intro | rfl | exact kCat_q _) ?_
        refine k_lload B dL_isSound_322 rfl ?_
        refine k_aload_n B dL_isSound_324 rfl (by first | exact kRf_r _ | exact kRf_q _ | exact kRf_n) ?_
        refine k_iload B dL_isSound_325 rfl ?_
        refine k_ald B j dL_isSound_327 (iA_keep f3 hh) (by rfl) (by first | omega | decide) (by decide) (hfj) ?_
        refine k_bipush B (v := 10) dL_isSound_328 (by decide) ?_
        refine k_irem B dL_isSound_330 (by decide) ?_
        refine kK.rei (y := (sLo z j).2.2.2.1 + 1) (hW_1 hlb) ?_
        refine k_if_le B 351 dL_isSound_331 (by decide) (fun _ => ?_) (fun c9 => (c9 ((by rw [hneg]; decide))).elim)
        refine k_lconst B (v := 0) dL_isSound_351 (by decide) ?_
        refine kK.sub (L2 := [some (.ref aO), some (.ref ac), some (.ref aw), some (.ref ah), some (.long (nL (fIn z))), none, none, none, some (.int 1), some (.int (nI j)), none, none]) ⟨Or.inr rfl, Or.inr rfl, Or.inr rfl, Or.inr rfl, Or.inr rfl, Or.inl rfl, Or.inl rfl, Or.inl rfl, Or.inr rfl, Or.inr rfl, Or.inl rfl, Or.inl rfl, trivial⟩ ?_
        refine kK.widen (k2 := 300 + 130 * (j + 1) + (cnt (lotF z J j F1 8) - cnt F)) (n2 := 1800 + 800 * (j + 1) + 3 * (cnt (lotF z J j F1 8) - cnt F)) (by omega) (by omega) ?_
        exact nxt 0 (by rw [tru_1 hneg, if_neg (by decide)]; rfl)
      · have hpos : ¬ (sLo z j).2.2.2.1 + 1 ≤ 0 := by
          rcases hlb.1 with q | q | q | q
          · exact absurd q hneg
          · rw [q]; decide
          · rw [q]; decide
          · rw [q]; decide
        by_cases htr : (sLo z j).2.2.2.2.1 = 0
        · refine k_istore B dL_isSound_320 (by decide) ?_
          try refine kK.set1 (by first | exact True.intro | rfl | exact kCat_q _) ?_
          refine k_lload B dL_isSound_322 rfl ?_
          refine k_aload_n B dL_isSound_324 rfl (by first | exact kRf_r _ | exact kRf_q _ | exact kRf_n) ?_
          refine k_iload B dL_isSound_325 rfl ?_
          refine k_ald B j dL_isSound_327 (iA_keep f3 hh) (by rfl) (by first | omega | decide) (by decide) (hfj) ?_
          refine k_bipush B (v := 10) dL_isSound_328 (by decide) ?_
          refine k_irem B dL_isSound_330 (by decide) ?_
          refine kK.rei (y := (sLo z j).2.2.2.1 + 1) (hW_1 hlb) ?_
          refine k_if_le B 351 dL_isSound_331 (by decide) (fun c9 => absurd c9 (hpos)) (fun _ => ?_)
          refine k_aload_n B dL_isSound_334 rfl (by first | exact kRf_r _ | exact kRf_q _ | exact kRf_n) ?_
          refine k_iload B dL_isSound_335 rfl ?_
          refine k_ald B j dL_isSound_337 (iA_keep f3 hh) (by rfl) (by first | omega | decide) (by decide) (hfj) ?_
          refine k_bipush B (v := 10) dL_isSound_338 (by decide) ?_
          refine k_idiv B dL_isSound_340 (by decide) ?_
          refine k_bipush B (v := 10) dL_isSound_341 (by decide) ?_
          refine k_irem B dL_isSound_343 (by decide) ?_
          refine kK.rei (y := (sLo z j).2.2.2.2.1) (hW_2 hlb) ?_
          refine k_if_ne B 351 dL_isSound_344 (by decide) (fun c9 => (c9 (htr)).elim) (fun _ => ?_)
          refine k_lconst B (v := 1) dL_isSound_347 (by decide) ?_
          refine k_goto B 352 dL_isSound_348 (by decide) ?_
          refine kK.sub (L2 := [some (.ref aO), some (.ref ac), some (.ref aw), some (.ref ah), some (.long (nL (fIn z))), none, none, none, some (.int 1), some (.int (nI j)), none, none]) ⟨Or.inr rfl, Or.inr rfl, Or.inr rfl, Or.inr rfl, Or.inr rfl, Or.inl rfl, Or.inl rfl, Or.inl rfl, Or.inr rfl, Or.inr rfl, Or.inl rfl, Or.inl rfl, trivial⟩ ?_
          refine kK.widen (k2 := 300 + 130 * (j + 1) + (cnt (lotF z J j F1 8) - cnt F)) (n2 := 1800 + 800 * (j + 1) + 3 * (cnt (lotF z J j F1 8) - cnt F)) (by omega) (by omega) ?_
          exact nxt 1 (by rw [tru_2 hlb hneg, if_pos htr]; rfl)
        · refine k_istore B dL_isSound_320 (by decide) ?_
          try refine kK.set1 (by first | exact True.intro | rfl | exact kCat_q _) ?_
          refine k_lload B dL_isSound_322 rfl ?_
          refine k_aload_n B dL_isSound_324 rfl (by first | exact kRf_r _ | exact kRf_q _ | exact kRf_n) ?_
          refine k_iload B dL_isSound_325 rfl ?_
          refine k_ald B j dL_isSound_327 (iA_keep f3 hh) (by rfl) (by first | omega | decide) (by decide) (hfj) ?_
          refine k_bipush B (v := 10) dL_isSound_328 (by decide) ?_
          refine k_irem B dL_isSound_330 (by decide) ?_
          refine kK.rei (y := (sLo z j).2.2.2.1 + 1) (hW_1 hlb) ?_
          refine k_if_le B 351 dL_isSound_331 (by decide) (fun c9 => absurd c9 (hpos)) (fun _ => ?_)
          refine k_aload_n B dL_isSound_334 rfl (by first | exact kRf_r _ | exact kRf_q _ | exact kRf_n) ?_
          refine k_iload B dL_isSound_335 rfl ?_
          refine k_ald B j dL_isSound_337 (iA_keep f3 hh) (by rfl) (by first | omega | decide) (by decide) (hfj) ?_
          refine k_bipush B (v := 10) dL_isSound_338 (by decide) ?_
          refine k_idiv B dL_isSound_340 (by decide) ?_
          refine k_bipush B (v := 10) dL_isSound_341 (by decide) ?_
          refine k_irem B dL_isSound_343 (by decide) ?_
          refine kK.rei (y := (sLo z j).2.2.2.2.1) (hW_2 hlb) ?_
          refine k_if_ne B 351 dL_isSound_344 (by decide) (fun _ => ?_) (fun c9 => absurd c9 (htr))
          refine k_lconst B (v := 0) dL_isSound_351 (by decide) ?_
          refine kK.sub (L2 := [some (.ref aO), some (.ref ac), some (.ref aw), some (.ref ah), some (.long (nL (fIn z))), none, none, none, some (.int 1), some (.int (nI j)), none, none]) ⟨Or.inr rfl, Or.inr rfl, Or.inr rfl, Or.inr rfl, Or.inr rfl, Or.inl rfl, Or.inl rfl, Or.inl rfl, Or.inr rfl, Or.inr rfl, Or.inl rfl, Or.inl rfl, trivial⟩ ?_
          refine kK.widen (k2 := 300 + 130 * (j + 1) + (cnt (lotF z J j F1 8) - cnt F)) (n2 := 1800 + 800 * (j + 1) + 3 * (cnt (lotF z J j F1 8) - cnt F)) (by omega) (by omega) ?_
          exact nxt 0 (by rw [tru_2 hlb hneg, if_neg htr]; rfl)
  have loop2 : ∀ (n9 j : Nat), j + n9 = sWn z → kK p l e (kR 11 9000 45000) s m args below meth c D (kA σ s.heap.size) 12 (kQ below args s D σ (fun v s2 => v = some (.int 1) ∧ ∃ F2, cnt F2 ≤ 3400 ∧ cl9 D aO z J F2 s2 ∧ kFr k9F σ s2) (fun _ => False) 9000 45000) σ (200 + 10 * j) (1200 + 60 * j) 204 [some (.ref aO), some (.ref ac), some (.ref aw), some (.ref ah), some (.long (nL (fIn z))), none, some (.long (nL 0)), none, some (.int 1), some (.int (nI j)), none, none] [] := by
    intro n9
    induction n9 with
    | zero =>
      intro j hj
      have hj2 : j = sWn z := by omega
      subst hj2
      refine k_iload B dL_isSound_204 rfl ?_
      refine k_aload_n B dL_isSound_206 rfl (by first | exact kRf_r _ | exact kRf_q _ | exact kRf_n) ?_
      refine k_iconst B (v := 1) dL_isSound_207 (by decide) ?_
      refine k_ald B 1 dL_isSound_208 hc (by rfl) (by first | omega | decide) (by decide) (c1) ?_
      refine k_icmp_ge B 296 dL_isSound_209 (by decide) (fun _ => ?_) (fun c9 => (c9 (Int32.le_refl _)).elim)
      refine k_iconst B (v := 0) dL_isSound_296 (by decide) ?_
      refine k_istore B dL_isSound_297 (by decide) ?_
      try refine kK.set1 (by first | exact True.intro | rfl | exact kCat_q _) ?_
      refine kK.sub (L2 := [some (.ref aO), some (.ref ac), some (.ref aw), some (.ref ah), some (.long (nL (fIn z))), none, some (.long (nL (suN (fun i => if truI (sLo z i).2.2.2.1 (sLo z i).2.2.2.2.1 = 0 then 1 else 0) 0))), none, some (.int 1), some (.int (nI 0)), none, none]) ⟨Or.inr rfl, Or.inr rfl, Or.inr rfl, Or.inr rfl, Or.inr rfl, Or.inl rfl, Or.inr rfl, Or.inl rfl, Or.inr rfl, Or.inr ((by rw [nI_0])), Or.inl rfl, Or.inl rfl, trivial⟩ ?_
      exact kK.widen (by omega) (by omega) (loop3 (sLn z) 0 F σ (by omega) (Nat.le_refl _) hcn h kFr.rf)
    | succ n9 ih =>
      intro j hj
      have hj2 : j < sWn z := by omega
      obtain ⟨w0, w1, w2⟩ := hwA j hj2
      refine k_iload B dL_isSound_204 rfl ?_
      refine k_aload_n B dL_isSound_206 rfl (by first | exact kRf_r _ | exact kRf_q _ | exact kRf_n) ?_
      refine k_iconst B (v := 1) dL_isSound_207 (by decide) ?_
      refine k_ald B 1 dL_isSound_208 hc (by rfl) (by first | omega | decide) (by decide) (c1) ?_
      refine k_icmp_ge B 296 dL_isSound_209 (by decide) (fun c9 => absurd c9 (fun q => nI_ge hj2 (by omega) q)) (fun _ => ?_)
      refine k_iload B dL_isSound_212 rfl ?_
      refine k_if_eq B 287 dL_isSound_214 (by decide) (fun c9 => absurd c9 (by decide)) (fun _ => ?_)
      refine k_aload_n B dL_isSound_217 rfl (by first | exact kRf_r _ | exact kRf_q _ | exact kRf_n) ?_
      refine k_iload B dL_isSound_218 rfl ?_
      refine k_iconst B (v := 0) dL_isSound_220 (by decide) ?_
      refine cl_L_94 B (c_X9_wellOf hl hs h) (h.rv.choose_spec) dL_isSound_221 (by first | exact Nat.le_of_ble_eq_true rfl | omega | (simp only [kR, Value.category, kCat_q, List.map, List.sum_cons, List.sum_nil]; omega)) (by first | exact Nat.le_of_ble_eq_true rfl | omega | (simp only [kR, Value.category, kCat_q, List.map, List.sum_cons, List.sum_nil]; omega)) (by first | exact Nat.le_of_ble_eq_true rfl | omega | (simp only [kR, Value.category, kCat_q, List.map, List.sum_cons, List.sum_nil]; omega)) (by first | exact Nat.le_of_ble_eq_true rfl | omega | (simp only [kR, Value.category, kCat_q, List.map, List.sum_cons, List.sum_nil]; omega)) (by first | exact Nat.le_of_ble_eq_true rfl | omega | (simp only [kR, Value.category, kCat_q, List.map, List.sum_cons, List.sum_nil]; omega)) (noE (gWo hj2 hs.2.2.1.1 ⟨by decide, by decide⟩)) (rdI (rWo0 (Nat.lt_of_lt_of_le hj2 hs.2.2.1.1)) ?_)
      refine k_aload_n B dL_isSound_224 rfl (by first | exact kRf_r _ | exact kRf_q _ | exact kRf_n) ?_
      refine k_iload B dL_isSound_225 rfl ?_
      refine k_ald B j dL_isSound_227 hw (by rfl) (by first | omega | decide) (by decide) (w0) ?_
      refine k_icmp_ne B 287 dL_isSound_228 (by decide) (fun c9 => (c9 (rfl)).elim) (fun _ => ?_)
      refine k_aload_n B dL_isSound_231 rfl (by first | exact kRf_r _ | exact kRf_q _ | exact kRf_n) ?_
      refine k_iload B dL_isSound_232 rfl ?_
      refine k_iconst B (v := 1) dL_isSound_234 (by decide) ?_
      refine cl_L_94 B (c_X9_wellOf hl hs h) (h.rv.choose_spec) dL_isSound_235 (by first | exact Nat.le_of_ble_eq_true rfl | omega | (simp only [kR, Value.category, kCat_q, List.map, List.sum_cons, List.sum_nil]; omega)) (by first | exact Nat.le_of_ble_eq_true rfl | omega | (simp only [kR, Value.category, kCat_q, List.map, List.sum_cons, List.sum_nil]; omega)) (by first | exact Nat.le_of_ble_eq_true rfl | omega | (simp only [kR, Value.category, kCat_q, List.map, List.sum_cons, List.sum_nil]; omega)) (by first | exact Nat.le_of_ble_eq_true rfl | omega | (simp only [kR, Value.category, kCat_q, List.map, List.sum_cons, List.sum_nil]; omega)) (by first | exact Nat.le_of_ble_eq_true rfl | omega | (simp only [kR, Value.category, kCat_q, List.map, List.sum_cons, List.sum_nil]; omega)) (noE (gWo hj2 hs.2.2.1.1 ⟨by decide, by decide⟩)) (rdI (rWo1 (Nat.lt_of_lt_of_le hj2 hs.2.2.1.1)) ?_)
      refine k_aload_n B dL_isSound_238 rfl (by first | exact kRf_r _ | exact kRf_q _ | exact kRf_n) ?_
      refine k_bipush B (v := 6) dL_isSound_239 (by decide) ?_
      refine k_iload B dL_isSound_241 rfl ?_
      refine k_iadd B dL_isSound_243 ?_
      refine k_ald B (6 + j) dL_isSound_244 hw (nI_add 6 j) (by first | omega | decide) (by decide) (w1) ?_
      refine k_icmp_ne B 287 dL_isSound_245 (by decide) (fun c9 => (c9 (rfl)).elim) (fun _ => ?_)
      refine k_aload_n B dL_isSound_248 rfl (by first | exact kRf_r _ | exact kRf_q _ | exact kRf_n) ?_
      refine k_iload B dL_isSound_249 rfl ?_
      refine k_iconst B (v := 2) dL_isSound_251 (by decide) ?_
      refine cl_L_94 B (c_X9_wellOf hl hs h) (h.rv.choose_spec) dL_isSound_252 (by first | exact Nat.le_of_ble_eq_true rfl | omega | (simp only [kR, Value.category, kCat_q, List.map, List.sum_cons, List.sum_nil]; omega)) (by first | exact Nat.le_of_ble_eq_true rfl | omega | (simp only [kR, Value.category, kCat_q, List.map, List.sum_cons, List.sum_nil]; omega)) (by first | exact Nat.le_of_ble_eq_true rfl | omega | (simp only [kR, Value.category, kCat_q, List.map, List.sum_cons, List.sum_nil]; omega)) (by first | exact Nat.le_of_ble_eq_true rfl | omega | (simp only [kR, Value.category, kCat_q, List.map, List.sum_cons, List.sum_nil]; omega)) (by first | exact Nat.le_of_ble_eq_true rfl | omega | (simp only [kR, Value.category, kCat_q, List.map, List.sum_cons, List.sum_nil]; omega)) (noE (gWo hj2 hs.2.2.1.1 ⟨by decide, by decide⟩)) (rdI (rWo2 (Nat.lt_of_lt_of_le hj2 hs.2.2.1.1)) ?_)
      refine k_aload_n B dL_isSound_255 rfl (by first | exact kRf_r _ | exact kRf_q _ | exact kRf_n) ?_
      refine k_bipush B (v := 12) dL_isSound_256 (by decide) ?_
      refine k_iload B dL_isSound_258 rfl ?_
      refine k_iadd B dL_isSound_260 ?_
      refine k_ald B (12 + j) dL_isSound_261 hw (nI_add 12 j) (by first | omega | decide) (by decide) (w2) ?_
      refine k_icmp_ne B 287 dL_isSound_262 (by decide) (fun c9 => (c9 (rfl)).elim) (fun _ => ?_)
      refine k_aload_n B dL_isSound_265 rfl (by first | exact kRf_r _ | exact kRf_q _ | exact kRf_n) ?_
      refine k_iload B dL_isSound_266 rfl ?_
      refine k_iconst B (v := 3) dL_isSound_268 (by decide) ?_
      refine cl_L_94 B (c_X9_wellOf hl hs h) (h.rv.choose_spec) dL_isSound_269 (by first | exact Nat.le_of_ble_eq_true rfl | omega | (simp only [kR, Value.category, kCat_q, List.map, List.sum_cons, List.sum_nil]; omega)) (by first | exact Nat.le_of_ble_eq_true rfl | omega | (simp only [kR, Value.category, kCat_q, List.map, List.sum_cons, List.sum_nil]; omega)) (by first | exact Nat.le_of_ble_eq_true rfl | omega | (simp only [kR, Value.category, kCat_q, List.map, List.sum_cons, List.sum_nil]; omega)) (by first | exact Nat.le_of_ble_eq_true rfl | omega | (simp only [kR, Value.category, kCat_q, List.map, List.sum_cons, List.sum_nil]; omega)) (by first | exact Nat.le_of_ble_eq_true rfl | omega | (simp only [kR, Value.category, kCat_q, List.map, List.sum_cons, List.sum_nil]; omega)) (noE (gWo hj2 hs.2.2.1.1 ⟨by decide, by decide⟩)) (rdI (rWo3 (Nat.lt_of_lt_of_le hj2 hs.2.2.1.1)) ?_)
      refine k_aload_n B dL_isSound_272 rfl (by first | exact kRf_r _ | exact kRf_q _ | exact kRf_n) ?_
      refine k_iload B dL_isSound_273 rfl ?_
      refine k_aload_n B dL_isSound_275 rfl (by first | exact kRf_r _ | exact kRf_q _ | exact kRf_n) ?_
      refine k_aload_n B dL_isSound_276 rfl (by first | exact kRf_r _ | exact kRf_q _ | exact kRf_n) ?_
      refine cl_L_97 B (c_L_may hl hs h hc hcA hw hwA hj2) dL_isSound_277 (by first | exact Nat.le_of_ble_eq_true rfl | omega | (simp only [kR, Value.category, kCat_q, List.map, List.sum_cons, List.sum_nil]; omega)) (by first | exact Nat.le_of_ble_eq_true rfl | omega | (simp only [kR, Value.category, kCat_q, List.map, List.sum_cons, List.sum_nil]; omega)) (by first | exact Nat.le_of_ble_eq_true rfl | omega | (simp only [kR, Value.category, kCat_q, List.map, List.sum_cons, List.sum_nil]; omega)) (by first | exact Nat.le_of_ble_eq_true rfl | omega | (simp only [kR, Value.category, kCat_q, List.map, List.sum_cons, List.sum_nil]; omega)) (by first | exact Nat.le_of_ble_eq_true rfl | omega | (simp only [kR, Value.category, kCat_q, List.map, List.sum_cons, List.sum_nil]; omega)) (fun _ hx => hx.elim) (rdV ?_)
      refine k_icmp_ne B 287 dL_isSound_280 (by decide) (fun c9 => (c9 (rfl)).elim) (fun _ => ?_)
      refine k_iconst B (v := 1) dL_isSound_283 (by decide) ?_
      refine k_goto B 288 dL_isSound_284 (by decide) ?_
      refine k_istore B dL_isSound_288 (by decide) ?_
      try refine kK.set1 (by first | exact True.intro | rfl | exact kCat_q _) ?_
      refine k_iincN (y := nI (j + 1)) B dL_isSound_290 rfl (by decide) (nI_1 j) ?_
      try refine kK.set1 (by first | exact True.intro | rfl | exact kCat_q _) ?_
      refine k_goto B 204 dL_isSound_293 (by decide) ?_
      refine kK.sub (L2 := [some (.ref aO), some (.ref ac), some (.ref aw), some (.ref ah), some (.long (nL (fIn z))), none, some (.long (nL 0)), none, some (.int 1), some (.int (nI (j + 1))), none, none]) ⟨Or.inr rfl, Or.inr rfl, Or.inr rfl, Or.inr rfl, Or.inr rfl, Or.inl rfl, Or.inr rfl, Or.inl rfl, Or.inr rfl, Or.inr rfl, Or.inl rfl, Or.inl rfl, trivial⟩ ?_
      exact kK.widen (by omega) (by omega) (ih (j + 1) (by omega))
  have loop1 : ∀ (n9 j : Nat), j + n9 = 10 → kK p l e (kR 11 9000 45000) s m args below meth c D (kA σ s.heap.size) 12 (kQ below args s D σ (fun v s2 => v = some (.int 1) ∧ ∃ F2, cnt F2 ≤ 3400 ∧ cl9 D aO z J F2 s2 ∧ kFr k9F σ s2) (fun _ => False) 9000 45000) σ (20 + 14 * j) (120 + 84 * j) 67 [some (.ref aO), some (.ref ac), some (.ref aw), some (.ref ah), some (.long (nL (suN (fun i => unS (sR z i)) j))), none, some (.long (nL 0)), none, some (.int 1), some (.int (nI j)), none, none] [] := by
    intro n9
    induction n9 with
    | zero =>
      intro j hj
      have hj2 : j = 10 := by omega
      subst hj2
      refine k_iload B dL_isSound_67 rfl ?_
      refine k_bipush B (v := 10) dL_isSound_69 (by decide) ?_
      refine k_icmp_ge B 201 dL_isSound_71 (by decide) (fun _ => ?_) (fun c9 => (c9 (by decide)).elim)
      refine k_iconst B (v := 0) dL_isSound_201 (by decide) ?_
      refine k_istore B dL_isSound_202 (by decide) ?_
      try refine kK.set1 (by first | exact True.intro | rfl | exact kCat_q _) ?_
      refine kK.sub (L2 := [some (.ref aO), some (.ref ac), some (.ref aw), some (.ref ah), some (.long (nL (fIn z))), none, some (.long (nL 0)), none, some (.int 1), some (.int (nI 0)), none, none]) ⟨Or.inr rfl, Or.inr rfl, Or.inr rfl, Or.inr rfl, Or.inr rfl, Or.inl rfl, Or.inr rfl, Or.inl rfl, Or.inr rfl, Or.inr ((by rw [nI_0])), Or.inl rfl, Or.inl rfl, trivial⟩ ?_
      exact kK.widen (by omega) (by omega) (loop2 (sWn z) 0 (by omega))
    | succ n9 ih =>
      intro j hj
      have hj2 : j < 10 := by omega
      have hpk := hs.pk (i := j) (by omega)
      have hun := hs.un (i := j) (by omega)
      have mid : kK p l e (kR 11 9000 45000) s m args below meth c D (kA σ s.heap.size) 12 (kQ below args s D σ (fun v s2 => v = some (.int 1) ∧ ∃ F2, cnt F2 ≤ 3400 ∧ cl9 D aO z J F2 s2 ∧ kFr k9F σ s2) (fun _ => False) 9000 45000) σ (20 + 14 * j + 12) (120 + 84 * j + 72) 152 [some (.ref aO), some (.ref ac), some (.ref aw), some (.ref ah), some (.long (nL (suN (fun i => unS (sR z i)) (j + 1)))), none, some (.long (nL 0)), none, some (.int 1), some (.int (nI j)), some (.int (fyS (sR z j))), none] [] := by
        have nxt : kK p l e (kR 11 9000 45000) s m args below meth c D (kA σ s.heap.size) 12 (kQ below args s D σ (fun v s2 => v = some (.int 1) ∧ ∃ F2, cnt F2 ≤ 3400 ∧ cl9 D aO z J F2 s2 ∧ kFr k9F σ s2) (fun _ => False) 9000 45000) σ (20 + 14 * j + 14) (120 + 84 * j + 84) 188 [some (.ref aO), some (.ref ac), some (.ref aw), some (.ref ah), some (.long (nL (suN (fun i => unS (sR z i)) (j + 1)))), none, some (.long (nL 0)), none, some (.int 1), some (.int (nI j)), none, none] [] := by
          refine k_iconst B (v := 1) dL_isSound_188 (by decide) ?_
          refine k_goto B 193 dL_isSound_189 (by decide) ?_
          refine k_istore B dL_isSound_193 (by decide) ?_
          try refine kK.set1 (by first | exact True.intro | rfl | exact kCat_q _) ?_
          refine k_iincN (y := nI (j + 1)) B dL_isSound_195 rfl (by decide) (nI_1 j) ?_
          try refine kK.set1 (by first | exact True.intro | rfl | exact kCat_q _) ?_
          refine k_goto B 67 dL_isSound_198 (by decide) ?_
          refine kK.sub (L2 := [some (.ref aO), some (.ref ac), some (.ref aw), some (.ref ah), some (.long (nL (suN (fun i => unS (sR z i)) (j + 1)))), none, some (.long (nL 0)), none, some (.int 1), some (.int (nI (j + 1))), none, none]) ⟨Or.inr rfl, Or.inr rfl, Or.inr rfl, Or.inr rfl, Or.inr rfl, Or.inl rfl, Or.inr rfl, Or.inl rfl, Or.inr rfl, Or.inr rfl, Or.inl rfl, Or.inl rfl, trivial⟩ ?_
          exact kK.widen (by omega) (by omega) (ih (j + 1) (by omega))
        cases hr : sR z j with
        | nil =>
          refine k_iload B dL_isSound_152 rfl ?_
          refine k_if_ge B 161 dL_isSound_154 (by decide) (fun c9 => absurd c9 (by decide)) (fun _ => ?_)
          refine k_iconst B (v := 1) dL_isSound_157 (by decide) ?_
          refine k_goto B 162 dL_isSound_158 (by decide) ?_
          refine k_aload_n B dL_isSound_162 rfl (by first | exact kRf_r _ | exact kRf_q _ | exact kRf_n) ?_
          refine k_iload B dL_isSound_163 rfl ?_
          refine k_iconst B (v := 0) dL_isSound_165 (by decide) ?_
          refine cl_L_52 B (c_X9_cellOf hl hs h) (h.rv.choose_spec) dL_isSound_166 (by first | exact Nat.le_of_ble_eq_true rfl | omega | (simp only [kR, Value.category, kCat_q, List.map, List.sum_cons, List.sum_nil]; omega)) (by first | exact Nat.le_of_ble_eq_true rfl | omega | (simp only [kR, Value.category, kCat_q, List.map, List.sum_cons, List.sum_nil]; omega)) (by first | exact Nat.le_of_ble_eq_true rfl | omega | (simp only [kR, Value.category, kCat_q, List.map, List.sum_cons, List.sum_nil]; omega)) (by first | exact Nat.le_of_ble_eq_true rfl | omega | (simp only [kR, Value.category, kCat_q, List.map, List.sum_cons, List.sum_nil]; omega)) (by first | exact Nat.le_of_ble_eq_true rfl | omega | (simp only [kR, Value.category, kCat_q, List.map, List.sum_cons, List.sum_nil]; omega)) (noE (gCl hj2 ⟨by decide, by decide⟩)) (rdI (rCl0 hj2) ?_)
          refine kK.rei (y := 0) (by rw [hr]; rfl) ?_
          refine k_if_ne B 176 dL_isSound_169 (by decide) (fun c9 => (c9 (rfl)).elim) (fun _ => ?_)
          refine k_iconst B (v := 1) dL_isSound_172 (by decide) ?_
          refine k_goto B 177 dL_isSound_173 (by decide) ?_
          refine k_icmp_ne B 192 dL_isSound_177 (by decide) (fun c9 => (c9 (rfl)).elim) (fun _ => ?_)
          refine k_iload B dL_isSound_180 rfl ?_
          refine k_aload_n B dL_isSound_182 rfl (by first | exact kRf_r _ | exact kRf_q _ | exact kRf_n) ?_
          refine k_iconst B (v := 0) dL_isSound_183 (by decide) ?_
          refine k_ald B 0 dL_isSound_184 hc (by rfl) (by first | omega | decide) (by decide) (c0) ?_
          refine k_icmp_ge B 192 dL_isSound_185 (by decide) (fun c9 => absurd c9 (fun q => absurd (Int32.le_trans (nI_pos' (by omega)) q) (by decide))) (fun _ => ?_)
          refine kK.sub (L2 := [some (.ref aO), some (.ref ac), some (.ref aw), some (.ref ah), some (.long (nL (suN (fun i => unS (sR z i)) (j + 1)))), none, some (.long (nL 0)), none, some (.int 1), some (.int (nI j)), none, none]) ⟨Or.inr rfl, Or.inr rfl, Or.inr rfl, Or.inr rfl, Or.inr rfl, Or.inl rfl, Or.inr rfl, Or.inl rfl, Or.inr rfl, Or.inr rfl, Or.inl rfl, Or.inl rfl, trivial⟩ ?_
          exact nxt
        | cons q t =>
          have hq := hpk q (by rw [hr]; exact List.mem_cons_self)
          have hq2 := hq.2.1
          have hu1 : 1 ≤ unS (sR z j) := by rw [hr]; have := hq.2.2.2; simp only [unS, kUn]; omega
          refine k_iload B dL_isSound_152 rfl ?_
          refine kK.rei (y := nI q.2.1) (rfl) ?_
          refine k_if_ge B 161 dL_isSound_154 (by decide) (fun _ => ?_) (fun c9 => (c9 (nI_pos' (by omega))).elim)
          refine k_iconst B (v := 0) dL_isSound_161 (by decide) ?_
          refine k_aload_n B dL_isSound_162 rfl (by first | exact kRf_r _ | exact kRf_q _ | exact kRf_n) ?_
          refine k_iload B dL_isSound_163 rfl ?_
          refine k_iconst B (v := 0) dL_isSound_165 (by decide) ?_
          refine cl_L_52 B (c_X9_cellOf hl hs h) (h.rv.choose_spec) dL_isSound_166 (by first | exact Nat.le_of_ble_eq_true rfl | omega | (simp only [kR, Value.category, kCat_q, List.map, List.sum_cons, List.sum_nil]; omega)) (by first | exact Nat.le_of_ble_eq_true rfl | omega | (simp only [kR, Value.category, kCat_q, List.map, List.sum_cons, List.sum_nil]; omega)) (by first | exact Nat.le_of_ble_eq_true rfl | omega | (simp only [kR, Value.category, kCat_q, List.map, List.sum_cons, List.sum_nil]; omega)) (by first | exact Nat.le_of_ble_eq_true rfl | omega | (simp only [kR, Value.category, kCat_q, List.map, List.sum_cons, List.sum_nil]; omega)) (by first | exact Nat.le_of_ble_eq_true rfl | omega | (simp only [kR, Value.category, kCat_q, List.map, List.sum_cons, List.sum_nil]; omega)) (noE (gCl hj2 ⟨by decide, by decide⟩)) (rdI (rCl0 hj2) ?_)
          refine k_if_ne B 176 dL_isSound_169 (by decide) (fun _ => ?_) (fun c9 => absurd c9 (nI_ne0 hu1 (by omega)))
          refine k_iconst B (v := 0) dL_isSound_176 (by decide) ?_
          refine k_icmp_ne B 192 dL_isSound_177 (by decide) (fun c9 => (c9 (rfl)).elim) (fun _ => ?_)
          refine k_iload B dL_isSound_180 rfl ?_
          refine kK.rei (y := nI q.2.1) (rfl) ?_
          refine k_aload_n B dL_isSound_182 rfl (by first | exact kRf_r _ | exact kRf_q _ | exact kRf_n) ?_
          refine k_iconst B (v := 0) dL_isSound_183 (by decide) ?_
          refine k_ald B 0 dL_isSound_184 hc (by rfl) (by first | omega | decide) (by decide) (c0) ?_
          refine k_icmp_ge B 192 dL_isSound_185 (by decide) (fun c9 => absurd c9 (fun x => nI_ge hq2 (by omega) x)) (fun _ => ?_)
          refine kK.sub (L2 := [some (.ref aO), some (.ref ac), some (.ref aw), some (.ref ah), some (.long (nL (suN (fun i => unS (sR z i)) (j + 1)))), none, some (.long (nL 0)), none, some (.int 1), some (.int (nI j)), none, none]) ⟨Or.inr rfl, Or.inr rfl, Or.inr rfl, Or.inr rfl, Or.inr rfl, Or.inl rfl, Or.inr rfl, Or.inl rfl, Or.inr rfl, Or.inr rfl, Or.inl rfl, Or.inl rfl, trivial⟩ ?_
          exact nxt
      cases hd : (sK z j).1 with
      | none =>
        refine k_iload B dL_isSound_67 rfl ?_
        refine k_bipush B (v := 10) dL_isSound_69 (by decide) ?_
        refine k_icmp_ge B 201 dL_isSound_71 (by decide) (fun c9 => absurd c9 (fun q => nI_ge hj2 (by decide) q)) (fun _ => ?_)
        refine k_aload_n B dL_isSound_74 rfl (by first | exact kRf_r _ | exact kRf_q _ | exact kRf_n) ?_
        refine k_iload B dL_isSound_75 rfl ?_
        refine k_bipush B (v := 6) dL_isSound_77 (by decide) ?_
        refine cl_L_52 B (c_X9_cellOf hl hs h) (h.rv.choose_spec) dL_isSound_79 (by first | exact Nat.le_of_ble_eq_true rfl | omega | (simp only [kR, Value.category, kCat_q, List.map, List.sum_cons, List.sum_nil]; omega)) (by first | exact Nat.le_of_ble_eq_true rfl | omega | (simp only [kR, Value.category, kCat_q, List.map, List.sum_cons, List.sum_nil]; omega)) (by first | exact Nat.le_of_ble_eq_true rfl | omega | (simp only [kR, Value.category, kCat_q, List.map, List.sum_cons, List.sum_nil]; omega)) (by first | exact Nat.le_of_ble_eq_true rfl | omega | (simp only [kR, Value.category, kCat_q, List.map, List.sum_cons, List.sum_nil]; omega)) (by first | exact Nat.le_of_ble_eq_true rfl | omega | (simp only [kR, Value.category, kCat_q, List.map, List.sum_cons, List.sum_nil]; omega)) (noE (gCl hj2 ⟨by decide, by decide⟩)) (rdI (rCl6 hj2) ?_)
        refine k_istore B dL_isSound_82 (by decide) ?_
        try refine kK.set1 (by first | exact True.intro | rfl | exact kCat_q _) ?_
        refine k_aload_n B dL_isSound_84 rfl (by first | exact kRf_r _ | exact kRf_q _ | exact kRf_n) ?_
        refine k_iload B dL_isSound_85 rfl ?_
        refine k_iconst B (v := 3) dL_isSound_87 (by decide) ?_
        refine cl_L_52 B (c_X9_cellOf hl hs h) (h.rv.choose_spec) dL_isSound_88 (by first | exact Nat.le_of_ble_eq_true rfl | omega | (simp only [kR, Value.category, kCat_q, List.map, List.sum_cons, List.sum_nil]; omega)) (by first | exact Nat.le_of_ble_eq_true rfl | omega | (simp only [kR, Value.category, kCat_q, List.map, List.sum_cons, List.sum_nil]; omega)) (by first | exact Nat.le_of_ble_eq_true rfl | omega | (simp only [kR, Value.category, kCat_q, List.map, List.sum_cons, List.sum_nil]; omega)) (by first | exact Nat.le_of_ble_eq_true rfl | omega | (simp only [kR, Value.category, kCat_q, List.map, List.sum_cons, List.sum_nil]; omega)) (by first | exact Nat.le_of_ble_eq_true rfl | omega | (simp only [kR, Value.category, kCat_q, List.map, List.sum_cons, List.sum_nil]; omega)) (noE (gCl hj2 ⟨by decide, by decide⟩)) (rdI (rCl3 hj2) ?_)
        refine kK.rei (y := -1) (by rw [hd]; rfl) ?_
        refine k_istore B dL_isSound_91 (by decide) ?_
        try refine kK.set1 (by first | exact True.intro | rfl | exact kCat_q _) ?_
        refine k_lload B dL_isSound_93 rfl ?_
        refine k_aload_n B dL_isSound_95 rfl (by first | exact kRf_r _ | exact kRf_q _ | exact kRf_n) ?_
        refine k_iload B dL_isSound_96 rfl ?_
        refine k_iconst B (v := 0) dL_isSound_98 (by decide) ?_
        refine cl_L_52 B (c_X9_cellOf hl hs h) (h.rv.choose_spec) dL_isSound_99 (by first | exact Nat.le_of_ble_eq_true rfl | omega | (simp only [kR, Value.category, kCat_q, List.map, List.sum_cons, List.sum_nil]; omega)) (by first | exact Nat.le_of_ble_eq_true rfl | omega | (simp only [kR, Value.category, kCat_q, List.map, List.sum_cons, List.sum_nil]; omega)) (by first | exact Nat.le_of_ble_eq_true rfl | omega | (simp only [kR, Value.category, kCat_q, List.map, List.sum_cons, List.sum_nil]; omega)) (by first | exact Nat.le_of_ble_eq_true rfl | omega | (simp only [kR, Value.category, kCat_q, List.map, List.sum_cons, List.sum_nil]; omega)) (by first | exact Nat.le_of_ble_eq_true rfl | omega | (simp only [kR, Value.category, kCat_q, List.map, List.sum_cons, List.sum_nil]; omega)) (noE (gCl hj2 ⟨by decide, by decide⟩)) (rdI (rCl0 hj2) ?_)
        refine k_i2l B dL_isSound_102 ?_
        refine kK.rel (y := nL (unS (sR z j))) (nI_L (by omega)) ?_
        refine k_ladd B dL_isSound_103 ?_
        refine kK.rel (y := nL (suN (fun i => unS (sR z i)) (j + 1))) (nL_add _ _) ?_
        refine k_lstore B dL_isSound_104 (by decide) ?_
        refine k_iload B dL_isSound_106 rfl ?_
        refine k_if_eq B 192 dL_isSound_108 (by decide) (fun c9 => absurd c9 (by decide)) (fun _ => ?_)
        refine k_iload B dL_isSound_111 rfl ?_
        refine k_iload B dL_isSound_113 rfl ?_
        refine k_icmp_ge B 192 dL_isSound_115 (by decide) (fun c9 => absurd c9 (fun q => absurd (Int32.le_trans (nI_pos' (by omega)) q) (by decide))) (fun _ => ?_)
        refine k_aload_n B dL_isSound_118 rfl (by first | exact kRf_r _ | exact kRf_q _ | exact kRf_n) ?_
        refine k_iload B dL_isSound_119 rfl ?_
        refine k_iconst B (v := 4) dL_isSound_121 (by decide) ?_
        refine cl_L_52 B (c_X9_cellOf hl hs h) (h.rv.choose_spec) dL_isSound_122 (by first | exact Nat.le_of_ble_eq_true rfl | omega | (simp only [kR, Value.category, kCat_q, List.map, List.sum_cons, List.sum_nil]; omega)) (by first | exact Nat.le_of_ble_eq_true rfl | omega | (simp only [kR, Value.category, kCat_q, List.map, List.sum_cons, List.sum_nil]; omega)) (by first | exact Nat.le_of_ble_eq_true rfl | omega | (simp only [kR, Value.category, kCat_q, List.map, List.sum_cons, List.sum_nil]; omega)) (by first | exact Nat.le_of_ble_eq_true rfl | omega | (simp only [kR, Value.category, kCat_q, List.map, List.sum_cons, List.sum_nil]; omega)) (by first | exact Nat.le_of_ble_eq_true rfl | omega | (simp only [kR, Value.category, kCat_q, List.map, List.sum_cons, List.sum_nil]; omega)) (noE (gCl hj2 ⟨by decide, by decide⟩)) (rdI (rCl4 hj2) ?_)
        refine k_aload_n B dL_isSound_125 rfl (by first | exact kRf_r _ | exact kRf_q _ | exact kRf_n) ?_
        refine k_iload B dL_isSound_126 rfl ?_
        refine k_iconst B (v := 1) dL_isSound_128 (by decide) ?_
        refine cl_L_52 B (c_X9_cellOf hl hs h) (h.rv.choose_spec) dL_isSound_129 (by first | exact Nat.le_of_ble_eq_true rfl | omega | (simp only [kR, Value.category, kCat_q, List.map, List.sum_cons, List.sum_nil]; omega)) (by first | exact Nat.le_of_ble_eq_true rfl | omega | (simp only [kR, Value.category, kCat_q, List.map, List.sum_cons, List.sum_nil]; omega)) (by first | exact Nat.le_of_ble_eq_true rfl | omega | (simp only [kR, Value.category, kCat_q, List.map, List.sum_cons, List.sum_nil]; omega)) (by first | exact Nat.le_of_ble_eq_true rfl | omega | (simp only [kR, Value.category, kCat_q, List.map, List.sum_cons, List.sum_nil]; omega)) (by first | exact Nat.le_of_ble_eq_true rfl | omega | (simp only [kR, Value.category, kCat_q, List.map, List.sum_cons, List.sum_nil]; omega)) (noE (gCl hj2 ⟨by decide, by decide⟩)) (rdI (rCl1 hj2) ?_)
        refine k_iload B dL_isSound_132 rfl ?_
        refine k_if_ge B 141 dL_isSound_134 (by decide) (fun c9 => absurd c9 (by decide)) (fun _ => ?_)
        refine k_iconst B (v := 0) dL_isSound_137 (by decide) ?_
        refine k_goto B 148 dL_isSound_138 (by decide) ?_
        refine k_iadd B dL_isSound_148 ?_
        refine k_icmp_ne B 192 dL_isSound_149 (by decide) (fun c9 => (c9 (by rw [trv_none hd, ← nI_add]; rfl)).elim) (fun _ => ?_)
        refine kK.sub (L2 := [some (.ref aO), some (.ref ac), some (.ref aw), some (.ref ah), some (.long (nL (suN (fun i => unS (sR z i)) (j + 1)))), none, some (.long (nL 0)), none, some (.int 1), some (.int (nI j)), some (.int (fyS (sR z j))), none]) ⟨Or.inr rfl, Or.inr rfl, Or.inr rfl, Or.inr rfl, Or.inr rfl, Or.inl rfl, Or.inr rfl, Or.inl rfl, Or.inr rfl, Or.inr rfl, Or.inr rfl, Or.inl rfl, trivial⟩ ?_
        exact kK.widen (by omega) (by omega) mid
      | some d =>
        have hdj := hs.low j d hj2 hd
        have hd10 : d < 10 := by omega
        refine k_iload B dL_isSound_67 rfl ?_
        refine k_bipush B (v := 10) dL_isSound_69 (by decide) ?_
        refine k_icmp_ge B 201 dL_isSound_71 (by decide) (fun c9 => absurd c9 (fun q => nI_ge hj2 (by decide) q)) (fun _ => ?_)
        refine k_aload_n B dL_isSound_74 rfl (by first | exact kRf_r _ | exact kRf_q _ | exact kRf_n) ?_
        refine k_iload B dL_isSound_75 rfl ?_
        refine k_bipush B (v := 6) dL_isSound_77 (by decide) ?_
        refine cl_L_52 B (c_X9_cellOf hl hs h) (h.rv.choose_spec) dL_isSound_79 (by first | exact Nat.le_of_ble_eq_true rfl | omega | (simp only [kR, Value.category, kCat_q, List.map, List.sum_cons, List.sum_nil]; omega)) (by first | exact Nat.le_of_ble_eq_true rfl | omega | (simp only [kR, Value.category, kCat_q, List.map, List.sum_cons, List.sum_nil]; omega)) (by first | exact Nat.le_of_ble_eq_true rfl | omega | (simp only [kR, Value.category, kCat_q, List.map, List.sum_cons, List.sum_nil]; omega)) (by first | exact Nat.le_of_ble_eq_true rfl | omega | (simp only [kR, Value.category, kCat_q, List.map, List.sum_cons, List.sum_nil]; omega)) (by first | exact Nat.le_of_ble_eq_true rfl | omega | (simp only [kR, Value.category, kCat_q, List.map, List.sum_cons, List.sum_nil]; omega)) (noE (gCl hj2 ⟨by decide, by decide⟩)) (rdI (rCl6 hj2) ?_)
        refine k_istore B dL_isSound_82 (by decide) ?_
        try refine kK.set1 (by first | exact True.intro | rfl | exact kCat_q _) ?_
        refine k_aload_n B dL_isSound_84 rfl (by first | exact kRf_r _ | exact kRf_q _ | exact kRf_n) ?_
        refine k_iload B dL_isSound_85 rfl ?_
        refine k_iconst B (v := 3) dL_isSound_87 (by decide) ?_
        refine cl_L_52 B (c_X9_cellOf hl hs h) (h.rv.choose_spec) dL_isSound_88 (by first | exact Nat.le_of_ble_eq_true rfl | omega | (simp only [kR, Value.category, kCat_q, List.map, List.sum_cons, List.sum_nil]; omega)) (by first | exact Nat.le_of_ble_eq_true rfl | omega | (simp only [kR, Value.category, kCat_q, List.map, List.sum_cons, List.sum_nil]; omega)) (by first | exact Nat.le_of_ble_eq_true rfl | omega | (simp only [kR, Value.category, kCat_q, List.map, List.sum_cons, List.sum_nil]; omega)) (by first | exact Nat.le_of_ble_eq_true rfl | omega | (simp only [kR, Value.category, kCat_q, List.map, List.sum_cons, List.sum_nil]; omega)) (by first | exact Nat.le_of_ble_eq_true rfl | omega | (simp only [kR, Value.category, kCat_q, List.map, List.sum_cons, List.sum_nil]; omega)) (noE (gCl hj2 ⟨by decide, by decide⟩)) (rdI (rCl3 hj2) ?_)
        refine kK.rei (y := nI d) (by rw [hd]; rfl) ?_
        refine k_istore B dL_isSound_91 (by decide) ?_
        try refine kK.set1 (by first | exact True.intro | rfl | exact kCat_q _) ?_
        refine k_lload B dL_isSound_93 rfl ?_
        refine k_aload_n B dL_isSound_95 rfl (by first | exact kRf_r _ | exact kRf_q _ | exact kRf_n) ?_
        refine k_iload B dL_isSound_96 rfl ?_
        refine k_iconst B (v := 0) dL_isSound_98 (by decide) ?_
        refine cl_L_52 B (c_X9_cellOf hl hs h) (h.rv.choose_spec) dL_isSound_99 (by first | exact Nat.le_of_ble_eq_true rfl | omega | (simp only [kR, Value.category, kCat_q, List.map, List.sum_cons, List.sum_nil]; omega)) (by first | exact Nat.le_of_ble_eq_true rfl | omega | (simp only [kR, Value.category, kCat_q, List.map, List.sum_cons, List.sum_nil]; omega)) (by first | exact Nat.le_of_ble_eq_true rfl | omega | (simp only [kR, Value.category, kCat_q, List.map, List.sum_cons, List.sum_nil]; omega)) (by first | exact Nat.le_of_ble_eq_true rfl | omega | (simp only [kR, Value.category, kCat_q, List.map, List.sum_cons, List.sum_nil]; omega)) (by first | exact Nat.le_of_ble_eq_true rfl | omega | (simp only [kR, Value.category, kCat_q, List.map, List.sum_cons, List.sum_nil]; omega)) (noE (gCl hj2 ⟨by decide, by decide⟩)) (rdI (rCl0 hj2) ?_)
        refine k_i2l B dL_isSound_102 ?_
        refine kK.rel (y := nL (unS (sR z j))) (nI_L (by omega)) ?_
        refine k_ladd B dL_isSound_103 ?_
        refine kK.rel (y := nL (suN (fun i => unS (sR z i)) (j + 1))) (nL_add _ _) ?_
        refine k_lstore B dL_isSound_104 (by decide) ?_
        refine k_iload B dL_isSound_106 rfl ?_
        refine k_if_eq B 192 dL_isSound_108 (by decide) (fun c9 => absurd c9 (by decide)) (fun _ => ?_)
        refine k_iload B dL_isSound_111 rfl ?_
        refine k_iload B dL_isSound_113 rfl ?_
        refine k_icmp_ge B 192 dL_isSound_115 (by decide) (fun c9 => absurd c9 (fun q => nI_ge hdj (by omega) q)) (fun _ => ?_)
        refine k_aload_n B dL_isSound_118 rfl (by first | exact kRf_r _ | exact kRf_q _ | exact kRf_n) ?_
        refine k_iload B dL_isSound_119 rfl ?_
        refine k_iconst B (v := 4) dL_isSound_121 (by decide) ?_
        refine cl_L_52 B (c_X9_cellOf hl hs h) (h.rv.choose_spec) dL_isSound_122 (by first | exact Nat.le_of_ble_eq_true rfl | omega | (simp only [kR, Value.category, kCat_q, List.map, List.sum_cons, List.sum_nil]; omega)) (by first | exact Nat.le_of_ble_eq_true rfl | omega | (simp only [kR, Value.category, kCat_q, List.map, List.sum_cons, List.sum_nil]; omega)) (by first | exact Nat.le_of_ble_eq_true rfl | omega | (simp only [kR, Value.category, kCat_q, List.map, List.sum_cons, List.sum_nil]; omega)) (by first | exact Nat.le_of_ble_eq_true rfl | omega | (simp only [kR, Value.category, kCat_q, List.map, List.sum_cons, List.sum_nil]; omega)) (by first | exact Nat.le_of_ble_eq_true rfl | omega | (simp only [kR, Value.category, kCat_q, List.map, List.sum_cons, List.sum_nil]; omega)) (noE (gCl hj2 ⟨by decide, by decide⟩)) (rdI (rCl4 hj2) ?_)
        refine k_aload_n B dL_isSound_125 rfl (by first | exact kRf_r _ | exact kRf_q _ | exact kRf_n) ?_
        refine k_iload B dL_isSound_126 rfl ?_
        refine k_iconst B (v := 1) dL_isSound_128 (by decide) ?_
        refine cl_L_52 B (c_X9_cellOf hl hs h) (h.rv.choose_spec) dL_isSound_129 (by first | exact Nat.le_of_ble_eq_true rfl | omega | (simp only [kR, Value.category, kCat_q, List.map, List.sum_cons, List.sum_nil]; omega)) (by first | exact Nat.le_of_ble_eq_true rfl | omega | (simp only [kR, Value.category, kCat_q, List.map, List.sum_cons, List.sum_nil]; omega)) (by first | exact Nat.le_of_ble_eq_true rfl | omega | (simp only [kR, Value.category, kCat_q, List.map, List.sum_cons, List.sum_nil]; omega)) (by first | exact Nat.le_of_ble_eq_true rfl | omega | (simp only [kR, Value.category, kCat_q, List.map, List.sum_cons, List.sum_nil]; omega)) (by first | exact Nat.le_of_ble_eq_true rfl | omega | (simp only [kR, Value.category, kCat_q, List.map, List.sum_cons, List.sum_nil]; omega)) (noE (gCl hj2 ⟨by decide, by decide⟩)) (rdI (rCl1 hj2) ?_)
        refine k_iload B dL_isSound_132 rfl ?_
        refine k_if_ge B 141 dL_isSound_134 (by decide) (fun _ => ?_) (fun c9 => (c9 (nI_pos' (by omega))).elim)
        refine k_aload_n B dL_isSound_141 rfl (by first | exact kRf_r _ | exact kRf_q _ | exact kRf_n) ?_
        refine k_iload B dL_isSound_142 rfl ?_
        refine k_iconst B (v := 4) dL_isSound_144 (by decide) ?_
        refine cl_L_52 B (c_X9_cellOf hl hs h) (h.rv.choose_spec) dL_isSound_145 (by first | exact Nat.le_of_ble_eq_true rfl | omega | (simp only [kR, Value.category, kCat_q, List.map, List.sum_cons, List.sum_nil]; omega)) (by first | exact Nat.le_of_ble_eq_true rfl | omega | (simp only [kR, Value.category, kCat_q, List.map, List.sum_cons, List.sum_nil]; omega)) (by first | exact Nat.le_of_ble_eq_true rfl | omega | (simp only [kR, Value.category, kCat_q, List.map, List.sum_cons, List.sum_nil]; omega)) (by first | exact Nat.le_of_ble_eq_true rfl | omega | (simp only [kR, Value.category, kCat_q, List.map, List.sum_cons, List.sum_nil]; omega)) (by first | exact Nat.le_of_ble_eq_true rfl | omega | (simp only [kR, Value.category, kCat_q, List.map, List.sum_cons, List.sum_nil]; omega)) (noE (gCl hd10 ⟨by decide, by decide⟩)) (rdI (rCl4 hd10) ?_)
        refine k_iadd B dL_isSound_148 ?_
        refine k_icmp_ne B 192 dL_isSound_149 (by decide) (fun c9 => (c9 (by rw [trv_some hs.low hj2 hd, ← nI_add])).elim) (fun _ => ?_)
        refine kK.sub (L2 := [some (.ref aO), some (.ref ac), some (.ref aw), some (.ref ah), some (.long (nL (suN (fun i => unS (sR z i)) (j + 1)))), none, some (.long (nL 0)), none, some (.int 1), some (.int (nI j)), some (.int (fyS (sR z j))), none]) ⟨Or.inr rfl, Or.inr rfl, Or.inr rfl, Or.inr rfl, Or.inr rfl, Or.inl rfl, Or.inr rfl, Or.inl rfl, Or.inr rfl, Or.inr rfl, Or.inr rfl, Or.inl rfl, trivial⟩ ?_
        exact kK.widen (by omega) (by omega) mid
  refine k_lconst B (v := 0) dL_isSound_0 (by decide) ?_
  refine k_lstore B dL_isSound_1 (by decide) ?_
  refine k_lconst B (v := 0) dL_isSound_3 (by decide) ?_
  refine k_lstore B dL_isSound_4 (by decide) ?_
  refine k_aload_n B dL_isSound_6 rfl (by first | exact kRf_r _ | exact kRf_q _ | exact kRf_n) ?_
  refine cl_L_82 B (c_X9_year hl h) (h.rv.choose_spec) dL_isSound_7 (by first | exact Nat.le_of_ble_eq_true rfl | omega | (simp only [kR, Value.category, kCat_q, List.map, List.sum_cons, List.sum_nil]; omega)) (by first | exact Nat.le_of_ble_eq_true rfl | omega | (simp only [kR, Value.category, kCat_q, List.map, List.sum_cons, List.sum_nil]; omega)) (by first | exact Nat.le_of_ble_eq_true rfl | omega | (simp only [kR, Value.category, kCat_q, List.map, List.sum_cons, List.sum_nil]; omega)) (by first | exact Nat.le_of_ble_eq_true rfl | omega | (simp only [kR, Value.category, kCat_q, List.map, List.sum_cons, List.sum_nil]; omega)) (by first | exact Nat.le_of_ble_eq_true rfl | omega | (simp only [kR, Value.category, kCat_q, List.map, List.sum_cons, List.sum_nil]; omega)) (fun _ hx => hx.elim) (rdV ?_)
  refine k_aload_n B dL_isSound_10 rfl (by first | exact kRf_r _ | exact kRf_q _ | exact kRf_n) ?_
  refine k_iconst B (v := 0) dL_isSound_11 (by decide) ?_
  refine k_ald B 0 dL_isSound_12 hc (by rfl) (by first | omega | decide) (by decide) (c0) ?_
  refine k_icmp_ne B 61 dL_isSound_13 (by decide) (fun c9 => (c9 (rfl)).elim) (fun _ => ?_)
  refine k_aload_n B dL_isSound_16 rfl (by first | exact kRf_r _ | exact kRf_q _ | exact kRf_n) ?_
  refine k_iconst B (v := 0) dL_isSound_17 (by decide) ?_
  refine cl_L_86 B (c_X9_sum hl hs h) (h.rv.choose_spec) dL_isSound_18 (by first | exact Nat.le_of_ble_eq_true rfl | omega | (simp only [kR, Value.category, kCat_q, List.map, List.sum_cons, List.sum_nil]; omega)) (by first | exact Nat.le_of_ble_eq_true rfl | omega | (simp only [kR, Value.category, kCat_q, List.map, List.sum_cons, List.sum_nil]; omega)) (by first | exact Nat.le_of_ble_eq_true rfl | omega | (simp only [kR, Value.category, kCat_q, List.map, List.sum_cons, List.sum_nil]; omega)) (by first | exact Nat.le_of_ble_eq_true rfl | omega | (simp only [kR, Value.category, kCat_q, List.map, List.sum_cons, List.sum_nil]; omega)) (by first | exact Nat.le_of_ble_eq_true rfl | omega | (simp only [kR, Value.category, kCat_q, List.map, List.sum_cons, List.sum_nil]; omega)) (noE (gRg_p ⟨by decide, by decide⟩)) (rdL rSu0 ?_)
  refine k_aload_n B dL_isSound_21 rfl (by first | exact kRf_r _ | exact kRf_q _ | exact kRf_n) ?_
  refine k_iconst B (v := 1) dL_isSound_22 (by decide) ?_
  refine cl_L_86 B (c_X9_sum hl hs h) (h.rv.choose_spec) dL_isSound_23 (by first | exact Nat.le_of_ble_eq_true rfl | omega | (simp only [kR, Value.category, kCat_q, List.map, List.sum_cons, List.sum_nil]; omega)) (by first | exact Nat.le_of_ble_eq_true rfl | omega | (simp only [kR, Value.category, kCat_q, List.map, List.sum_cons, List.sum_nil]; omega)) (by first | exact Nat.le_of_ble_eq_true rfl | omega | (simp only [kR, Value.category, kCat_q, List.map, List.sum_cons, List.sum_nil]; omega)) (by first | exact Nat.le_of_ble_eq_true rfl | omega | (simp only [kR, Value.category, kCat_q, List.map, List.sum_cons, List.sum_nil]; omega)) (by first | exact Nat.le_of_ble_eq_true rfl | omega | (simp only [kR, Value.category, kCat_q, List.map, List.sum_cons, List.sum_nil]; omega)) (noE (gRg_p ⟨by decide, by decide⟩)) (rdL rSu1 ?_)
  refine k_aload_n B dL_isSound_26 rfl (by first | exact kRf_r _ | exact kRf_q _ | exact kRf_n) ?_
  refine k_iconst B (v := 2) dL_isSound_27 (by decide) ?_
  refine cl_L_86 B (c_X9_sum hl hs h) (h.rv.choose_spec) dL_isSound_28 (by first | exact Nat.le_of_ble_eq_true rfl | omega | (simp only [kR, Value.category, kCat_q, List.map, List.sum_cons, List.sum_nil]; omega)) (by first | exact Nat.le_of_ble_eq_true rfl | omega | (simp only [kR, Value.category, kCat_q, List.map, List.sum_cons, List.sum_nil]; omega)) (by first | exact Nat.le_of_ble_eq_true rfl | omega | (simp only [kR, Value.category, kCat_q, List.map, List.sum_cons, List.sum_nil]; omega)) (by first | exact Nat.le_of_ble_eq_true rfl | omega | (simp only [kR, Value.category, kCat_q, List.map, List.sum_cons, List.sum_nil]; omega)) (by first | exact Nat.le_of_ble_eq_true rfl | omega | (simp only [kR, Value.category, kCat_q, List.map, List.sum_cons, List.sum_nil]; omega)) (noE (gRg_p ⟨by decide, by decide⟩)) (rdL rSu2 ?_)
  refine k_ladd B dL_isSound_31 ?_
  refine kK.rel (y := nL (fIn z + sSpr z)) (nL_add _ _) ?_
  refine k_aload_n B dL_isSound_32 rfl (by first | exact kRf_r _ | exact kRf_q _ | exact kRf_n) ?_
  refine k_iconst B (v := 3) dL_isSound_33 (by decide) ?_
  refine cl_L_86 B (c_X9_sum hl hs h) (h.rv.choose_spec) dL_isSound_34 (by first | exact Nat.le_of_ble_eq_true rfl | omega | (simp only [kR, Value.category, kCat_q, List.map, List.sum_cons, List.sum_nil]; omega)) (by first | exact Nat.le_of_ble_eq_true rfl | omega | (simp only [kR, Value.category, kCat_q, List.map, List.sum_cons, List.sum_nil]; omega)) (by first | exact Nat.le_of_ble_eq_true rfl | omega | (simp only [kR, Value.category, kCat_q, List.map, List.sum_cons, List.sum_nil]; omega)) (by first | exact Nat.le_of_ble_eq_true rfl | omega | (simp only [kR, Value.category, kCat_q, List.map, List.sum_cons, List.sum_nil]; omega)) (by first | exact Nat.le_of_ble_eq_true rfl | omega | (simp only [kR, Value.category, kCat_q, List.map, List.sum_cons, List.sum_nil]; omega)) (noE (gRg_p ⟨by decide, by decide⟩)) (rdL rSu3 ?_)
  refine k_ladd B dL_isSound_37 ?_
  refine kK.rel (y := nL (fIn z + sSpr z + fBot z)) (nL_add _ _) ?_
  refine k_lcmp B dL_isSound_38 ?_
  refine k_if_ne B 61 dL_isSound_39 (by decide) (fun c9 => (c9 ((lg_cmp_eq _ _).mpr (by rw [hz.2.2.2]))).elim) (fun _ => ?_)
  refine k_aload_n B dL_isSound_42 rfl (by first | exact kRf_r _ | exact kRf_q _ | exact kRf_n) ?_
  refine k_bipush B (v := 7) dL_isSound_43 (by decide) ?_
  refine k_aload_n B dL_isSound_45 rfl (by first | exact kRf_r _ | exact kRf_q _ | exact kRf_n) ?_
  refine k_iconst B (v := 2) dL_isSound_46 (by decide) ?_
  refine k_ald B 2 dL_isSound_47 hc (by rfl) (by first | omega | decide) (by decide) (c2) ?_
  refine k_iconst B (v := 0) dL_isSound_48 (by decide) ?_
  refine cl_L_90 B (c_L_asks7 hl hs h) dL_isSound_49 (by first | exact Nat.le_of_ble_eq_true rfl | omega | (simp only [kR, Value.category, kCat_q, List.map, List.sum_cons, List.sum_nil]; omega)) (by first | exact Nat.le_of_ble_eq_true rfl | omega | (simp only [kR, Value.category, kCat_q, List.map, List.sum_cons, List.sum_nil]; omega)) (by first | exact Nat.le_of_ble_eq_true rfl | omega | (simp only [kR, Value.category, kCat_q, List.map, List.sum_cons, List.sum_nil]; omega)) (by first | exact Nat.le_of_ble_eq_true rfl | omega | (simp only [kR, Value.category, kCat_q, List.map, List.sum_cons, List.sum_nil]; omega)) (by first | exact Nat.le_of_ble_eq_true rfl | omega | (simp only [kR, Value.category, kCat_q, List.map, List.sum_cons, List.sum_nil]; omega)) (fun _ hx => hx.elim) (fun v49 s49 hp49 => ?_)
  rcases hp49 with ⟨g, -⟩ | ⟨E, hE, rfl, e49⟩
  · rw [ask_l h40] at g; cases g
  · rw [ask_l h40] at hE
    cases hE
    rw [e49]
    refine kK.rev (y := .int (-70007)) (by rw [aCd_I]) ?_
    refine k_ldc B qw626 dL_isSound_52 ?_
    refine k_icmp_ne B 61 dL_isSound_54 (by decide) (fun c9 => (c9 (rfl)).elim) (fun _ => ?_)
    refine k_iconst B (v := 1) dL_isSound_57 (by decide) ?_
    refine k_goto B 62 dL_isSound_58 (by decide) ?_
    refine k_istore B dL_isSound_62 (by decide) ?_
    try refine kK.set1 (by first | exact True.intro | rfl | exact kCat_q _) ?_
    refine k_iconst B (v := 0) dL_isSound_64 (by decide) ?_
    refine k_istore B dL_isSound_65 (by decide) ?_
    try refine kK.set1 (by first | exact True.intro | rfl | exact kCat_q _) ?_
    refine kK.sub (L2 := [some (.ref aO), some (.ref ac), some (.ref aw), some (.ref ah), some (.long (nL (suN (fun i => unS (sR z i)) 0))), none, some (.long (nL 0)), none, some (.int 1), some (.int (nI 0)), none, none]) ⟨Or.inr rfl, Or.inr rfl, Or.inr rfl, Or.inr rfl, Or.inr rfl, Or.inl rfl, Or.inr rfl, Or.inl rfl, Or.inr rfl, Or.inr ((by rw [nI_0])), Or.inl rfl, Or.inl rfl, trivial⟩ ?_
    exact kK.widen (by omega) (by omega) (loop1 10 0 (by omega))
end Sound
