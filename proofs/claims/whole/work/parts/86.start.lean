theorem arr_prim {ty : FieldType} {args : Array Value} {s : State} (h : (Cond.arrayClass ty).before args s = true) (hp : ∀ C, ty ≠ .object C) : ∃ cA : ClassId, ArrOfT s cA ty ∧ va_RA s cA ty := by
  obtain ⟨cA, kA, comp, h1, h2, h3⟩ := Cond.arrayClass_spec h
  refine ⟨cA, fun n z => ⟨fun k h => (by cases h), kA, h2, comp, h3⟩, ?_⟩
  unfold va_RA
  split
  · rename_i C
    exact absurd rfl (hp C)
  · exact h1
theorem arr_obj {C : String} {args : Array Value} {s : State} (h : (Cond.arrayOver (.object C)).before args s = true) : ∃ cA : ClassId, ArrOfT s cA (.object C) ∧ va_RA s cA (.object C) := by
  obtain ⟨comp, cA, kA, h1, h2, h3, h4, h5⟩ := Cond.arrayOver_spec h
  exact ⟨cA, fun n z => ⟨fun k h => (by cases h), kA, h3, comp, h4⟩, kA, comp, h3, h4, h1, h5⟩
theorem str_k {own tx : String} {k : Nat} {args : Array Value} {s : State} (h1 : (Cond.stringRef own k tx).before args s = true) (h2 : (Cond.exactly (Term.string own k) "java/lang/String").before args s = true) : ∃ a, vk_R own k tx a s := by
  obtain ⟨a, cB, cell, kB, hb, -⟩ := Cond.exactly_spec h2
  exact ⟨a, vk_R.of h1 hb⟩
/-- the law's end, whatever cells of its own it has written -/
theorem lw_retL {p : Program} {l : Launch} {e : Env} {s : State} {m : MethodId} {below : List Frame} {meth : Method} {c : Code} {b : Nat} {d0 : Drawn} (hd0 : s.drawn.sameBut d0 lw_cs) (hx : p.tables.exec = Jvm.exec) (hb : c.code = code) (hr : meth.sig.returnType = ret) (hlocks : meth.locks = false) {pc : Nat} {H : Heap} {ls : Array Slot} {locs : List Loc} {k n : Nat} (hlocs : ∀ x ∈ locs, s.heap.size ≤ x.base) (hk : k ≤ room_1.cells) (hn : n ≤ room_1.slots) (hdg : decode code pc = .ok (.ireturn, 1)) : W p l e room_1 (s.setDrawn d0) m #[Value.ref b] below meth c H locs k n (lw_Z below #[Value.ref b] s) (F0 m pc ls [.int 1]) := by
  intro T hT X
  obtain ⟨fs, hret, hrun, hended, hW, hframe⟩ := X.leave (v := some (.int 1)) (hlocks := hlocks) (fun h => by rw [hr] at h; cases h)
  have hmeth' : T.vm.method? m = some meth := X.method'
  refine ⟨T.setFrames fs, ?_, .returned (some (.int 1)), hrun, hended, rfl, lw_closed hd0 ⟨_, rfl⟩ hW (hframe.weaken (l' := []) (fun x hx2 hlt => absurd hlt (Nat.not_lt.mpr (hlocs x hx2))) hk hn)⟩
  jvm_step X.here [X.here.top, hx, hb, hdg, hmeth', hr, ret, narrow_b1]
  (try refine ⟨rfl, ?_⟩); (try refine ⟨rfl, ?_⟩)
  first | (intro acts; rw [hret _ acts rfl rfl rfl]) | rw [hret _ _ rfl rfl rfl]
  exact Steps.refl _
theorem ok_st0 : sOk st0 := by
  refine ⟨⟨by decide, by decide, by decide, by decide, by decide⟩, fun i hi => ⟨fun d hd => ?_, by show 1 ≤ 5; decide, by show 5 ≤ 40; decide, Nat.zero_le _, Nat.zero_le _, Nat.zero_le _⟩, ⟨Nat.zero_le _, fun i hi => absurd hi (Nat.not_lt_zero i)⟩, ⟨Nat.zero_le _, fun i hi => absurd hi (Nat.not_lt_zero i)⟩, fun i hi q hq => (by cases hq), ?_, Nat.zero_le _⟩
  · have hd : (if i = 0 then none else some (i - 1)) = some d := hd
    split at hd
    · cases hd
    · cases hd; omega
  · decide

set_option maxHeartbeats 4000000 in
set_option maxRecDepth 100000 in
theorem whole_start {p : Program} {e : Env} {s : State} {m : MethodId} {below : List Frame} {meth : Method} {c : Code} (l : Launch) (hflags : l.flags = flags0) {b L : Nat} {xs : Nat → Int32} (hL : L ≤ 2048) (C0 : lw_At p s m meth c b L xs) : W p l e room_1 s m #[Value.ref b] below meth c s.heap [] 0 0 (lw_Z below #[Value.ref b] s) (entryFrame m ([Value.ref b] : List Value).toArray 9) := by
  obtain ⟨hx, hb, hr, hml, hown, hts, hX, hbl, hlocks, hgv⟩ := id C0
  have hl : l.stackTraces = false := by
    unfold Launch.stackTraces
    rw [hflags]
    decide
  have htb : ∀ w ∈ TB, w.before #[Value.ref b] s = true := tb_hts hts
  have htn : ∀ w ∈ TN, w.before #[Value.ref b] s = true := fun w hw => hts w (List.mem_filter.mp hw).1
  have hs := flat_of_before _ hgv
  obtain ⟨c0, i0, hK0⟩ := u_known (C := RX0) (T := TX0) (N := 8) (n := 8) htb inT0 (htb _ qw71)
  obtain ⟨c1, i1, hK1⟩ := u_known (C := RX1) (T := TX1) (N := 4) (n := 4) htb inT1 (htb _ qw134)
  obtain ⟨c2, i2, hK2⟩ := u_known (C := RX2) (T := TX2) (N := 7) (n := 7) htb inT2 (htb _ qw561)
  obtain ⟨c3, i3, hK3⟩ := u_known (C := RX3) (T := TX3) (N := 4) (n := 4) htb inT3 (htb _ qw463)
  obtain ⟨c4, i4, hK4⟩ := u_known (C := RX4) (T := TX4) (N := 3) (n := 3) htb inT4 (htb _ qw769)
  obtain ⟨c5, i5, hK5⟩ := u_known (C := RX5) (T := TX5) (N := 6) (n := 6) htb inT5 (htb _ qw423)
  obtain ⟨c6, i6, hK6⟩ := u_known (C := RX6) (T := TX6) (N := 3) (n := 3) htb inT6 (htb _ qw77)
  obtain ⟨c7, i7, hK7⟩ := u_known (C := RX7) (T := TX7) (N := 4) (n := 4) htb inT7 (htb _ qw141)
  obtain ⟨c8, i8, hK8⟩ := u_known (C := RX8) (T := TX8) (N := 3) (n := 3) htb inT8 (htb _ qw511)
  obtain ⟨c9, i9, hK9⟩ := u_known (C := RX9) (T := TX9) (N := 17) (n := 17) htb inT9 (htb _ qw62)
  obtain ⟨c10, i10, hK10⟩ := u_known (C := RX10) (T := TX10) (N := 40) (n := 40) htb inT10 (htb _ qw835)
  obtain ⟨c11, hA11⟩ := arr_prim (ty := .int) (htb _ qw961) (fun C h => by cases h)
  obtain ⟨c12, hA12⟩ := arr_prim (ty := .boolean) (htb _ qw962) (fun C h => by cases h)
  obtain ⟨c13, hA13⟩ := arr_prim (ty := .long) (htb _ qw1162) (fun C h => by cases h)
  obtain ⟨c14, hA14⟩ := arr_prim (ty := .double) (htb _ qw1163) (fun C h => by cases h)
  obtain ⟨c15, hA15⟩ := arr_obj (C := RX0) (htn _ aoT0)
  obtain ⟨c16, hA16⟩ := arr_obj (C := RX8) (htn _ aoT8)
  obtain ⟨c17, hA17⟩ := arr_obj (C := RX2) (htn _ aoT2)
  obtain ⟨c18, hA18⟩ := arr_obj (C := RX7) (htn _ aoT7)
  obtain ⟨D, hDD⟩ : ∃ D : va_G, va_K D vwCl (kTys D) s := by
    refine ⟨(fun k => if k = 0 then c0 else if k = 1 then c1 else if k = 2 then c2 else if k = 3 then c3 else if k = 4 then c4 else if k = 5 then c5 else if k = 6 then c6 else if k = 7 then c7 else if k = 8 then c8 else if k = 9 then c9 else if k = 10 then c10 else if k = 11 then c11 else if k = 12 then c12 else if k = 13 then c13 else if k = 14 then c14 else if k = 15 then c15 else if k = 16 then c16 else if k = 17 then c17 else c18, fun k => if k = 0 then i0 else if k = 1 then i1 else if k = 2 then i2 else if k = 3 then i3 else if k = 4 then i4 else if k = 5 then i5 else if k = 6 then i6 else if k = 7 then i7 else if k = 8 then i8 else if k = 9 then i9 else i10), ?_, ?_⟩
    · intro k q hq
      match k, hq with
      | 0, hq => cases hq; exact hK0
      | 1, hq => cases hq; exact hK1
      | 2, hq => cases hq; exact hK2
      | 3, hq => cases hq; exact hK3
      | 4, hq => cases hq; exact hK4
      | 5, hq => cases hq; exact hK5
      | 6, hq => cases hq; exact hK6
      | 7, hq => cases hq; exact hK7
      | 8, hq => cases hq; exact hK8
      | 9, hq => cases hq; exact hK9
      | 10, hq => cases hq; exact hK10
      | k + 11, hq => simp [vwCl] at hq
    · intro k q hq
      match k, hq with
      | 0, hq => cases hq; exact hA11
      | 1, hq => cases hq; exact hA12
      | 2, hq => cases hq; exact hA13
      | 3, hq => cases hq; exact hA14
      | 4, hq => cases hq; exact hA15
      | 5, hq => cases hq; exact hA16
      | 6, hq => cases hq; exact hA17
      | 7, hq => cases hq; exact hA18
      | k + 8, hq => simp [kTys] at hq
  have hA : ∀ q : Nat, s.heap.size ≤ q → (fun q : Nat => s.heap.size ≤ q) q := fun _ h => h
  have hbA : ¬ (fun q : Nat => s.heap.size ≤ q) b := Nat.not_le.mpr hbl
  have hZ : kZ (fun q : Nat => s.heap.size ≤ q) s := by
    refine ⟨vx_Zqof (hts (.laysStatic Bundle.tN "UNASSIGNED_STACK" Bundle.steD) (by decide +kernel)) (hts (.initialized Bundle.tN) (by decide +kernel)) (hs (.isRef (.static Bundle.tN "UNASSIGNED_STACK" Bundle.steD)) (by decide +kernel)) (fun a h => Nat.not_le.mpr h), vx_Zqof (hts (.laysStatic Bundle.tN "SUPPRESSED_SENTINEL" Bundle.listD) (by decide +kernel)) (hts (.initialized Bundle.tN) (by decide +kernel)) (hs (.isRef (.static Bundle.tN "SUPPRESSED_SENTINEL" Bundle.listD)) (by decide +kernel)) (fun a h => Nat.not_le.mpr h), str_k (hts (.stringRef RX9 289 "there is no such number") (by decide +kernel)) (hs (.exactly (.string RX9 289) "java/lang/String") (by decide +kernel)), str_k (hts (.stringRef RX9 296 "an argument is out of range") (by decide +kernel)) (hs (.exactly (.string RX9 296) "java/lang/String") (by decide +kernel)), str_k (hts (.stringRef RX9 301 "this may not be done now") (by decide +kernel)) (hs (.exactly (.string RX9 301) "java/lang/String") (by decide +kernel)), fun w hw => tn_any (List.mem_filter.mp hw).2 rfl (htn w hw), va_Nc.of (hs (.not (.castable "java/lang/IllegalArgumentException" "java/lang/IndexOutOfBoundsException")) (by decide +kernel)), va_Nc.of (hs (.not (.castable "java/lang/IllegalStateException" "java/lang/IndexOutOfBoundsException")) (by decide +kernel)), va_Nc.of (hs (.not (.castable "java/lang/IllegalStateException" "java/lang/IllegalArgumentException")) (by decide +kernel))⟩
  have B : kB p l s m #[Value.ref b] meth c D (fun q : Nat => s.heap.size ≤ q) 9 cL_law RL := ⟨hx, hb, hml, hown, htb, hDD, hA, hZ, hl, hlocks⟩
  have hrc : 20000 ≤ room_1.cells := by decide
  have hrs : 200000 ≤ room_1.slots := by decide
  rw [lg_entry_eq]
  have go : kK p l e room_1 s m #[Value.ref b] below meth c D (fun q : Nat => s.heap.size ≤ q) 9 (lw_Z below #[Value.ref b] s) (fun _ => none) 0 0 0 [some (.ref b), none, none, none, none, none, none, none, none] [] := by
    refine nw_L_8 B dL_law_0 (by first | exact Nat.le_of_ble_eq_true rfl | omega | (simp only [kR, Value.category, kCat_q, List.map, List.sum_cons, List.sum_nil]; omega)) (by first | exact Nat.le_of_ble_eq_true rfl | omega | (simp only [kR, Value.category, kCat_q, List.map, List.sum_cons, List.sum_nil]; omega)) (fun q0 hq0 => ?_)
    refine k_dup B dL_law_3 rfl ?_
    refine cl_L_91 B (c_X9_init hl kUp_eq) dL_law_4 (by first | exact Nat.le_of_ble_eq_true rfl | omega | (simp only [kR, Value.category, kCat_q, List.map, List.sum_cons, List.sum_nil]; omega)) (by first | exact Nat.le_of_ble_eq_true rfl | omega | (simp only [kR, Value.category, kCat_q, List.map, List.sum_cons, List.sum_nil]; omega)) (by first | exact Nat.le_of_ble_eq_true rfl | omega | (simp only [kR, Value.category, kCat_q, List.map, List.sum_cons, List.sum_nil]; omega)) (by first | exact Nat.le_of_ble_eq_true rfl | omega | (simp only [kR, Value.category, kCat_q, List.map, List.sum_cons, List.sum_nil]; omega)) (by first | exact Nat.le_of_ble_eq_true rfl | omega | (simp only [kR, Value.category, kCat_q, List.map, List.sum_cons, List.sum_nil]; omega)) (fun _ hx => hx.elim) (fun v4 s4 hp4 => ?_)
    obtain ⟨rfl, h9, f9, -⟩ := hp4
    refine k_astore_n B dL_law_7 (by decide) (by first | exact kRf_r _ | exact kRf_q _ | exact kRf_n) ?_
    try refine kK.set1 (by first | exact True.intro | rfl | exact kCat_q _) ?_
    refine nw_L_92 B dL_law_8 (by first | exact Nat.le_of_ble_eq_true rfl | omega | (simp only [kR, Value.category, kCat_q, List.map, List.sum_cons, List.sum_nil]; omega)) (by first | exact Nat.le_of_ble_eq_true rfl | omega | (simp only [kR, Value.category, kCat_q, List.map, List.sum_cons, List.sum_nil]; omega)) (fun q8 hq8 => ?_)
    refine k_dup B dL_law_11 rfl ?_
    refine cl_L_94 B (c_X10_init hl kUp_eq) dL_law_12 (by first | exact Nat.le_of_ble_eq_true rfl | omega | (simp only [kR, Value.category, kCat_q, List.map, List.sum_cons, List.sum_nil]; omega)) (by first | exact Nat.le_of_ble_eq_true rfl | omega | (simp only [kR, Value.category, kCat_q, List.map, List.sum_cons, List.sum_nil]; omega)) (by first | exact Nat.le_of_ble_eq_true rfl | omega | (simp only [kR, Value.category, kCat_q, List.map, List.sum_cons, List.sum_nil]; omega)) (by first | exact Nat.le_of_ble_eq_true rfl | omega | (simp only [kR, Value.category, kCat_q, List.map, List.sum_cons, List.sum_nil]; omega)) (by first | exact Nat.le_of_ble_eq_true rfl | omega | (simp only [kR, Value.category, kCat_q, List.map, List.sum_cons, List.sum_nil]; omega)) (fun _ hx => hx.elim) (fun v12 s12 hp12 => ?_)
    obtain ⟨rfl, ⟨ma, h10, hfr⟩, f10⟩ := hp12
    have h9b : cl9 D q0 st0 [] kF0 s12 := h9.keepF (fun a e he hk => f10 a e (kUp_o (kNeN he hq8) he) (fun q => kNeN he hq8 q))
    refine k_astore_n B dL_law_15 (by decide) (by first | exact kRf_r _ | exact kRf_q _ | exact kRf_n) ?_
    try refine kK.set1 (by first | exact True.intro | rfl | exact kCat_q _) ?_
    refine k_iconst B (v := 1) dL_law_16 (by decide) ?_
    refine k_newa B (atype := .long) (ti := 2) rfl rfl (fun C h => by cases h) qw1162 dL_law_17 (N := 1) (a0 := (1, .inr (.inl fun _ => 0))) (fun _ => rfl) (by decide) (by decide) (by decide) (by decide) (by decide) (fun aL haL => ?_)
    have h9c := h9b.keepF (s2 := kUp s12 aL (lArr D fun _ => 0)) (fun a e he _ => kUp_o (kNeN he haL) he)
    have h10c : cl10 D q8 ma st0 0 (kUp s12 aL (lArr D fun _ => 0)) := by
      obtain ⟨mv, kn, Lk, x1, x2⟩ := h10
      exact ⟨mv, kn, Lk, x1.keep (fun a e he _ => kUp_o (kNeN he haL) he), x2⟩
    refine k_astore_n B dL_law_19 (by decide) (by first | exact kRf_r _ | exact kRf_q _ | exact kRf_n) ?_
    try refine kK.set1 (by first | exact True.intro | rfl | exact kCat_q _) ?_
    refine k_iconst B (v := 1) dL_law_20 (by decide) ?_
    refine k_newa B (atype := .double) (ti := 3) rfl rfl (fun C h => by cases h) qw1163 dL_law_21 (N := 1) (a0 := (1, .inr (.inr (.inr (.inl fun _ => 0))))) (fun _ => rfl) (by decide) (by decide) (by decide) (by decide) (by decide) (fun aD haD => ?_)
    have haL2 : kUp s12 aL (lArr D fun _ => 0) aL = some (lArr D fun _ => 0) := kUp_eq
    have h9d := h9c.keepF (s2 := kUp (kUp s12 aL (lArr D fun _ => 0)) aD (dArr D fun _ => 0)) (fun a e he _ => kUp_o (kNeN he haD) he)
    have h10d : cl10 D q8 ma st0 0 (kUp (kUp s12 aL (lArr D fun _ => 0)) aD (dArr D fun _ => 0)) := by
      obtain ⟨mv, kn, Lk, x1, x2⟩ := h10c
      exact ⟨mv, kn, Lk, x1.keep (fun a e he _ => kUp_o (kNeN he haD) he), x2⟩
    refine k_astore B dL_law_23 (by decide) (by first | exact kRf_r _ | exact kRf_q _ | exact kRf_n) ?_
    try refine kK.set1 (by first | exact True.intro | rfl | exact kCat_q _) ?_
    refine k_iconst B (v := 0) dL_law_25 (by decide) ?_
    refine k_istore B dL_law_26 (by decide) ?_
    try refine kK.set1 (by first | exact True.intro | rfl | exact kCat_q _) ?_
    rw [← nI_0]
    exact law_loop B hl hX hbl hbA hrc hrs hL (fun σ2 k2 n2 L2 hk2 hn2 => by
      refine k_iconst B (v := 1) dL_law_1703 (by decide) ?_
      exact fun H locs ls h1 h2 h3 h4 => W.base (lw_retL (Drawn.sameBut.refl s.drawn lw_cs) hx hb hr hlocks h3.2.2 (by omega) (by omega) dL_law_1704)) 512 0 _ _ _ (by omega) (by decide) ⟨st0, [], kF0, 0, ok_st0, jR_st0, h9d, h10d, ⟨_, kUp_o (kNeN haL2 haD) haL2⟩, ⟨_, kUp_eq⟩, by decide, by decide, by decide⟩
  exact go s.heap [] _ (fun a x hx => by cases hx) (fun a x hx => by cases hx) va_S.rf (kHas_entry (av := [.ref b]) (fun v hv => by simp at hv; subst hv; rfl) (Nat.le_of_ble_eq_true rfl) rfl)
