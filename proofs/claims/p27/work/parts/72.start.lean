theorem arr_prim {ty : FieldType} {args : Array Value} {s : State} (h : (Cond.arrayClass ty).before args s = true) (hp : ∀ C, ty ≠ .object C) : ∃ cA : ClassId, ArrOfT s cA ty ∧ va_RA s cA ty := by
  obtain ⟨cA, kA, comp, h1, h2, h3⟩ := Cond.arrayClass_spec h
  refine ⟨cA, fun n z => ⟨fun k h => (by cases h), kA, h2, comp, h3⟩, ?_⟩
  unfold va_RA
  split
  · rename_i C
    exact absurd rfl (hp C)
  · exact h1
theorem arr_obj {C : String} {args : Array Value} {s : State} (h : (Cond.arrayOver (.object C)).before args s = true) : ∃ cA : ClassId, ArrOfT s cA (.object C) ∧ va_RA s cA (.object C) := by
  obtain ⟨comp, cA, kA, h1, h2, h3, h4, h5⟩ := Cond.arrayOver_spec h
  exact ⟨cA, fun n z => ⟨fun k h => (by cases h), kA, h3, comp, h4⟩, kA, comp, h3, h4, h1, h5⟩
theorem str_k {own tx : String} {k : Nat} {args : Array Value} {s : State} (h1 : (Cond.stringRef own k tx).before args s = true) (h2 : (Cond.exactly (Term.string own k) "java/lang/String").before args s = true) : ∃ a, vk_R own k tx a s := by
  obtain ⟨a, cB, cell, kB, hb, -⟩ := Cond.exactly_spec h2
  exact ⟨a, vk_R.of h1 hb⟩
/-- the law's end, whatever cells of its own it has written -/
theorem lw_retL {p : Program} {l : Launch} {e : Env} {s : State} {m : MethodId} {below : List Frame} {meth : Method} {c : Code} {b : Nat} {d0 : Drawn} (hd0 : s.drawn.sameBut d0 lw_cs) (hx : p.tables.exec = Jvm.exec) (hb : c.code = code) (hr : meth.sig.returnType = ret) (hlocks : meth.locks = false) {pc : Nat} {H : Heap} {ls : Array Slot} {locs : List Loc} {k n : Nat} (hlocs : ∀ x ∈ locs, s.heap.size ≤ x.base) (hk : k ≤ room_1.cells) (hn : n ≤ room_1.slots) (hdg : decode code pc = .ok (.ireturn, 1)) : W p l e room_1 (s.setDrawn d0) m #[Value.ref b] below meth c H locs k n (lw_Z below #[Value.ref b] s) (F0 m pc ls [.int 1]) := by
  intro T hT X
  obtain ⟨fs, hret, hrun, hended, hW, hframe⟩ := X.leave (v := some (.int 1)) (hlocks := hlocks) (fun h => by rw [hr] at h; cases h)
  have hmeth' : T.vm.method? m = some meth := X.method'
  refine ⟨T.setFrames fs, ?_, .returned (some (.int 1)), hrun, hended, rfl, lw_closed hd0 ⟨_, rfl⟩ hW (hframe.weaken (l' := []) (fun x hx2 hlt => absurd hlt (Nat.not_lt.mpr (hlocs x hx2))) hk hn)⟩
  jvm_step X.here [X.here.top, hx, hb, hdg, hmeth', hr, ret, narrow_b1]
  (try refine ⟨rfl, ?_⟩); (try refine ⟨rfl, ?_⟩)
  first | (intro acts; rw [hret _ acts rfl rfl rfl]) | rw [hret _ _ rfl rfl rfl]
  exact Steps.refl _
set_option maxHeartbeats 4000000 in
set_option maxRecDepth 100000 in
theorem whole_start {p : Program} {e : Env} {s : State} {m : MethodId} {below : List Frame} {meth : Method} {c : Code} (l : Launch) (hflags : l.flags = flags0) {b L : Nat} {xs : Nat → Int32} (hL : L ≤ 260) (C0 : lw_At p s m meth c b L xs) : W p l e room_1 s m #[Value.ref b] below meth c s.heap [] 0 0 (lw_Z below #[Value.ref b] s) (entryFrame m ([Value.ref b] : List Value).toArray 1) := by
  obtain ⟨hx, hb, hr, hml, hown, hts, hX, hbl, hlocks, hgv⟩ := id C0
  have hl : l.stackTraces = false := by
    unfold Launch.stackTraces
    rw [hflags]
    decide
  have htb : ∀ w ∈ TB, w.before #[Value.ref b] s = true := tb_hts hts
  have htn : ∀ w ∈ TN, w.before #[Value.ref b] s = true := fun w hw => hts w (List.mem_filter.mp hw).1
  have hs := flat_of_before _ hgv
  obtain ⟨c0, i0, hK0⟩ := u_known (C := RX0) (T := TX0) (N := 8) (n := 8) htb inT0 (htb _ qw52)
  obtain ⟨c1, i1, hK1⟩ := u_known (C := RX1) (T := TX1) (N := 4) (n := 4) htb inT1 (htb _ qw115)
  obtain ⟨c2, i2, hK2⟩ := u_known (C := RX2) (T := TX2) (N := 7) (n := 7) htb inT2 (htb _ qw528)
  obtain ⟨c3, i3, hK3⟩ := u_known (C := RX3) (T := TX3) (N := 4) (n := 4) htb inT3 (htb _ qw438)
  obtain ⟨c4, i4, hK4⟩ := u_known (C := RX4) (T := TX4) (N := 3) (n := 3) htb inT4 (htb _ qw759)
  obtain ⟨c5, i5, hK5⟩ := u_known (C := RX5) (T := TX5) (N := 6) (n := 6) htb inT5 (htb _ qw398)
  obtain ⟨c6, i6, hK6⟩ := u_known (C := RX6) (T := TX6) (N := 3) (n := 3) htb inT6 (htb _ qw58)
  obtain ⟨c7, i7, hK7⟩ := u_known (C := RX7) (T := TX7) (N := 4) (n := 4) htb inT7 (htb _ qw122)
  obtain ⟨c8, i8, hK8⟩ := u_known (C := RX8) (T := TX8) (N := 3) (n := 3) htb inT8 (htb _ qw650)
  obtain ⟨c9, i9, hK9⟩ := u_known (C := RX9) (T := TX9) (N := 17) (n := 17) htb inT9 (htb _ qw43)
  obtain ⟨c11, hA11⟩ := arr_prim (ty := .int) (htb _ qw293) (fun C h => by cases h)
  obtain ⟨c15, hA15⟩ := arr_obj (C := RX0) (htn _ aoT0)
  obtain ⟨c16, hA16⟩ := arr_obj (C := RX8) (htn _ aoT8)
  obtain ⟨c17, hA17⟩ := arr_obj (C := RX2) (htn _ aoT2)
  obtain ⟨c18, hA18⟩ := arr_obj (C := RX7) (htn _ aoT7)
  obtain ⟨D, hDD⟩ : ∃ D : va_G, va_K D vwCl (kTys D) s := by
    refine ⟨(fun k => if k = 0 then c0 else if k = 1 then c1 else if k = 2 then c2 else if k = 3 then c3 else if k = 4 then c4 else if k = 5 then c5 else if k = 6 then c6 else if k = 7 then c7 else if k = 8 then c8 else if k = 9 then c9 else if k = 11 then c11 else if k = 15 then c15 else if k = 16 then c16 else if k = 17 then c17 else c18, fun k => if k = 0 then i0 else if k = 1 then i1 else if k = 2 then i2 else if k = 3 then i3 else if k = 4 then i4 else if k = 5 then i5 else if k = 6 then i6 else if k = 7 then i7 else if k = 8 then i8 else i9), ?_, ?_⟩
    · intro k q hq
      match k, hq with
      | 0, hq => cases hq; exact hK0
      | 1, hq => cases hq; exact hK1
      | 2, hq => cases hq; exact hK2
      | 3, hq => cases hq; exact hK3
      | 4, hq => cases hq; exact hK4
      | 5, hq => cases hq; exact hK5
      | 6, hq => cases hq; exact hK6
      | 7, hq => cases hq; exact hK7
      | 8, hq => cases hq; exact hK8
      | 9, hq => cases hq; exact hK9
      | k + 10, hq => simp [vwCl] at hq
    · intro k q hq
      match k, hq with
      | 0, hq => cases hq; exact hA11
      | 1, hq => cases hq; exact hA11
      | 2, hq => cases hq; exact hA11
      | 3, hq => cases hq; exact hA11
      | 4, hq => cases hq; exact hA15
      | 5, hq => cases hq; exact hA16
      | 6, hq => cases hq; exact hA17
      | 7, hq => cases hq; exact hA18
      | k + 8, hq => simp [kTys] at hq
  have hA : ∀ q : Nat, s.heap.size ≤ q → (fun q : Nat => s.heap.size ≤ q) q := fun _ h => h
  have hbA : ¬ (fun q : Nat => s.heap.size ≤ q) b := Nat.not_le.mpr hbl
  have hZ : kZ (fun q : Nat => s.heap.size ≤ q) s := by
    refine ⟨vx_Zqof (hts (.laysStatic Bundle.tN "UNASSIGNED_STACK" Bundle.steD) (by decide +kernel)) (hts (.initialized Bundle.tN) (by decide +kernel)) (hs (.isRef (.static Bundle.tN "UNASSIGNED_STACK" Bundle.steD)) (by decide +kernel)) (fun a h => Nat.not_le.mpr h), vx_Zqof (hts (.laysStatic Bundle.tN "SUPPRESSED_SENTINEL" Bundle.listD) (by decide +kernel)) (hts (.initialized Bundle.tN) (by decide +kernel)) (hs (.isRef (.static Bundle.tN "SUPPRESSED_SENTINEL" Bundle.listD)) (by decide +kernel)) (fun a h => Nat.not_le.mpr h), str_k (hts (.stringRef RX9 289 "there is no such number") (by decide +kernel)) (hs (.exactly (.string RX9 289) "java/lang/String") (by decide +kernel)), str_k (hts (.stringRef RX9 296 "an argument is out of range") (by decide +kernel)) (hs (.exactly (.string RX9 296) "java/lang/String") (by decide +kernel)), str_k (hts (.stringRef RX9 301 "this may not be done now") (by decide +kernel)) (hs (.exactly (.string RX9 301) "java/lang/String") (by decide +kernel)), fun w hw => tn_any (List.mem_filter.mp hw).2 rfl (htn w hw), va_Nc.of (hs (.not (.castable "java/lang/IllegalArgumentException" "java/lang/IndexOutOfBoundsException")) (by decide +kernel)), va_Nc.of (hs (.not (.castable "java/lang/IllegalStateException" "java/lang/IndexOutOfBoundsException")) (by decide +kernel)), va_Nc.of (hs (.not (.castable "java/lang/IllegalStateException" "java/lang/IllegalArgumentException")) (by decide +kernel))⟩
  have B : kB p l s m #[Value.ref b] meth c D (fun q : Nat => s.heap.size ≤ q) 1 cL_law RL := ⟨hx, hb, hml, hown, htb, hDD, hA, hZ, hl, hlocks⟩
  rw [lg_entry_eq]
  have go : kK p l e room_1 s m #[Value.ref b] below meth c D (fun q : Nat => s.heap.size ≤ q) 1 (lw_Z below #[Value.ref b] s) (fun _ => none) 0 0 0 [some (.ref b)] [] := by
    refine k_aload_n B dL_law_0 rfl (by first | exact kRf_r _ | exact kRf_q _ | exact kRf_n) ?_
    refine k_iconst B (v := 0) dL_law_1 (by decide) ?_
    refine kK.rei (y := nI 0) nI_0.symm ?_
    refine k_callSs B hX hbl hbA (As := [.ref b, .int (nI 0)]) (c_L_mountain hl hL (by decide)) dL_law_2 rfl qw39 qw40 qw21 qw41 (show yL_mountain.cls = RL ∧ yL_mountain.cls ≠ "java/lang/invoke/MethodHandle" ∧ yL_mountain.cls ≠ "java/lang/invoke/VarHandle" ∧ (parseMethodDescriptor yL_mountain.desc).map (fun d => d.parameters.length) = some 2 from by decide +kernel) (by first | exact Nat.le_of_ble_eq_true rfl | omega | (simp only [kR, Value.category, kCat_q, List.map, List.sum_cons, List.sum_nil]; omega)) (by first | exact Nat.le_of_ble_eq_true rfl | omega | (simp only [kR, Value.category, kCat_q, List.map, List.sum_cons, List.sum_nil]; omega)) (by first | exact Nat.le_of_ble_eq_true rfl | omega | (simp only [kR, Value.category, kCat_q, List.map, List.sum_cons, List.sum_nil]; omega)) (by first | exact Nat.le_of_ble_eq_true rfl | omega | (simp only [kR, Value.category, kCat_q, List.map, List.sum_cons, List.sum_nil]; omega)) (by first | exact Nat.le_of_ble_eq_true rfl | omega | (simp only [kR, Value.category, kCat_q, List.map, List.sum_cons, List.sum_nil]; omega)) (fun _ hx => hx.elim) (fun v2 s2 hp2 => ?_)
    have e2 : v2 = some (.int 1) := hp2
    rw [e2]
    refine kK.st (σ2 := fun _ => none) (fun a x hx => by cases hx) ?_
    refine kK.rev (y := .int 1) rfl ?_
    refine k_if_eq B 32 dL_law_5 (by decide) (fun c9 => absurd c9 (by decide)) (fun _ => ?_)
    refine k_aload_n B dL_law_8 rfl (by first | exact kRf_r _ | exact kRf_q _ | exact kRf_n) ?_
    refine k_sipush B (v := 160) dL_law_9 (by decide) ?_
    refine kK.rei (y := nI 160) rfl ?_
    refine k_callSs B hX hbl hbA (As := [.ref b, .int (nI 160)]) (c_L_mountain hl hL (by decide)) dL_law_12 rfl qw39 qw40 qw21 qw41 (show yL_mountain.cls = RL ∧ yL_mountain.cls ≠ "java/lang/invoke/MethodHandle" ∧ yL_mountain.cls ≠ "java/lang/invoke/VarHandle" ∧ (parseMethodDescriptor yL_mountain.desc).map (fun d => d.parameters.length) = some 2 from by decide +kernel) (by first | exact Nat.le_of_ble_eq_true rfl | omega | (simp only [kR, Value.category, kCat_q, List.map, List.sum_cons, List.sum_nil]; omega)) (by first | exact Nat.le_of_ble_eq_true rfl | omega | (simp only [kR, Value.category, kCat_q, List.map, List.sum_cons, List.sum_nil]; omega)) (by first | exact Nat.le_of_ble_eq_true rfl | omega | (simp only [kR, Value.category, kCat_q, List.map, List.sum_cons, List.sum_nil]; omega)) (by first | exact Nat.le_of_ble_eq_true rfl | omega | (simp only [kR, Value.category, kCat_q, List.map, List.sum_cons, List.sum_nil]; omega)) (by first | exact Nat.le_of_ble_eq_true rfl | omega | (simp only [kR, Value.category, kCat_q, List.map, List.sum_cons, List.sum_nil]; omega)) (fun _ hx => hx.elim) (fun v12 s12 hp12 => ?_)
    have e12 : v12 = some (.int 1) := hp12
    rw [e12]
    refine kK.st (σ2 := fun _ => none) (fun a x hx => by cases hx) ?_
    refine kK.rev (y := .int 1) rfl ?_
    refine k_if_eq B 32 dL_law_15 (by decide) (fun c9 => absurd c9 (by decide)) (fun _ => ?_)
    refine k_aload_n B dL_law_18 rfl (by first | exact kRf_r _ | exact kRf_q _ | exact kRf_n) ?_
    refine k_sipush B (v := 320) dL_law_19 (by decide) ?_
    refine kK.rei (y := nI 320) rfl ?_
    refine k_callSs B hX hbl hbA (As := [.ref b, .int (nI 320)]) (c_L_mountain hl hL (by decide)) dL_law_22 rfl qw39 qw40 qw21 qw41 (show yL_mountain.cls = RL ∧ yL_mountain.cls ≠ "java/lang/invoke/MethodHandle" ∧ yL_mountain.cls ≠ "java/lang/invoke/VarHandle" ∧ (parseMethodDescriptor yL_mountain.desc).map (fun d => d.parameters.length) = some 2 from by decide +kernel) (by first | exact Nat.le_of_ble_eq_true rfl | omega | (simp only [kR, Value.category, kCat_q, List.map, List.sum_cons, List.sum_nil]; omega)) (by first | exact Nat.le_of_ble_eq_true rfl | omega | (simp only [kR, Value.category, kCat_q, List.map, List.sum_cons, List.sum_nil]; omega)) (by first | exact Nat.le_of_ble_eq_true rfl | omega | (simp only [kR, Value.category, kCat_q, List.map, List.sum_cons, List.sum_nil]; omega)) (by first | exact Nat.le_of_ble_eq_true rfl | omega | (simp only [kR, Value.category, kCat_q, List.map, List.sum_cons, List.sum_nil]; omega)) (by first | exact Nat.le_of_ble_eq_true rfl | omega | (simp only [kR, Value.category, kCat_q, List.map, List.sum_cons, List.sum_nil]; omega)) (fun _ hx => hx.elim) (fun v22 s22 hp22 => ?_)
    have e22 : v22 = some (.int 1) := hp22
    rw [e22]
    refine kK.st (σ2 := fun _ => none) (fun a x hx => by cases hx) ?_
    refine kK.rev (y := .int 1) rfl ?_
    refine k_if_eq B 32 dL_law_25 (by decide) (fun c9 => absurd c9 (by decide)) (fun _ => ?_)
    refine k_iconst B (v := 1) dL_law_28 (by decide) ?_
    refine k_goto B 33 dL_law_29 (by decide) ?_
    exact fun H locs ls h1 h2 h3 h4 => W.base (lw_retL (Drawn.sameBut.refl s.drawn lw_cs) hx hb hr hlocks h3.2.2 (by decide) (by decide) dL_law_33)
  exact go s.heap [] _ (fun a x hx => by cases hx) (fun a x hx => by cases hx) va_S.rf (kHas_entry (av := [.ref b]) (fun v hv => by simp at hv; subst hv; rfl) (Nat.le_of_ble_eq_true rfl) rfl)
