theorem lg_sl_len {av : List Value} (h : ∀ v ∈ av, v.category = 1) : (lg_sl av).length = av.length := by
  induction av with
  | nil => rfl
  | cons a t ih =>
    have ha := h a List.mem_cons_self
    have := ih (fun w hw => h w (List.mem_cons_of_mem _ hw))
    simp only [lg_sl, List.flatMap_cons, ha, List.length_append, List.length_cons] at this ⊢
    simp at this ⊢
    omega
/-- a contract with any head word -/
def kMh (hd : Cond) (l : Launch) (D : va_G) (y : MethodName) (h mc ms : Nat) (av : List Value) (σ : kS) (Post : Option Value → kS → Prop) (PX : String → Prop) : Prop :=
  ∀ sz : Nat, vx_Met l y (hd :: TB) (kR h mc ms) (va_Pc av (fun U => U.heap.size = sz ∧ kOk D σ U.heap ∧ va_K D vwCl (kTys D) U ∧ kZ (kA σ sz) U))
    (fun _ st o t => ∃ (v : Option Value) (σ2 : kS), o = .returned v ∧ Post v σ2 ∧ kOk D σ2 t.heap ∧ (∀ (a : Nat) (x : va_E), σ2 a = some x → kA σ sz a) ∧ va_F (kA σ sz) st t)
    (fun E st t => PX E ∧ kOk D σ t.heap ∧ va_F (kA σ sz) st t) mc ms (kA σ sz)
theorem kPre_blind {av : List Value} {D : va_G} {σ : kS} {sz : Nat} : FrameBlind (va_Pc av (fun U => U.heap.size = sz ∧ kOk D σ U.heap ∧ va_K D vwCl (kTys D) U ∧ kZ (kA σ sz) U)) := fun a U g mk q => by
  obtain ⟨q0, q1, q2, q3, q4⟩ := q
  exact ⟨q0, q1, q2, va_K.moved (u := U) (U := U.calling g mk a) (Vm.Alike.refl U.vm) q3, q4.blind g mk a⟩
section KE
variable {l : Launch} {D : va_G}
theorem kB_of {p : Program} {y : MethodName} {hd : Cond} {σ : kS} {h mc ms maxL : Nat} {ret : Option FieldType} {cc : ByteArray} {e : Env} {s s₁ : State} {m : MethodId} {args : Array Value} {below : List Frame} {meth : Method} {c : Code} (B : BodyLoose p l y (headSpec (hd :: TB) (kR h mc ms)) cc maxL ret e s m args below meth c s₁) (hml : c.maxLocals = maxL) (hl : l.stackTraces = false) (hK : va_K D vwCl (kTys D) s) (hZ : kZ (kA σ s.heap.size) s) : kB p l s m args meth c D (kA σ s.heap.size) maxL cc y.cls :=
  ⟨B.exec, B.bytes, hml, findClass_of_methodNamed B.named, fun w hw => atoms_spec (ws := hd :: TB) B.pre w (List.mem_cons_of_mem _ hw), hK, fun _ hq => Or.inr hq, hZ, hl, B.notSynchronized⟩
theorem kHas_entry {av : List Value} {maxL : Nat} {L : List (Option Value)} (hcat : ∀ v ∈ av, v.category = 1) (hlen : av.length ≤ maxL) (hL : av.map some ++ List.replicate (maxL - av.length) none = L) : kHas ((lg_sl av ++ List.replicate (maxL - (lg_sl av).length) Slot.unset).toArray) maxL L := by
  have h0 := lv_entry av (n := maxL) (by rw [lg_sl_len hcat]; exact hlen)
  refine ⟨h0.1, h0.2.1, fun i v hi => ?_⟩
  subst hL
  have hiv : av[i]? = some v := by
    by_cases q : i < av.length
    · rw [List.getElem?_append_left (by simpa using q), List.getElem?_map] at hi
      cases hv : av[i]? with
      | none => rw [hv] at hi; cases hi
      | some w => rw [hv] at hi; simpa using hi
    · rw [List.getElem?_append_right (by simpa using q), List.getElem?_replicate] at hi
      split at hi <;> cases hi
  have := kEntry hcat 0 i v hiv
  rw [Nat.zero_add] at this
  exact h0.2.2 (i, v) this
theorem kM_of {y : MethodName} {cc : ByteArray} {maxL : Nat} {ret : Option FieldType} {h mc ms : Nat} {av : List Value} {σ : kS} {Post : Option Value → kS → Prop} {PX : String → Prop} (hy : plainName y.cls = true) (hl : l.stackTraces = false) (hcat : ∀ v ∈ av, v.category = 1) (hlen : av.length ≤ maxL) {L : List (Option Value)} (hL : av.map some ++ List.replicate (maxL - av.length) none = L)
    (body : ∀ (p : Program) (e : Env) (s : State) (m : MethodId) (args : Array Value) (below : List Frame) (meth : Method) (c : Code), kB p l s m args meth c D (kA σ s.heap.size) maxL cc y.cls → meth.sig.returnType = ret → (∀ x ∈ c.exceptionTable.toList, False) → meth.name = y.name →
      kK p l e (kR h mc ms) s m args below meth c D (kA σ s.heap.size) maxL (kQ below args s D σ Post PX mc ms) σ 0 0 0 L []) : kMh (.code y cc maxL ret) l D y h mc ms av σ Post PX := by
  intro sz
  refine vx_ofW (cc := cc) (maxL := maxL) (ret := ret) hy rfl ?_
  intro p e s m args below meth c s₁ B hml hex hv
  obtain ⟨rfl, hsz, hok, hK, hZ⟩ := hv
  subst hsz
  rw [lg_entry_eq]
  exact body p e s m av.toArray below meth c (kB_of B hml hl hK hZ) B.returns hex (name_of_methodNamed B.named B.method).1 s.heap [] _ hok (fun a x hx => Or.inl ⟨x, hx⟩) va_S.rf (kHas_entry hcat hlen hL)
theorem kM_ofW {y : MethodName} {cc : ByteArray} {maxL : Nat} {ret : Option FieldType} {hh : List (Nat × Nat × Nat × Nat)} {h mc ms : Nat} {av : List Value} {σ : kS} {Post : Option Value → kS → Prop} {PX : String → Prop} (hy : plainName y.cls = true) (hl : l.stackTraces = false) (hcat : ∀ v ∈ av, v.category = 1) (hlen : av.length ≤ maxL) {L : List (Option Value)} (hL : av.map some ++ List.replicate (maxL - av.length) none = L)
    (body : ∀ (p : Program) (e : Env) (s : State) (m : MethodId) (args : Array Value) (below : List Frame) (meth : Method) (c : Code), kB p l s m args meth c D (kA σ s.heap.size) maxL cc y.cls → meth.sig.returnType = ret → c.exceptionTable.toList = tableOf hh → meth.name = y.name →
      kK p l e (kR h mc ms) s m args below meth c D (kA σ s.heap.size) maxL (kQ below args s D σ Post PX mc ms) σ 0 0 0 L []) : kMh (.codeWith y cc maxL ret hh) l D y h mc ms av σ Post PX := by
  intro sz
  refine vx_ofWH (cc := cc) (maxL := maxL) (ret := ret) (hh := hh) hy rfl ?_
  intro p e s m args below meth c s₁ B hml hv
  obtain ⟨rfl, hsz, hok, hK, hZ⟩ := hv
  subst hsz
  rw [lg_entry_eq]
  exact body p e s m av.toArray below meth c (kB_of B hml hl hK hZ) B.returns (vx_table (x := y) B (atoms_spec (ws := .codeWith y cc maxL ret hh :: TB) B.pre _ List.mem_cons_self)) (name_of_methodNamed B.named B.method).1 s.heap [] _ hok (fun a x hx => Or.inl ⟨x, hx⟩) va_S.rf (kHas_entry hcat hlen hL)
end KE
section KC
variable {p : Program} {l : Launch} {e : Env} {R : Room} {s : State} {m : MethodId} {args : Array Value} {below : List Frame} {meth : Method} {c : Code} {D : va_G} {A : Nat → Prop} {nL : Nat} {Q : State → Prop} {σ : kS} {k n pc : Nat} {L : List (Option Value)} {S : List Value} {cc : ByteArray} {own : String}
/-! ends -/
variable {σ0 : kS} {Post : Option Value → kS → Prop} {PX : String → Prop} {mc ms : Nat}
theorem kQ_q {H : Heap} {locs : List Loc} {t : State} {v : Option Value} (h1 : kOk D σ H) (h2 : ∀ (a : Nat) (x : va_E), σ a = some x → kA σ0 s.heap.size a) (h3 : va_S (kA σ0 s.heap.size) s.heap H locs) (hP : Post v σ) (ht : t.heap = H) : ∃ (w : Option Value) (σ2 : kS), Outcome.returned v = .returned w ∧ Post w σ2 ∧ kOk D σ2 t.heap ∧ (∀ (a : Nat) (x : va_E), σ2 a = some x → kA σ0 s.heap.size a) ∧ va_F (kA σ0 s.heap.size) s t := ⟨v, σ, rfl, hP, by rw [ht]; exact h1, h2, h3.F ht⟩
theorem k_iret (B : kB p l s m args meth c D (kA σ0 s.heap.size) nL cc own) (hr : meth.sig.returnType = some .int) (hd : decode cc pc = .ok (.ireturn, 1)) {v : Int32} (hP : Post (some (.int v)) σ) (hk : k ≤ mc) (hn : n ≤ ms) : kK p l e R s m args below meth c D (kA σ0 s.heap.size) nL (kQ below args s D σ0 Post PX mc ms) σ k n pc L [.int v] := fun H locs ls h1 h2 h3 h4 =>
  W.widen hk hn (vx_ret (W.iret B.1 B.2.1 hr (fun t ht _ => kQ_q h1 h2 h3 hP ht) h3.2.2 hd B.2.2.2.2.2.2.2.2.2))
theorem k_zret (B : kB p l s m args meth c D (kA σ0 s.heap.size) nL cc own) (hr : meth.sig.returnType = some .boolean) (hd : decode cc pc = .ok (.ireturn, 1)) {v : Int32} (hz : narrow .boolean (.int v) = .int v) (hP : Post (some (.int v)) σ) (hk : k ≤ mc) (hn : n ≤ ms) : kK p l e R s m args below meth c D (kA σ0 s.heap.size) nL (kQ below args s D σ0 Post PX mc ms) σ k n pc L [.int v] := fun H locs ls h1 h2 h3 h4 =>
  W.widen hk hn (vx_ret (W.zret B.1 B.2.1 hr hz (fun t ht _ => kQ_q h1 h2 h3 hP ht) h3.2.2 hd B.2.2.2.2.2.2.2.2.2))
theorem k_lret (B : kB p l s m args meth c D (kA σ0 s.heap.size) nL cc own) (hr : meth.sig.returnType = some .long) (hd : decode cc pc = .ok (.lreturn, 1)) {v : Int64} (hP : Post (some (.long v)) σ) (hk : k ≤ mc) (hn : n ≤ ms) : kK p l e R s m args below meth c D (kA σ0 s.heap.size) nL (kQ below args s D σ0 Post PX mc ms) σ k n pc L [.long v] := fun H locs ls h1 h2 h3 h4 =>
  W.widen hk hn (vx_ret (W.lret B.1 B.2.1 hr (fun t ht _ => kQ_q h1 h2 h3 hP ht) h3.2.2 hd B.2.2.2.2.2.2.2.2.2))
theorem k_fret (B : kB p l s m args meth c D (kA σ0 s.heap.size) nL cc own) (hr : meth.sig.returnType = some .float) (hd : decode cc pc = .ok (.freturn, 1)) {v : UInt32} (hP : Post (some (.float v)) σ) (hk : k ≤ mc) (hn : n ≤ ms) : kK p l e R s m args below meth c D (kA σ0 s.heap.size) nL (kQ below args s D σ0 Post PX mc ms) σ k n pc L [.float v] := fun H locs ls h1 h2 h3 h4 => by
  have hlk := B.2.2.2.2.2.2.2.2.2
  exact W.widen hk hn (vx_ret (W.fret B.1 B.2.1 hr (fun t ht _ => kQ_q h1 h2 h3 hP ht) h3.2.2 hd hlk))
theorem k_vret (B : kB p l s m args meth c D (kA σ0 s.heap.size) nL cc own) (hr : meth.sig.returnType = none) (hd : decode cc pc = .ok (.return_, 1)) (hP : Post none σ) (hk : k ≤ mc) (hn : n ≤ ms) : kK p l e R s m args below meth c D (kA σ0 s.heap.size) nL (kQ below args s D σ0 Post PX mc ms) σ k n pc L [] := fun H locs ls h1 h2 h3 h4 =>
  W.widen hk hn (vx_ret (W.vret B.1 B.2.1 hr (fun t ht _ => kQ_q h1 h2 h3 hP ht) h3.2.2 hd B.2.2.2.2.2.2.2.2.2))
theorem k_aret (B : kB p l s m args meth c D (kA σ0 s.heap.size) nL cc own) {rt : FieldType} (hr : meth.sig.returnType = some rt) (hrt : ∃ C, rt = .object C) (hd : decode cc pc = .ok (.areturn, 1)) {v : Value} (hv : kRf v) (hP : Post (some v) σ) (hk : k ≤ mc) (hn : n ≤ ms) : kK p l e R s m args below meth c D (kA σ0 s.heap.size) nL (kQ below args s D σ0 Post PX mc ms) σ k n pc L [v] := fun H locs ls h1 h2 h3 h4 => by
  have hv2 : v = .null ∨ ∃ a, v = .ref a := by
    obtain ⟨r, rfl⟩ := hv
    cases r with
    | none => exact Or.inl rfl
    | some a => exact Or.inr ⟨a, rfl⟩
  exact W.widen hk hn (vx_ret (W.aret B.1 B.2.1 hr (Or.inl hrt) hv2 (fun t ht _ => kQ_q h1 h2 h3 hP ht) h3.2.2 hd B.2.2.2.2.2.2.2.2.2))
/-! a throw that leaves, and one that is made -/
theorem k_xout {E : String} (B : kB p l s m args meth c D (kA σ0 s.heap.size) nL cc own) (hex : ∀ x ∈ c.exceptionTable.toList, False) (hσ : ∀ (a : Nat) (x : va_E), σ0 a = some x → σ a = some x) (hP : PX E) (hk : k ≤ mc) (hn : n ≤ ms) : kX p l e R s m args below meth c D (kA σ0 s.heap.size) nL (kQ below args s D σ0 Post PX mc ms) σ k n pc L S E := fun H locs ls ce q9 h1 h2 h3 h4 h5 h6 h7 =>
  vx_out (fun x hx => (hex x hx).elim) B.2.2.2.2.2.2.2.2.2 h5 h6 h7 (fun t ht _ => ⟨hP, by rw [ht]; exact fun a x hx => h1 a x (hσ a x hx), h3.F ht⟩) h3.2.2 hk hn
theorem kB_tn (B : kB p l s m args meth c D A nL cc own) : ∀ w ∈ TN, w.before args s = true := fun w hw => tn_any (List.mem_filter.mp hw).2 (u := s) (A := #[]) rfl (B.2.2.2.2.2.2.2.1.2.2.2.2.2.1 w hw)
theorem k_throw {ik is ic : Nat} {cls text : String} {names : List String} (B : kB p l s m args meth c D (kA σ s.heap.size) nL cc RX9) (hex : ∀ x ∈ c.exceptionTable.toList, False) (hcls : Bundle.fit cls = true) (hnames : ∀ n ∈ names, Bundle.fit n = true)
    (w1 : Cond.classLink RX9 ik cls ∈ TB) (w2 : Cond.initialized cls ∈ TB) (hstr : ∃ a, vk_R RX9 is text a s) (i1 : ∀ w ∈ (vx_atS RX9 ic cls names).filter goodWord, w ∈ TB) (i2 : ∀ w ∈ (vx_atS RX9 ic cls names).filter (fun w => !goodWord w), w ∈ TN) (i3 : ∀ w ∈ vx_atS RX9 ic cls names, vx_ot w = true)
    (d0 : decode cc pc = .ok (.new ik, 3)) (d3 : decode cc (pc + 3) = .ok (.dup, 1)) (d4 : decode cc (pc + 4) = .ok (.ldc_w is, 3)) (d7 : decode cc (pc + 7) = .ok (.invokespecial ic, 3)) (d10 : decode cc (pc + 10) = .ok (.athrow, 1))
    (hf : names.length + 3 < R.frames) (hlc : (S.map fun v => v.category).sum + (13 * (names.length + 1) + 43) ≤ R.locals) (hk : k + 1 ≤ R.cells) (hn : n + 6 ≤ R.slots) (hP : PX cls) (hk2 : k + 1 ≤ mc) (hn2 : n + 6 ≤ ms) :
    kK p l e R s m args below meth c D (kA σ s.heap.size) nL (kQ below args s D σ Post PX mc ms) σ k n pc L S := by
  intro H locs ls h1 h2 h3 h4
  obtain ⟨sa, hsa⟩ := hstr
  have hZ := B.2.2.2.2.2.2.2.1
  refine vx_throwSW B.1 B.2.1 B.2.2.2.2.2.2.2.2.1 B.2.2.2.1 hcls hnames (B.2.2.2.2.1 _ w1) (B.2.2.2.2.1 _ w2) hsa (vx_hat (fun w hw => B.2.2.2.2.1 _ (i1 w hw)) i2 (kB_tn B)) ?_ hZ.1 hZ.2.1 h3 (h4.1.trans B.2.2.1.symm) d0 d3 d4 d7 d10 (fun x hx => (hex x hx).elim) hf hlc hk hn B.2.2.2.2.2.2.2.2.2 (fun t _ hz hq => ⟨hP, h1.kept hq, Nat.le_trans h3.1 hz, fun q q1 q2 => (hq q (Nat.lt_of_lt_of_le q1 h3.1)).trans (h3.2.1 q q1 q2)⟩) h3.2.2 hk2 hn2
  intro w hw
  rcases List.mem_cons.mp hw with rfl | hw
  · rfl
  · rcases List.mem_cons.mp hw with rfl | hw
    · rfl
    · exact i3 w hw
/-! calls -/
theorem kZ_in (B : kB p l s m args meth c D A nL cc own) {H : Heap} {locs : List Loc} (h2 : ∀ (a : Nat) (x : va_E), σ a = some x → A a) (h3 : va_S A s.heap H locs) {U : State} (hU : U.heap = H) (hW : s.WarmedH U.vm) : kZ (kA σ H.size) U := by
  have hA2 : ∀ q : Nat, kA σ H.size q → A q := fun q hq => hq.elim (fun ⟨x, hx⟩ => h2 q x hx) (fun hq => B.2.2.2.2.2.2.1 q (Nat.le_trans h3.1 hq))
  exact B.2.2.2.2.2.2.2.1.call hW (fun q q1 q2 => by rw [hU]; exact h3.2.1 q q1 q2) (fun q _ hq => Or.inl (hA2 q hq)) B.2.2.2.2.2.2.1 hA2
variable {y : MethodName} {hd9 : Cond} {cc2 : ByteArray} {maxL2 : Nat} {ret2 : Option FieldType} {g9 mc2 ms2 : Nat} {Post2 : Option Value → kS → Prop} {PX2 : String → Prop} {As st : List Value} {idx : Nat}
/-- behind any run of a call -/
theorem k_run (B : kB p l s m args meth c D A nL cc own) {sa : Array Value} (hr : ∀ (H : Heap) (locs : List Loc) (ls : Array Slot), kOk D σ H → (∀ (a : Nat) (x : va_E), σ a = some x → A a) → va_S A s.heap H locs → kHas ls nL L →
      vx_Run p l e R s m args below meth c H locs k n mc2 ms2 (F0 m pc ls st) S (fun st0 o t => ∃ (v : Option Value) (σ2 : kS), o = .returned v ∧ Post2 v σ2 ∧ kOk D σ2 t.heap ∧ (∀ (a : Nat) (x : va_E), σ2 a = some x → kA σ H.size a) ∧ va_F (kA σ H.size) st0 t) (fun E st0 t => PX2 E ∧ kOk D σ t.heap ∧ va_F (kA σ H.size) st0 t) (kA σ H.size))
    (kx : ∀ E : String, PX2 E → kX p l e R s m args below meth c D A nL Q σ (k + mc2) (n + ms2) pc L S E)
    (kk : ∀ (v : Option Value) (σ2 : kS), Post2 v σ2 → kK p l e R s m args below meth c D A nL Q σ2 (k + mc2) (n + ms2) (pc + 3) L (v.toList ++ S)) : kK p l e R s m args below meth c D A nL Q σ k n pc L st := by
  intro H locs ls h1 h2 h3 h4 T hT X
  have hA2 : ∀ q : Nat, kA σ H.size q → A q := fun q hq => hq.elim (fun ⟨x, hx⟩ => h2 q x hx) (fun hq => B.2.2.2.2.2.2.1 q (Nat.le_trans h3.1 hq))
  rcases hr H locs ls h1 h2 h3 h4 T hT X with ⟨v, st₀, t, T', Lx, h0, X', hLx, e1, e2, ⟨v2, σ2, hv, hP, hok, hdom, hF⟩, go⟩ | ⟨q9, st₀, t, T', Lx, E, ce, h0, X', hLx, e1, e2, ⟨hP, hok, hF⟩, hce, hcv, hcl, go⟩
  · cases hv
    obtain ⟨a1, a2, a3⟩ := vx_keep h0 e1 h3 (fun q _ hq => hA2 q hq) hA2 hLx hF
    obtain ⟨t2, b1, b2⟩ := kk v σ2 hP T'.heap (locs ++ Lx) ls (by rw [e1]; exact hok) (fun a x hx => hA2 a (hdom a x hx)) a3 h4 T' rfl X'
    exact ⟨t2, go t2 b1, b2⟩
  · obtain ⟨a1, a2, a3⟩ := vx_keep h0 e1 h3 (fun q _ hq => hA2 q hq) hA2 hLx hF
    obtain ⟨t2, b1, b2⟩ := kx E hP T'.heap (locs ++ Lx) ls ce q9 (by rw [e1]; exact hok) h2 a3 h4 (by rw [e1]; exact hce) hcv hcl T' rfl X'
    exact ⟨t2, go.trans b1, b2⟩
theorem k_callV (B : kB p l s m args meth c D A nL cc own) {b : Nat} (hM : kMh (.code y cc2 maxL2 ret2) l D y g9 mc2 ms2 (.ref b :: As) σ Post2 PX2) {ci N : Nat} {C : String} {T : u_T} {fs : List Value} (hb : σ b = some (.inr (ci, fs))) (hc : vwCl[ci]? = some (C, T, N))
    (hd : decode cc pc = .ok (.invokevirtual idx, 3)) (hst : st = As.reverse ++ .ref b :: S)
    (w1 : Cond.methodLink own idx y ∈ TB) (w2 : Cond.instanceMethod y ∈ TB) (w3 : Cond.selects C y y ∈ TB) (w4 : Cond.initialized C ∈ TB) (w5 : Cond.code y cc2 maxL2 ret2 ∈ TB) (hy : y.cls = C ∧ y.cls ≠ "java/lang/invoke/MethodHandle" ∧ y.cls ≠ "java/lang/invoke/VarHandle" ∧ (parseMethodDescriptor y.desc).map (fun d => d.parameters.length) = some As.length)
    (hf : g9 + 1 ≤ R.frames) (hlc : 8 + (maxL2 + 11) + 36 * g9 ≤ R.locals) (hk : k + mc2 ≤ R.cells) (hn : n + ms2 ≤ R.slots) (hS : (S.map fun v => v.category).sum ≤ 8)
    (kx : ∀ E : String, PX2 E → kX p l e R s m args below meth c D A nL Q σ (k + mc2) (n + ms2) pc L S E)
    (kk : ∀ (v : Option Value) (σ2 : kS), Post2 v σ2 → kK p l e R s m args below meth c D A nL Q σ2 (k + mc2) (n + ms2) (pc + 3) L (v.toList ++ S)) : kK p l e R s m args below meth c D A nL Q σ k n pc L st := by
  refine k_run B (sa := #[]) (fun H locs ls h1 h2 h3 h4 => ?_) kx kk
  have hg : GoodIn TB (wsV own idx C y (.code y cc2 maxL2 ret2 :: TB)) := by
    intro w hw
    simp only [wsV, List.cons_append, List.nil_append, List.mem_cons] at hw
    rcases hw with rfl | rfl | rfl | rfl | rfl | hw
    · exact tb_good _ w1
    · exact tb_good _ w2
    · exact tb_good _ w3
    · exact tb_good _ w4
    · exact tb_good _ w5
    · exact tb_good _ hw
  exact vx_runV ⟨B.1, B.2.1, B.2.2.1, B.2.2.2.1, B.2.2.2.2.1⟩ (hM H.size) (cwV As.length B.2.2.2.2.1 hg rfl rfl rfl hy ⟨hf, hlc⟩) ⟨kPre_blind, va_recv B.2.2.2.2.2.1 (h1.p hb) hc (q0 := 0) rfl, fun U hU hW => ⟨rfl, by rw [hU], by rw [hU]; exact h1, va_K.moved hW.alike B.2.2.2.2.2.1, kZ_in B h2 h3 hU hW⟩⟩ rfl rfl h4.1 hst (lv_room hS) hd ⟨hk, hn⟩
theorem k_callS (B : kB p l s m args meth c D A nL cc own) (hM : kMh (.code y cc2 maxL2 ret2) l D y g9 mc2 ms2 As σ Post2 PX2)
    (hd : decode cc pc = .ok (.invokestatic idx, 3)) (hst : st = As.reverse ++ S)
    (w1 : Cond.methodLink own idx y ∈ TB) (w2 : Cond.static y ∈ TB) (w4 : Cond.initialized own ∈ TB) (w5 : Cond.code y cc2 maxL2 ret2 ∈ TB) (hy : y.cls = own ∧ y.cls ≠ "java/lang/invoke/MethodHandle" ∧ y.cls ≠ "java/lang/invoke/VarHandle" ∧ (parseMethodDescriptor y.desc).map (fun d => d.parameters.length) = some As.length)
    (hf : g9 + 1 ≤ R.frames) (hlc : 8 + (maxL2 + 11) + 36 * g9 ≤ R.locals) (hk : k + mc2 ≤ R.cells) (hn : n + ms2 ≤ R.slots) (hS : (S.map fun v => v.category).sum ≤ 8)
    (kx : ∀ E : String, PX2 E → kX p l e R s m args below meth c D A nL Q σ (k + mc2) (n + ms2) pc L S E)
    (kk : ∀ (v : Option Value) (σ2 : kS), Post2 v σ2 → kK p l e R s m args below meth c D A nL Q σ2 (k + mc2) (n + ms2) (pc + 3) L (v.toList ++ S)) : kK p l e R s m args below meth c D A nL Q σ k n pc L st := by
  refine k_run B (sa := #[]) (fun H locs ls h1 h2 h3 h4 => ?_) kx kk
  have hg : GoodIn TB (wsS own idx y (.code y cc2 maxL2 ret2 :: TB)) := by
    intro w hw
    simp only [wsS, List.cons_append, List.nil_append, List.mem_cons] at hw
    rcases hw with rfl | rfl | rfl | rfl | hw
    · exact tb_good _ w1
    · exact tb_good _ w2
    · exact tb_good _ w4
    · exact tb_good _ w5
    · exact tb_good _ hw
  exact vx_runS ⟨B.1, B.2.1, B.2.2.1, B.2.2.2.1, B.2.2.2.2.1⟩ (hM H.size) (cwS As.length B.2.2.2.2.1 hg rfl rfl rfl hy ⟨hf, hlc⟩) ⟨kPre_blind, fun U hU hW => ⟨rfl, by rw [hU], by rw [hU]; exact h1, va_K.moved hW.alike B.2.2.2.2.2.1, kZ_in B h2 h3 hU hW⟩⟩ rfl rfl h4.1 hst (lv_room hS) hd ⟨hk, hn⟩
theorem k_callSW (B : kB p l s m args meth c D A nL cc own) {hh : List (Nat × Nat × Nat × Nat)} (hM : kMh (.codeWith y cc2 maxL2 ret2 hh) l D y g9 mc2 ms2 As σ Post2 PX2)
    (hd : decode cc pc = .ok (.invokestatic idx, 3)) (hst : st = As.reverse ++ S)
    (w1 : Cond.methodLink own idx y ∈ TB) (w2 : Cond.static y ∈ TB) (w4 : Cond.initialized y.cls ∈ TB) (w5 : Cond.codeWith y cc2 maxL2 ret2 hh ∈ TB) (hy : y.cls ≠ "java/lang/invoke/MethodHandle" ∧ y.cls ≠ "java/lang/invoke/VarHandle" ∧ (parseMethodDescriptor y.desc).map (fun d => d.parameters.length) = some As.length)
    (hf : g9 + 1 ≤ R.frames) (hlc : 8 + (maxL2 + 11) + 36 * g9 ≤ R.locals) (hk : k + mc2 ≤ R.cells) (hn : n + ms2 ≤ R.slots) (hS : (S.map fun v => v.category).sum ≤ 8)
    (kx : ∀ E : String, PX2 E → kX p l e R s m args below meth c D A nL Q σ (k + mc2) (n + ms2) pc L S E)
    (kk : ∀ (v : Option Value) (σ2 : kS), Post2 v σ2 → kK p l e R s m args below meth c D A nL Q σ2 (k + mc2) (n + ms2) (pc + 3) L (v.toList ++ S)) : kK p l e R s m args below meth c D A nL Q σ k n pc L st := by
  refine k_run B (sa := #[]) (fun H locs ls h1 h2 h3 h4 => ?_) kx kk
  have hg : GoodIn TB (va_wsS own idx y (.codeWith y cc2 maxL2 ret2 hh :: TB)) := by
    intro w hw
    simp only [va_wsS, List.cons_append, List.nil_append, List.mem_cons] at hw
    rcases hw with rfl | rfl | rfl | rfl | hw
    · exact tb_good _ w1
    · exact tb_good _ w2
    · exact tb_good _ w4
    · exact tb_good _ w5
    · exact tb_good _ hw
  exact vx_runSX ⟨B.1, B.2.1, B.2.2.1, B.2.2.2.1, B.2.2.2.2.1⟩ (hM H.size) (vx_cwSW As.length B.2.2.2.2.1 hg rfl rfl rfl hy ⟨hf, hlc⟩) ⟨kPre_blind, fun U hU hW => ⟨rfl, by rw [hU], by rw [hU]; exact h1, va_K.moved hW.alike B.2.2.2.2.2.1, kZ_in B h2 h3 hU hW⟩⟩ rfl rfl h4.1 hst (lv_room hS) hd ⟨hk, hn⟩
theorem k_callI (B : kB p l s m args meth c D A nL cc own) {b : Nat} (hM : kMh (.code y cc2 maxL2 none) l D y g9 mc2 ms2 (.ref b :: As) σ Post2 PX2)
    (hd : decode cc pc = .ok (.invokespecial idx, 3)) (hst : st = As.reverse ++ .ref b :: S)
    (w1 : Cond.methodLink own idx y ∈ TB) (w2 : Cond.instanceMethod y ∈ TB) (w4 : Cond.initialized y.cls ∈ TB) (w5 : Cond.code y cc2 maxL2 none ∈ TB) (hy1 : y.name = "<init>") (hy : y.cls ≠ "java/lang/invoke/MethodHandle" ∧ y.cls ≠ "java/lang/invoke/VarHandle" ∧ (parseMethodDescriptor y.desc).map (fun d => d.parameters.length) = some As.length)
    (hf : g9 + 1 ≤ R.frames) (hlc : 8 + (maxL2 + 11) + 36 * g9 ≤ R.locals) (hk : k + mc2 ≤ R.cells) (hn : n + ms2 ≤ R.slots) (hS : (S.map fun v => v.category).sum ≤ 8)
    (kx : ∀ E : String, PX2 E → kX p l e R s m args below meth c D A nL Q σ (k + mc2) (n + ms2) pc L S E)
    (kk : ∀ (v : Option Value) (σ2 : kS), Post2 v σ2 → kK p l e R s m args below meth c D A nL Q σ2 (k + mc2) (n + ms2) (pc + 3) L (v.toList ++ S)) : kK p l e R s m args below meth c D A nL Q σ k n pc L st := by
  refine k_run B (sa := #[]) (fun H locs ls h1 h2 h3 h4 => ?_) kx kk
  have hg : GoodIn TB (.code y cc2 maxL2 none :: TB) := by
    intro w hw
    rcases List.mem_cons.mp hw with rfl | hw
    · exact tb_good _ w5
    · exact tb_good _ hw
  exact vx_runI ⟨B.1, B.2.1, B.2.2.1, B.2.2.2.1, B.2.2.2.2.1⟩ (hM H.size) (cwI As.length B.2.2.2.2.1 hg rfl rfl rfl (B.2.2.2.2.1 _ w4) (B.2.2.2.2.1 _ w1) (B.2.2.2.2.1 _ w2) hy1 hy ⟨hf, hlc⟩) ⟨kPre_blind, fun U hU hW => ⟨rfl, by rw [hU], by rw [hU]; exact h1, va_K.moved hW.alike B.2.2.2.2.2.1, kZ_in B h2 h3 hU hW⟩⟩ rfl rfl h4.1 hst (lv_room hS) hd ⟨hk, hn⟩
theorem k_callIN (B : kB p l s m args meth c D A nL cc own) {host : String} {b : Nat} (hM : kMh (.code y cc2 maxL2 none) l D y g9 mc2 ms2 (.ref b :: As) σ Post2 PX2)
    (hd : decode cc pc = .ok (.invokespecial idx, 3)) (hst : st = As.reverse ++ .ref b :: S)
    (w1 : Cond.methodLinkNest own idx y host ∈ TN) (w2 : Cond.instanceMethod y ∈ TB) (w4 : Cond.initialized y.cls ∈ TB) (w5 : Cond.code y cc2 maxL2 none ∈ TB) (hy1 : y.name = "<init>") (hy : y.cls ≠ "java/lang/invoke/MethodHandle" ∧ y.cls ≠ "java/lang/invoke/VarHandle" ∧ (parseMethodDescriptor y.desc).map (fun d => d.parameters.length) = some As.length)
    (hf : g9 + 1 ≤ R.frames) (hlc : 8 + (maxL2 + 11) + 36 * g9 ≤ R.locals) (hk : k + mc2 ≤ R.cells) (hn : n + ms2 ≤ R.slots) (hS : (S.map fun v => v.category).sum ≤ 8)
    (kx : ∀ E : String, PX2 E → kX p l e R s m args below meth c D A nL Q σ (k + mc2) (n + ms2) pc L S E)
    (kk : ∀ (v : Option Value) (σ2 : kS), Post2 v σ2 → kK p l e R s m args below meth c D A nL Q σ2 (k + mc2) (n + ms2) (pc + 3) L (v.toList ++ S)) : kK p l e R s m args below meth c D A nL Q σ k n pc L st := by
  refine k_run B (sa := #[]) (fun H locs ls h1 h2 h3 h4 => ?_) kx kk
  have hg : GoodIn TB (.code y cc2 maxL2 none :: TB) := by
    intro w hw
    rcases List.mem_cons.mp hw with rfl | hw
    · exact tb_good _ w5
    · exact tb_good _ hw
  exact vx_runIN ⟨B.1, B.2.1, B.2.2.1, B.2.2.2.1, B.2.2.2.2.1⟩ (hM H.size) ⟨va_cnB As.length B.2.2.2.2.1 hg rfl rfl rfl (B.2.2.2.2.2.2.2.1.2.2.2.2.2.1 _ w1) (B.2.2.2.2.1 _ w4) hy ⟨hf, hlc⟩, hy1, B.2.2.2.2.1 _ w2⟩ ⟨kPre_blind, fun U hU hW => ⟨rfl, by rw [hU], by rw [hU]; exact h1, va_K.moved hW.alike B.2.2.2.2.2.1, kZ_in B h2 h3 hU hW⟩⟩ rfl rfl h4.1 hst (lv_room hS) hd ⟨hk, hn⟩
theorem k_obj (B : kB p l s m args meth c D A nL cc own) {a : Nat} (hd : decode cc pc = .ok (.invokespecial idx, 3)) (w1 : Cond.methodLink own idx objectInit ∈ TB) (w2 : Cond.instanceMethod objectInit ∈ TB) (w3 : Cond.code objectInit ⟨#[0xb1]⟩ 1 none ∈ TB) (hf : 1 ≤ R.frames) (hlc : (S.map fun v => v.category).sum + 12 ≤ R.locals)
    (kk : kK p l e R s m args below meth c D A nL Q σ k n (pc + 3) L S) : kK p l e R s m args below meth c D A nL Q σ k n pc L (.ref a :: S) := fun H locs ls h1 h2 h3 h4 =>
  W.objInit B.1 B.2.1 B.2.2.2.1 (B.2.2.2.2.1 _ w1) (B.2.2.2.2.1 _ w2) (B.2.2.2.2.1 _ w3) rfl (h4.1.trans B.2.2.1.symm) rfl hd hf (by show 2 * (F0 m pc ls (.ref a :: S)).monitorRoom + _ + 12 ≤ _; have h0 : (F0 m pc ls (.ref a :: S)).monitorRoom = 0 := rfl; omega) (kk H locs ls h1 h2 h3 h4)
theorem k_max (B : kB p l s m args meth c D A nL cc own) {x y : Int32} (hd : decode cc pc = .ok (.invokestatic idx, 3)) (w1 : Cond.methodLink own idx Lib.Math.max.name ∈ TB) (w2 : Cond.static Lib.Math.max.name ∈ TB) (w3 : Cond.initialized "java/lang/Math" ∈ TB) (w4 : Cond.code Lib.Math.max.name Lib.Math.max.code 2 (some .int) ∈ TB) (hf : 1 ≤ R.frames) (hlc : (S.map fun v => v.category).sum + 13 ≤ R.locals) (hk : k ≤ R.cells) (hn : n ≤ R.slots)
    (kk : kK p l e R s m args below meth c D A nL Q σ k n (pc + 3) L (.int (if x < y then y else x) :: S)) : kK p l e R s m args below meth c D A nL Q σ k n pc L (.int y :: .int x :: S) := fun H locs ls h1 h2 h3 h4 =>
  va_mmax B.1 B.2.1 (B.2.2.1.trans h4.1.symm) B.2.2.2.1 (B.2.2.2.2.1 _ w1) (B.2.2.2.2.1 _ w2) (B.2.2.2.2.1 _ w3) (B.2.2.2.2.1 _ w4) hf hlc hk hn hd (kk H locs ls h1 h2 h3 h4)
theorem k_min (B : kB p l s m args meth c D A nL cc own) {x y : Int32} (hd : decode cc pc = .ok (.invokestatic idx, 3)) (w1 : Cond.methodLink own idx Lib.Math.min.name ∈ TB) (w2 : Cond.static Lib.Math.min.name ∈ TB) (w3 : Cond.initialized "java/lang/Math" ∈ TB) (w4 : Cond.code Lib.Math.min.name Lib.Math.min.code 2 (some .int) ∈ TB) (hf : 1 ≤ R.frames) (hlc : (S.map fun v => v.category).sum + 13 ≤ R.locals) (hk : k ≤ R.cells) (hn : n ≤ R.slots)
    (kk : kK p l e R s m args below meth c D A nL Q σ k n (pc + 3) L (.int (if y < x then y else x) :: S)) : kK p l e R s m args below meth c D A nL Q σ k n pc L (.int y :: .int x :: S) := fun H locs ls h1 h2 h3 h4 =>
  va_mmin B.1 B.2.1 (B.2.2.1.trans h4.1.symm) B.2.2.2.1 (B.2.2.2.2.1 _ w1) (B.2.2.2.2.1 _ w2) (B.2.2.2.2.1 _ w3) (B.2.2.2.2.1 _ w4) hf hlc hk hn hd (kk H locs ls h1 h2 h3 h4)
/-- a catch: the handler gets the exception, of which nothing is known but that it is none of the store's cells -/
theorem k_catch {E name : String} (B : kB p l s m args meth c D A nL cc own) (pre : List ExceptionTableEntry) (x : ExceptionTableEntry) (suf : List ExceptionTableEntry) (hsplit : c.exceptionTable.toList = pre ++ x :: suf) (hpass : ∀ z ∈ pre, covers z pc = false ∨ (z.catchType ≠ 0 ∧ ∃ nm : String, Cond.classLink own z.catchType nm ∈ TB ∧ va_Nc E nm s)) (hx : covers x pc = true) (h0 : x.catchType ≠ 0) (hlink : Cond.classLink own x.catchType name ∈ TB) (hcast : Cond.castable E name ∈ TN)
    (kk : ∀ q : Nat, kK p l e R s m args below meth c D A nL Q σ k n x.handlerPc L [.ref q]) : kX p l e R s m args below meth c D A nL Q σ k n pc L S E := fun H locs ls ce q9 h1 h2 h3 h4 h5 h6 h7 =>
  vx_catch B.2.2.2.1 pre x suf hsplit (fun z hz => (hpass z hz).imp id (fun ⟨a1, nm, a2, a3⟩ => ⟨a1, nm, B.2.2.2.2.1 _ a2, a3⟩)) hx h0 (B.2.2.2.2.1 _ hlink) (kB_tn B _ hcast) h5 h6 h7 (kk q9 H locs ls h1 h2 h3 h4)
end KC
