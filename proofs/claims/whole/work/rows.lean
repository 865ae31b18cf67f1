section
/-! ===== BEGIN words of one list among another's, by their places ===== -/
theorem goodIn_r {big : List Cond} (ws : List Cond) (ps : List Nat) (hp : ws = ps.filterMap (fun i => big[i]?)) (h : ws.all goodWord = true) : GoodIn big ws := by
  intro w hw
  have h1 := List.all_eq_true.mp h w hw
  rw [hp] at hw
  obtain ⟨i, -, hi⟩ := List.mem_filterMap.mp hw
  have hm : w ∈ big := by first | exact List.mem_of_getElem? hi | exact List.getElem?_mem hi
  exact ⟨hm, good_of_word h1⟩
theorem goodIn_app {big a b : List Cond} (ha : GoodIn big a) (hb : GoodIn big b) : GoodIn big (a ++ b) := fun w h => (List.mem_append.mp h).elim (ha w) (hb w)
theorem goodIn_ca {big a b : List Cond} {c : Cond} (ha : GoodIn big (c :: a)) (hb : GoodIn big b) : GoodIn big (c :: (a ++ b)) := fun w h => (List.mem_cons.mp h).elim (fun e => ha w (List.mem_cons.mpr (Or.inl e))) (fun h => (List.mem_append.mp h).elim (fun h => ha w (List.mem_cons.mpr (Or.inr h))) (hb w))
theorem goodIn_sub {big ws : List Cond} (hm : ∀ w ∈ ws, w ∈ big) (h : ws.all goodWord = true) : GoodIn big ws := fun w hw => ⟨hm w hw, good_of_word (List.all_eq_true.mp h w hw)⟩
/-! ===== END ===== -/

/-! ===== BEGIN exceptions that leave a method, and their catching by the caller (launches without stack traces) ===== -/
section VXA
/-! The laws vx_back, vx_callV, vx_callS, vx_callSW, vx_throw0, vx_throwS follow proofs of the library, with one case more: JvmDerived/Free/Laws.lean (Back.of_free), Shelf42/LK1.lean (callV, callS), Shelf/KitTraced.lean (throwNew0V, throwNewS). -/
/-- where a method has thrown q: the class by its name, the cell, what was written, the world -/
def vx_T (XC : String → State → State → Prop) (st : State) (q : Addr) (t : State) (mc ms : Nat) (free : Addr → Prop) : Prop :=
  ∃ (E : String) (ce : Cell) (L : List Loc), XC E st t ∧ t.heap[q]? = some ce ∧ ce.vm = .none ∧ st.vm.findClass E = some ce.cls ∧ st.WarmedH t.vm ∧ st.sameButNew ({ t with vm := st.vm } : State) L mc ms ∧ ∀ z ∈ L, free z.base
def vx_Q (Qc : Array Value → State → Outcome → State → Prop) (XC : String → State → State → Prop) (mc ms : Nat) (free : Addr → Prop) : Array Value → State → Outcome → State → Prop := fun a st o t =>
  (Qc a st o t ∧ ∃ L, FrameEnd st o t L mc ms ∧ ∀ q ∈ L, free q.base) ∨ ∃ q, o = .threw q ∧ vx_T XC st q t mc ms free
/-- a callee that returns or throws -/
def vx_Met (l : Launch) (y : MethodName) (ws : List Cond) (rm : Room) (Pc : Array Value → State → Prop) (Qc : Array Value → State → Outcome → State → Prop) (XC : String → State → State → Prop) (mc ms : Nat) (free : Addr → Prop) : Prop :=
  MetFree l y (headSpec ws rm) Pc (fun _ _ _ _ _ => True) (vx_Q Qc XC mc ms free)
def vx_Post (XC : String → State → State → Prop) (mc ms : Nat) (free : Addr → Prop) : Pt → Array Value → Addr → Pt → Prop := fun A a q B =>
  ∃ (g : JFrame) (mk : MethodId) (t : State) (L : List Loc) (E : String) (ce : Cell), B.U.heap = t.heap ∧ B.U.vm = t.vm ∧ XC E (A.U.calling g mk a) t ∧ t.heap[q]? = some ce ∧ ce.vm = .none ∧ A.U.vm.findClass E = some ce.cls ∧ B.locs = A.locs ++ L ∧ (∀ z ∈ L, free z.base) ∧ B.cells = A.cells + mc ∧ B.slots = A.slots + ms
def vx_Back (l : Launch) (R : Room) (p : Program) (e : Env) (below : List Frame) (s : State) (sargs : Array Value) (y : MethodName) (len W9 : Nat)
    (Pre : Pt → Array Value → Prop) (Post : Pt → Array Value → Option Value → Pt → Prop) (PostX : Pt → Array Value → Addr → Pt → Prop) : Prop :=
  ∀ (m : MethodId) (meth : Method) (c : Code) (A : Pt) (g : JFrame) (ig : Instr) (mk : MethodId) (a : Array Value),
    Stand p l e R s m sargs below meth c A.U A.locs A.cells A.slots → g.method = m → g.locals.size = c.maxLocals → decode c.code g.pc = .ok (ig, len) →
    2 * g.monitorRoom + (g.stack.map fun v => v.category).sum ≤ W9 → A.U.methodNamed? y = some mk → Pre A a →
    (∃ (v : Option Value) (B : Pt), Stand p l e R s m sargs below meth c B.U B.locs B.cells B.slots ∧ Post A a v B ∧
      Steps p.tables e below (doInvoke e (A.U.setTop g) [] mk a).1 (B.U.setTop { g with pc := g.pc + len, stack := v.toList ++ g.stack })) ∨
    (∃ (q : Addr) (B : Pt), Stand p l e R s m sargs below meth c B.U B.locs B.cells B.slots ∧ PostX A a q B ∧
      Steps p.tables e below (doInvoke e (A.U.setTop g) [] mk a).1 ((B.U.setTop g).pushFrame (.throwing q)))
section Payer
variable {l : Launch} {R : Room} {p : Program} {e : Env} {below : List Frame} {s : State} {sargs : Array Value} {y : MethodName} {len W9 : Nat}
theorem vx_back {ws : List Cond} {rm : Room} {Pc : Array Value → State → Prop} {Qc : Array Value → State → Outcome → State → Prop} {XC : String → State → State → Prop} {mc ms : Nat} {free : Addr → Prop} {bytes : ByteArray} {maxL : Nat} {ret : Option FieldType}
    (hM : vx_Met l y ws rm Pc Qc XC mc ms free) (hblind : FrameBlind Pc) (hrc : rm.cells = mc) (hrs : rm.slots = ms)
    (hframes : rm.frames + 1 ≤ R.frames) (hlocals : W9 + (maxL + 11) + rm.locals ≤ R.locals)
    (hws : ∀ w ∈ ws, ∀ a' U, s.WarmedH U.vm → w.before a' U = true) (hcode : Cond.code y bytes maxL ret ∈ ws) (hinit : ∀ a' U, s.WarmedH U.vm → (Cond.initialized y.cls).before a' U = true) :
    vx_Back l R p e below s sargs y len W9 (PreOf R mc ms Pc) (PostOf Qc mc ms free) (vx_Post XC mc ms free) := by
  intro m meth c A g ig mk a X hg hsize hdg hW hn hp
  have h1 : (headSpec ws rm).pre.before a A.U = true := atoms_intro fun w hw => hws w hw _ _ X.warmed
  have h2 : (Cond.code y bytes maxL ret).before a A.U = true := hws _ hcode _ _ X.warmed
  have h3 : (Cond.initialized y.cls).before a A.U = true := hinit _ _ X.warmed
  have h4 : A.cells + (headSpec ws rm).room.cells ≤ R.cells := by rw [show (headSpec ws rm).room.cells = mc from hrc]; exact hp.1
  have h5 : A.slots + (headSpec ws rm).room.slots ≤ R.slots := by rw [show (headSpec ws rm).room.slots = ms from hrs]; exact hp.2.1
  have hPc : Pc a (A.U.calling g mk a) := hblind _ _ _ _ hp.2.2
  obtain ⟨U, Ls, c0, s0⟩ := A
  dsimp only [Pt.U, Pt.locs, Pt.cells, Pt.slots] at h1 h2 h3 h4 h5 X hn hPc ⊢
  obtain ⟨methY, cY, hmY, hcY, -, hlY, -, -, -, -⟩ := Cond.code_spec hn h2
  obtain ⟨kY, hkY, -⟩ := className_of_methodNamed hn
  have hinitY : kY.init = .initialized := Cond.initialized_spec (findClass_of_methodNamed hn) hkY h3
  have h : At U g.method c below := by rw [hg]; exact X.here
  have hlocals9 : W9 + (maxL + 11) + (headSpec ws rm).room.locals ≤ R.locals := hlocals
  have happ : (headSpec ws rm).appliesLoose y e.platform (U.calling g mk a) = true :=
    Spec.appliesLoose_calling (g := g) h hdg hn hkY hinitY
      (X.room_calling (g := g) (R' := (headSpec ws rm).room) hsize hmY hcY hframes (by rw [hlY]; omega) h4 h5) h1
  obtain ⟨mid, hmid⟩ := h.above
  have hfr : (U.setTop g).frames = (.java g :: mid) ++ below := by rw [State.frames_setTop' g h.top, hmid]; rfl
  obtain ⟨o, s₂, hsteps, -, hend, hq⟩ := Steps.callFree hM p X.admits X.cas X.clock (acts := []) hfr happ hPc trivial
  have hq' : vx_Q Qc XC mc ms free a (U.calling g mk a) o s₂ := hq
  rw [State.frames_setTop' g h.top] at hend
  obtain ⟨g₀, hg0⟩ := Option.isSome_iff_exists.mp h.top
  obtain ⟨r, hr⟩ := State.topJava?_eq_some.mp hg0
  have hr' : (({ U with heap := s₂.heap, slotsUsed := s₂.slotsUsed } : State).setVm s₂.vm).frames = .java g₀ :: r := hr
  rcases hq' with ⟨hqc, L, hfe, hL⟩ | ⟨q, rfl, E, ce, L, hx, hce, hcv, hcl, hW₂, hsm, hL⟩
  · obtain ⟨⟨v, rfl⟩, hW₂, e2, q2, q3, q4, q5, q6⟩ := id hfe
    have e3 : s₂ = ({ (U.calling g mk a).setFrames s₂.frames with heap := s₂.heap, slotsUsed := s₂.slotsUsed } : State).setVm s₂.vm := by
      have : s₂ = ({ s₂ with vm := (U.calling g mk a).vm } : State).setVm s₂.vm := rfl
      rw [e2] at this
      exact this
    obtain ⟨c₂, i₂, len₂, hc₂, hd₂, hf₂⟩ := hend
    have hW' : U.WarmedH s₂.vm := hW₂
    have hcc : c₂ = c := by
      have h1 : s₂.code? g.method = U.code? g.method := by
        rw [State.code?_eq, State.code?_eq, hW'.alike.method?]
      exact Option.some.inj (hc₂.symm.trans (h1.trans h.code))
    subst hcc
    have hlen : len₂ = len := by rw [hdg] at hd₂; cases hd₂; rfl
    subst hlen
    have hs₂ : s₂ = (({ U with heap := s₂.heap, slotsUsed := s₂.slotsUsed } : State).setVm s₂.vm).setTop { g with pc := g.pc + len₂, stack := v.toList ++ g.stack } := by
      refine e3.trans ?_
      rw [hf₂, State.calling_eq h.top, State.setFrames_setFrames, State.setTop_of_frames _ hr', hr]
      rfl
    have hsame : U.sameButNew ({ U with heap := s₂.heap, slotsUsed := s₂.slotsUsed } : State) L mc ms := by
      refine ⟨?_, q2, q3, q4, q5, q6⟩
      obtain ⟨t, ht, -⟩ := State.frames_cons hr
      show ({ U with heap := s₂.heap, slotsUsed := s₂.slotsUsed } : State) = { U.setFrames U.frames with heap := s₂.heap, slotsUsed := s₂.slotsUsed }
      rw [State.setFrames_self ht]
    subst hg
    refine Or.inl ⟨v, ⟨(({ U with heap := s₂.heap, slotsUsed := s₂.slotsUsed } : State).setVm s₂.vm), Ls ++ L, c0 + mc, s0 + ms⟩,
      ⟨X.admits, X.cas, X.clock, X.frames, X.room, X.hears, X.method, X.code, (X.here.setHeapUsed s₂.heap s₂.slotsUsed).setVm hW'.alike, X.tail, State.WarmedH.trans X.warmed hW', X.limits, X.bytes, X.same.trans (hsame.setVm s.vm)⟩,
      ⟨g, mk, s₂, L, rfl, rfl, hqc, rfl, hL, rfl, rfl⟩, ?_⟩
    show Steps p.tables e below _ ((({ U with heap := s₂.heap, slotsUsed := s₂.slotsUsed } : State).setVm s₂.vm).setTop { g with pc := g.pc + len₂, stack := v.toList ++ g.stack })
    rw [← hs₂]
    exact hsteps
  · obtain ⟨e2, q2, q3, q4, q5, q6⟩ := id hsm
    have e3 : s₂ = ({ (U.calling g mk a).setFrames s₂.frames with heap := s₂.heap, slotsUsed := s₂.slotsUsed } : State).setVm s₂.vm := by
      have : s₂ = ({ s₂ with vm := (U.calling g mk a).vm } : State).setVm s₂.vm := rfl
      rw [e2] at this
      exact this
    have hf₂ : s₂.frames = .throwing q :: .java g :: U.frames.tail := hend
    have hW' : U.WarmedH s₂.vm := hW₂
    have hs₂ : s₂ = ((({ U with heap := s₂.heap, slotsUsed := s₂.slotsUsed } : State).setVm s₂.vm).setTop g).pushFrame (.throwing q) := by
      refine e3.trans ?_
      rw [hf₂, State.calling_eq h.top, State.setFrames_setFrames, State.pushFrame, State.frames_setTop _ hr', State.setTop_of_frames _ hr', State.setFrames_setFrames, hr]
      rfl
    have hsame : U.sameButNew ({ U with heap := s₂.heap, slotsUsed := s₂.slotsUsed } : State) L mc ms := by
      refine ⟨?_, q2, q3, q4, q5, q6⟩
      obtain ⟨t, ht, -⟩ := State.frames_cons hr
      show ({ U with heap := s₂.heap, slotsUsed := s₂.slotsUsed } : State) = { U.setFrames U.frames with heap := s₂.heap, slotsUsed := s₂.slotsUsed }
      rw [State.setFrames_self ht]
    subst hg
    refine Or.inr ⟨q, ⟨(({ U with heap := s₂.heap, slotsUsed := s₂.slotsUsed } : State).setVm s₂.vm), Ls ++ L, c0 + mc, s0 + ms⟩,
      ⟨X.admits, X.cas, X.clock, X.frames, X.room, X.hears, X.method, X.code, (X.here.setHeapUsed s₂.heap s₂.slotsUsed).setVm hW'.alike, X.tail, State.WarmedH.trans X.warmed hW', X.limits, X.bytes, X.same.trans (hsame.setVm s.vm)⟩,
      ⟨g, mk, s₂, L, E, ce, rfl, rfl, hx, hce, hcv, hcl, rfl, hL, rfl, rfl⟩, ?_⟩
    show Steps p.tables e below _ (((({ U with heap := s₂.heap, slotsUsed := s₂.slotsUsed } : State).setVm s₂.vm).setTop g).pushFrame (.throwing q))
    rw [← hs₂]
    exact hsteps
end Payer
section Calls
variable {p : Program} {l : Launch} {e : Env} {R : Room} {s : State} {m : MethodId} {args : Array Value} {below : List Frame} {meth : Method} {c : Code} {T : State} {locs : List Loc} {cells slots : Nat}
theorem vx_callV (X : Stand p l e R s m args below meth c T locs cells slots) (hexec : p.tables.exec = Jvm.exec) {own C : String} {index : Nat} {y : MethodName} {bytes : ByteArray} {maxL : Nat} {ret : Option FieldType}
    (hown : s.vm.findClass own = some m.cls) (hlink : (Cond.methodLink own index y).before args s = true) (hinst : (Cond.instanceMethod y).before args s = true) (hsel : (Cond.selects C y y).before args s = true)
    (hcode : (Cond.code y bytes maxL ret).before args s = true) (hy : y.cls ≠ "java/lang/invoke/MethodHandle" ∧ y.cls ≠ "java/lang/invoke/VarHandle")
    {W9 : Nat} {Pre : Pt → Array Value → Prop} {Post : Pt → Array Value → Option Value → Pt → Prop} {PostX : Pt → Array Value → Addr → Pt → Prop} (hK : vx_Back l R p e below s args y 3 W9 Pre Post PostX)
    {b : Addr} {cellB : Cell} (hcell : T.heap[b]? = some cellB) (hobj : cellB.vm.isStatics = false) (hcls : s.vm.findClass C = some cellB.cls)
    {g : JFrame} (hg : g.method = m) (hsize : g.locals.size = c.maxLocals) {argsL rest : List Value} (hlen : ∀ sig, parseMethodDescriptor y.desc = some sig → argsL.length = sig.parameters.length)
    (hstack : g.stack = argsL.reverse ++ .ref b :: rest) (hW : 2 * g.monitorRoom + (rest.map fun v => v.category).sum ≤ W9) (hdg : decode c.code g.pc = .ok (.invokevirtual index, 3))
    (hpre : ∀ vm₁, s.WarmedH vm₁ → Pre ⟨T.setVm vm₁, locs, cells, slots⟩ (Value.ref b :: argsL).toArray) :
    (∃ (v : Option Value) (vm₁ : Vm) (B : Pt), s.WarmedH vm₁ ∧ Stand p l e R s m args below meth c B.U B.locs B.cells B.slots ∧ Post ⟨T.setVm vm₁, locs, cells, slots⟩ (Value.ref b :: argsL).toArray v B ∧
      ∀ target, Steps p.tables e below (B.U.setTop { g with pc := g.pc + 3, stack := v.toList ++ rest }) target → Steps p.tables e below (T.setTop g) target) ∨
    (∃ (q : Addr) (vm₁ : Vm) (B : Pt), s.WarmedH vm₁ ∧ Stand p l e R s m args below meth c B.U B.locs B.cells B.slots ∧ PostX ⟨T.setVm vm₁, locs, cells, slots⟩ (Value.ref b :: argsL).toArray q B ∧
      Steps p.tables e below (T.setTop g) ((B.U.setTop { g with stack := rest }).pushFrame (.throwing q))) := by
  obtain ⟨mk, methM, hnamed, hmethM, hstM, habM⟩ := Cond.instanceMethod_spec hinst
  obtain ⟨methM', cM, hmethM', -, -, -, -, -, -, hsigM⟩ := Cond.code_spec hnamed hcode
  cases hmethM.symm.trans hmethM'
  obtain ⟨c2, r2, m2, q1, q2, q3, q4, kP, hkP, hkPi⟩ := Cond.selects_spec hsel
  cases hcls.symm.trans q1
  cases (State.methodFound?_of_named hnamed hy).symm.trans q2
  cases hnamed.symm.trans q3
  have hselP : selectMethod e.platform s.vm cellB.cls mk = .method mk := by rw [Launch.admits_selectMethod X.admits]; exact q4
  obtain ⟨vm₁, X₁, hstep₁⟩ := X.invokevirtual hexec hown hlink hnamed hmethM hstM hkP hkPi hy (a := b) (cell := cellB) hcell
    (fun z h => by rw [h] at hobj; cases hobj) hselP hmethM habM hkP hkPi (g := g) hg (argsL := argsL) (rest := rest) (hlen _ hsigM) hstack hdg
  rcases hK m meth c ⟨T.setVm vm₁, locs, cells, slots⟩ { g with stack := rest } (.invokevirtual index) mk (Value.ref b :: argsL).toArray X₁ hg hsize hdg hW (X₁.named hnamed) (hpre vm₁ X₁.warmed) with ⟨v, B, X', hpost, hsteps⟩ | ⟨q, B, X', hpost, hsteps⟩
  · exact Or.inl ⟨v, vm₁, B, X₁.warmed, X', hpost, fun target h => hstep₁ _ fun acts => by rw [doInvoke_state]; exact hsteps.trans h⟩
  · exact Or.inr ⟨q, vm₁, B, X₁.warmed, X', hpost, hstep₁ _ fun acts => by rw [doInvoke_state]; exact hsteps⟩
theorem vx_callS (X : Stand p l e R s m args below meth c T locs cells slots) (hexec : p.tables.exec = Jvm.exec) {own : String} {index : Nat} {y : MethodName} {bytes : ByteArray} {maxL : Nat} {ret : Option FieldType}
    (hown : s.vm.findClass own = some m.cls) (hlink : (Cond.methodLink own index y).before args s = true) (hstat : (Cond.static y).before args s = true) (hinit : (Cond.initialized y.cls).before args s = true)
    (hcode : (Cond.code y bytes maxL ret).before args s = true) (hy : y.cls ≠ "java/lang/invoke/MethodHandle" ∧ y.cls ≠ "java/lang/invoke/VarHandle")
    {W9 : Nat} {Pre : Pt → Array Value → Prop} {Post : Pt → Array Value → Option Value → Pt → Prop} {PostX : Pt → Array Value → Addr → Pt → Prop} (hK : vx_Back l R p e below s args y 3 W9 Pre Post PostX)
    {g : JFrame} (hg : g.method = m) (hsize : g.locals.size = c.maxLocals) {argsL rest : List Value} (hlen : ∀ sig, parseMethodDescriptor y.desc = some sig → argsL.length = sig.parameters.length)
    (hstack : g.stack = argsL.reverse ++ rest) (hW : 2 * g.monitorRoom + (rest.map fun v => v.category).sum ≤ W9) (hdg : decode c.code g.pc = .ok (.invokestatic index, 3))
    (hpre : ∀ vm₁, s.WarmedH vm₁ → Pre ⟨T.setVm vm₁, locs, cells, slots⟩ argsL.toArray) :
    (∃ (v : Option Value) (vm₁ : Vm) (B : Pt), s.WarmedH vm₁ ∧ Stand p l e R s m args below meth c B.U B.locs B.cells B.slots ∧ Post ⟨T.setVm vm₁, locs, cells, slots⟩ argsL.toArray v B ∧
      ∀ target, Steps p.tables e below (B.U.setTop { g with pc := g.pc + 3, stack := v.toList ++ rest }) target → Steps p.tables e below (T.setTop g) target) ∨
    (∃ (q : Addr) (vm₁ : Vm) (B : Pt), s.WarmedH vm₁ ∧ Stand p l e R s m args below meth c B.U B.locs B.cells B.slots ∧ PostX ⟨T.setVm vm₁, locs, cells, slots⟩ argsL.toArray q B ∧
      Steps p.tables e below (T.setTop g) ((B.U.setTop { g with stack := rest }).pushFrame (.throwing q))) := by
  obtain ⟨mk, hnamed⟩ := Cond.code_named hcode
  obtain ⟨methM, cM, hmethM, -, -, -, -, -, -, hsigM⟩ := Cond.code_spec hnamed hcode
  have hstatic : methM.isStatic = true := Cond.static_spec hnamed hmethM hstat
  obtain ⟨kP, hkP, -⟩ := className_of_methodNamed hnamed
  have hinitP : kP.init = .initialized := Cond.initialized_spec (findClass_of_methodNamed hnamed) hkP hinit
  obtain ⟨vm₁, X₁, hstep₁⟩ := X.invokestatic hexec hown hlink hnamed hmethM hstatic hkP hinitP hy (g := g) hg (argsL := argsL) (rest := rest) (hlen _ hsigM) hstack hdg
  rcases hK m meth c ⟨T.setVm vm₁, locs, cells, slots⟩ { g with stack := rest } (.invokestatic index) mk argsL.toArray X₁ hg hsize hdg hW (X₁.named hnamed) (hpre vm₁ X₁.warmed) with ⟨v, B, X', hpost, hsteps⟩ | ⟨q, B, X', hpost, hsteps⟩
  · exact Or.inl ⟨v, vm₁, B, X₁.warmed, X', hpost, fun target h => hstep₁ _ fun acts => by rw [doInvoke_state]; exact hsteps.trans h⟩
  · exact Or.inr ⟨q, vm₁, B, X₁.warmed, X', hpost, hstep₁ _ fun acts => by rw [doInvoke_state]; exact hsteps⟩
end Calls
theorem vx_cls {s : State} {T : State} {vm₁ : Vm} {E : String} {k : ClassId} (hW : s.WarmedH vm₁) (h : (T.setVm vm₁).vm.findClass E = some k) : s.vm.findClass E = some k := by
  have h1 : vm₁.findClass E = some k := h
  rw [hW.alike.findClass] at h1
  exact h1
/-- the method's frame g, with q thrown over it -/
def vx_W (p : Program) (l : Launch) (e : Env) (R : Room) (s : State) (m : MethodId) (args : Array Value) (below : List Frame) (meth : Method) (c : Code) (H : Heap) (locs : List Loc) (cells slots : Nat) (Q : State → Prop) (g : JFrame) (q : Addr) : Prop :=
  ∀ T : State, T.heap = H → Stand p l e R s m args below meth c T locs cells slots → ∃ t, Steps p.tables e below ((T.setTop g).pushFrame (.throwing q)) t ∧ Q t
def vx_Run (p : Program) (l : Launch) (e : Env) (R : Room) (s : State) (m : MethodId) (args : Array Value) (below : List Frame) (meth : Method) (c : Code) (H : Heap) (locs : List Loc) (cells slots mc ms : Nat) (g : JFrame) (rest : List Value) (Qa : State → Outcome → State → Prop) (XC : String → State → State → Prop) (free : Addr → Prop) : Prop :=
  ∀ T : State, T.heap = H → Stand p l e R s m args below meth c T locs cells slots →
    (∃ (v : Option Value) (st₀ t T' : State) (L : List Loc), st₀.heap = H ∧ Stand p l e R s m args below meth c T' (locs ++ L) (cells + mc) (slots + ms) ∧ (∀ q ∈ L, free q.base) ∧ T'.heap = t.heap ∧ T'.vm = t.vm ∧ Qa st₀ (.returned v) t ∧
      Goes p e below T g T' { g with pc := g.pc + 3, stack := v.toList ++ rest }) ∨
    (∃ (q : Addr) (st₀ t T' : State) (L : List Loc) (E : String) (ce : Cell), st₀.heap = H ∧ Stand p l e R s m args below meth c T' (locs ++ L) (cells + mc) (slots + ms) ∧ (∀ z ∈ L, free z.base) ∧ T'.heap = t.heap ∧ T'.vm = t.vm ∧ XC E st₀ t ∧ t.heap[q]? = some ce ∧ ce.vm = .none ∧ s.vm.findClass E = some ce.cls ∧
      Steps p.tables e below (T.setTop g) ((T'.setTop { g with stack := rest }).pushFrame (.throwing q)))
def vx_X {S : Type} (px : S → Prop) (B : String → S → State → Prop) (A : Nat → Prop) : String → State → State → Prop := fun E st t => ∃ u : S, px u ∧ B E u t ∧ va_F A st t
section Runs
variable {p : Program} {l : Launch} {e : Env} {R : Room} {s : State} {m : MethodId} {args : Array Value} {below : List Frame} {meth : Method} {c : Code} {H : Heap} {locs : List Loc} {cells slots : Nat}
variable {y : MethodName} {bytes cc : ByteArray} {maxL nL mc ms n index : Nat} {ret : Option FieldType} {ws : List Cond} {rm : Room} {Pc : Array Value → State → Prop} {Qc : Array Value → State → Outcome → State → Prop} {XC : String → State → State → Prop} {free : Addr → Prop} {Ts : List Cond} {own C : String} {b : Addr} {As rest : List Value} {g : JFrame}
theorem vx_callBack (cb : CallB R s args own index y bytes maxL ret ws rm mc ms n) (hM : vx_Met l y ws rm Pc Qc XC mc ms free) (hbl : FrameBlind Pc) : vx_Back l R p e below s args y 3 8 (PreOf R mc ms Pc) (PostOf Qc mc ms free) (vx_Post XC mc ms free) := by
  obtain ⟨hrc, hrs, hfr, hlo, hws, hcw, -, hini, -⟩ := cb
  exact vx_back (bytes := bytes) (maxL := maxL) (ret := ret) hM hbl hrc hrs hfr hlo hws hcw (fun a' U hW => word_at hW (Or.inl (by first | rfl | simp [Cond.onTables, Cond.keeps, Cond.steady])) hini)
theorem vx_runV (S : CallFix p m c cc nL s args Ts own) (hM : vx_Met l y ws rm Pc Qc XC mc ms free) (cw : CallW R s args own C index y bytes maxL ret ws rm mc ms n) (hp : PreV s H C b Pc As)
    (hg : g.method = m) (hn : As.length = n) (hsize : g.locals.size = nL) (hstack : g.stack = As.reverse ++ .ref b :: rest) (hW : 2 * g.monitorRoom + (rest.map fun v => v.category).sum ≤ 8) (hdg : decode cc g.pc = .ok (.invokevirtual index, 3)) (hf : cells + mc ≤ R.cells ∧ slots + ms ≤ R.slots) :
    vx_Run p l e R s m args below meth c H locs cells slots mc ms g rest (Qc (Value.ref b :: As).toArray) XC free := by
  have hK : vx_Back l R p e below s args y 3 8 (PreOf R mc ms Pc) (PostOf Qc mc ms free) (vx_Post XC mc ms free) := vx_callBack cw.1 hM hp.1
  obtain ⟨⟨-, -, -, -, -, -, hcode, -, hy, hlen, hl⟩, hin, hse⟩ := cw
  obtain ⟨hx, hb, hml, ho, -⟩ := S
  obtain ⟨-, ⟨cellB, hcB, hoB, hclB⟩, hPc⟩ := hp
  intro T hT X
  rcases vx_callV X hx (C := C) (bytes := bytes) (maxL := maxL) (ret := ret) ho hl hin hse hcode hy hK (by rw [hT]; exact hcB) hoB hclB hg (hsize.trans hml.symm) (argsL := As) (rest := rest) (fun sig h => hn.trans (hlen sig h)) hstack hW (by rw [hb]; exact hdg)
    (fun vm₁ hW₁ => ⟨hf.1, hf.2, hPc (T.setVm vm₁) hT hW₁⟩) with ⟨v, vm₁, ⟨U', l2, c2, s2⟩, hW₁, X', ⟨g', mk, t, L, e1, e2, hq, h1, hL, h2, h3⟩, st⟩ | ⟨q, vm₁, ⟨U', l2, c2, s2⟩, hW₁, X', ⟨g', mk, t, L, E, ce, e1, e2, hq, hce, hcv, hcl, h1, hL, h2, h3⟩, st⟩
  · dsimp only [Pt.U, Pt.locs, Pt.cells, Pt.slots] at X' e1 e2 h1 h2 h3 st
    subst h1; subst h2; subst h3
    exact Or.inl ⟨v, (T.setVm vm₁).calling g' mk (Value.ref b :: As).toArray, t, U', L, hT, X', hL, e1, e2, hq, st⟩
  · dsimp only [Pt.U, Pt.locs, Pt.cells, Pt.slots] at X' e1 e2 h1 h2 h3 st hcl
    subst h1; subst h2; subst h3
    exact Or.inr ⟨q, (T.setVm vm₁).calling g' mk (Value.ref b :: As).toArray, t, U', L, E, ce, hT, X', hL, e1, e2, hq, hce, hcv, vx_cls hW₁ hcl, st⟩
theorem vx_runS (S : CallFix p m c cc nL s args Ts own) (hM : vx_Met l y ws rm Pc Qc XC mc ms free) (cw : CallB R s args own index y bytes maxL ret ws rm mc ms n ∧ (Cond.static y).before args s = true) (hp : PreS s H Pc As)
    (hg : g.method = m) (hn : As.length = n) (hsize : g.locals.size = nL) (hstack : g.stack = As.reverse ++ rest) (hW : 2 * g.monitorRoom + (rest.map fun v => v.category).sum ≤ 8) (hdg : decode cc g.pc = .ok (.invokestatic index, 3)) (hf : cells + mc ≤ R.cells ∧ slots + ms ≤ R.slots) :
    vx_Run p l e R s m args below meth c H locs cells slots mc ms g rest (Qc As.toArray) XC free := by
  have hK : vx_Back l R p e below s args y 3 8 (PreOf R mc ms Pc) (PostOf Qc mc ms free) (vx_Post XC mc ms free) := vx_callBack cw.1 hM hp.1
  obtain ⟨⟨-, -, -, -, -, -, hcode, hini, hy, hlen, hl⟩, hstt⟩ := cw
  obtain ⟨hx, hb, hml, ho, -⟩ := S
  intro T hT X
  rcases vx_callS X hx (bytes := bytes) (maxL := maxL) (ret := ret) ho hl hstt hini hcode hy hK hg (hsize.trans hml.symm) (argsL := As) (rest := rest) (fun sig h => hn.trans (hlen sig h)) hstack hW (by rw [hb]; exact hdg)
    (fun vm₁ hW₁ => ⟨hf.1, hf.2, hp.2 (T.setVm vm₁) hT hW₁⟩) with ⟨v, vm₁, ⟨U', l2, c2, s2⟩, hW₁, X', ⟨g', mk, t, L, e1, e2, hq, h1, hL, h2, h3⟩, st⟩ | ⟨q, vm₁, ⟨U', l2, c2, s2⟩, hW₁, X', ⟨g', mk, t, L, E, ce, e1, e2, hq, hce, hcv, hcl, h1, hL, h2, h3⟩, st⟩
  · dsimp only [Pt.U, Pt.locs, Pt.cells, Pt.slots] at X' e1 e2 h1 h2 h3 st
    subst h1; subst h2; subst h3
    exact Or.inl ⟨v, (T.setVm vm₁).calling g' mk As.toArray, t, U', L, hT, X', hL, e1, e2, hq, st⟩
  · dsimp only [Pt.U, Pt.locs, Pt.cells, Pt.slots] at X' e1 e2 h1 h2 h3 st hcl
    subst h1; subst h2; subst h3
    exact Or.inr ⟨q, (T.setVm vm₁).calling g' mk As.toArray, t, U', L, E, ce, hT, X', hL, e1, e2, hq, hce, hcv, vx_cls hW₁ hcl, st⟩
end Runs
section Rows
variable {p : Program} {l : Launch} {e : Env} {R : Room} {s : State} {m : MethodId} {args : Array Value} {below : List Frame} {meth : Method} {c : Code} {H : Heap} {locs : List Loc} {cells slots : Nat} {Q : State → Prop}
variable {mc ms : Nat} {free : Addr → Prop} {A0 A1 : Nat → Prop} {H0 : Heap} {a : Array Value} {pc : Nat} {ls : Array Slot} {st0 rest : List Value}
theorem vx_keep {st₀ t T' : State} {L : List Loc} (h0 : st₀.heap = H) (e1 : T'.heap = t.heap) (hS : va_S A0 H0 H locs) (hA : ∀ q, q < H.size → A1 q → A0 q) (hf : ∀ q, free q → A0 q) (hL : ∀ q ∈ L, free q.base) (hF : va_F A1 st₀ t) :
    H.size ≤ T'.heap.size ∧ (∀ q : Nat, q < H.size → ¬ A1 q → T'.heap[q]? = H[q]?) ∧ va_S A0 H0 T'.heap (locs ++ L) := by
  obtain ⟨hz, hk⟩ := hF
  rw [h0] at hz hk
  exact ⟨by rw [e1]; exact hz, fun q h1 h2 => by rw [e1]; exact hk q h1 h2,
    ⟨Nat.le_trans hS.1 (by rw [e1]; exact hz), fun q h1 h2 => by rw [e1, hk q (Nat.lt_of_lt_of_le h1 hS.1) (fun z => h2 (hA q (Nat.lt_of_lt_of_le h1 hS.1) z))]; exact hS.2.1 q h1 h2, fun q hq => by
      rcases List.mem_append.mp hq with h | h
      · exact hS.2.2 q h
      · exact hf _ (hL q h)⟩⟩
theorem vx_calli {S SX : Type} {post : Int32 → S → Prop} {px : SX → Prop} {B : S → State → Prop} {BX : String → SX → State → Prop} {AX : Nat → Prop} (hr : vx_Run p l e R s m args below meth c H locs cells slots mc ms (F0 m pc ls st0) rest (va_Qi post B A1 a) (vx_X px BX AX) free) (hS : va_S A0 H0 H locs) (hA : ∀ q, q < H.size → A1 q → A0 q) (hf : ∀ q, free q → A0 q) (hAX : ∀ q, q < H.size → AX q → A0 q)
    (kx : ∀ (E : String) (ce : Cell) (q9 : Addr) (u : SX) (t : State) (H1 : Heap) (locs1 : List Loc), t.heap = H1 → s.vm.Alike t.vm → px u → BX E u t → H.size ≤ H1.size → (∀ q : Nat, q < H.size → ¬ AX q → H1[q]? = H[q]?) → va_S A0 H0 H1 locs1 → H1[q9]? = some ce → ce.vm = .none → s.vm.findClass E = some ce.cls → vx_W p l e R s m args below meth c H1 locs1 (cells + mc) (slots + ms) Q (F0 m pc ls rest) q9)
    (kk : ∀ (r : Int32) (u : S) (t : State) (H1 : Heap) (locs1 : List Loc), t.heap = H1 → s.vm.Alike t.vm → post r u → B u t → H.size ≤ H1.size → (∀ q : Nat, q < H.size → ¬ A1 q → H1[q]? = H[q]?) → va_S A0 H0 H1 locs1 → W p l e R s m args below meth c H1 locs1 (cells + mc) (slots + ms) Q (F0 m (pc + 3) ls (.int r :: rest))) : W p l e R s m args below meth c H locs cells slots Q (F0 m pc ls st0) := by
  intro T hT X
  rcases hr T hT X with ⟨v, st₀, t, T', L, h0, X', hL, e1, e2, ⟨⟨r, u, hv, hp, hb⟩, hF⟩, st⟩ | ⟨q, st₀, t, T', L, E, ce, h0, X', hL, e1, e2, ⟨u, hp, hb, hF⟩, hce, hcv, hcl, st⟩
  · cases hv
    obtain ⟨k1, k2, k3⟩ := vx_keep h0 e1 hS hA hf hL hF
    obtain ⟨t2, a1, b1⟩ := kk r u t T'.heap (locs ++ L) e1.symm (by rw [← e2]; exact X'.warmed.alike) hp hb k1 k2 k3 T' rfl X'
    exact ⟨t2, st t2 a1, b1⟩
  · obtain ⟨k1, k2, k3⟩ := vx_keep h0 e1 hS hAX hf hL hF
    obtain ⟨t2, a1, b1⟩ := kx E ce q u t T'.heap (locs ++ L) e1.symm (by rw [← e2]; exact X'.warmed.alike) hp hb k1 k2 k3 (by rw [e1]; exact hce) hcv hcl T' rfl X'
    exact ⟨t2, st.trans a1, b1⟩
theorem vx_calll {S SX : Type} {post : Int64 → S → Prop} {px : SX → Prop} {B : S → State → Prop} {BX : String → SX → State → Prop} {AX : Nat → Prop} (hr : vx_Run p l e R s m args below meth c H locs cells slots mc ms (F0 m pc ls st0) rest (va_Ql post B A1 a) (vx_X px BX AX) free) (hS : va_S A0 H0 H locs) (hA : ∀ q, q < H.size → A1 q → A0 q) (hf : ∀ q, free q → A0 q) (hAX : ∀ q, q < H.size → AX q → A0 q)
    (kx : ∀ (E : String) (ce : Cell) (q9 : Addr) (u : SX) (t : State) (H1 : Heap) (locs1 : List Loc), t.heap = H1 → s.vm.Alike t.vm → px u → BX E u t → H.size ≤ H1.size → (∀ q : Nat, q < H.size → ¬ AX q → H1[q]? = H[q]?) → va_S A0 H0 H1 locs1 → H1[q9]? = some ce → ce.vm = .none → s.vm.findClass E = some ce.cls → vx_W p l e R s m args below meth c H1 locs1 (cells + mc) (slots + ms) Q (F0 m pc ls rest) q9)
    (kk : ∀ (r : Int64) (u : S) (t : State) (H1 : Heap) (locs1 : List Loc), t.heap = H1 → s.vm.Alike t.vm → post r u → B u t → H.size ≤ H1.size → (∀ q : Nat, q < H.size → ¬ A1 q → H1[q]? = H[q]?) → va_S A0 H0 H1 locs1 → W p l e R s m args below meth c H1 locs1 (cells + mc) (slots + ms) Q (F0 m (pc + 3) ls (.long r :: rest))) : W p l e R s m args below meth c H locs cells slots Q (F0 m pc ls st0) := by
  intro T hT X
  rcases hr T hT X with ⟨v, st₀, t, T', L, h0, X', hL, e1, e2, ⟨⟨r, u, hv, hp, hb⟩, hF⟩, st⟩ | ⟨q, st₀, t, T', L, E, ce, h0, X', hL, e1, e2, ⟨u, hp, hb, hF⟩, hce, hcv, hcl, st⟩
  · cases hv
    obtain ⟨k1, k2, k3⟩ := vx_keep h0 e1 hS hA hf hL hF
    obtain ⟨t2, a1, b1⟩ := kk r u t T'.heap (locs ++ L) e1.symm (by rw [← e2]; exact X'.warmed.alike) hp hb k1 k2 k3 T' rfl X'
    exact ⟨t2, st t2 a1, b1⟩
  · obtain ⟨k1, k2, k3⟩ := vx_keep h0 e1 hS hAX hf hL hF
    obtain ⟨t2, a1, b1⟩ := kx E ce q u t T'.heap (locs ++ L) e1.symm (by rw [← e2]; exact X'.warmed.alike) hp hb k1 k2 k3 (by rw [e1]; exact hce) hcv hcl T' rfl X'
    exact ⟨t2, st.trans a1, b1⟩
theorem vx_callf {S SX : Type} {post : UInt32 → S → Prop} {px : SX → Prop} {B : S → State → Prop} {BX : String → SX → State → Prop} {AX : Nat → Prop} (hr : vx_Run p l e R s m args below meth c H locs cells slots mc ms (F0 m pc ls st0) rest (va_Qf post B A1 a) (vx_X px BX AX) free) (hS : va_S A0 H0 H locs) (hA : ∀ q, q < H.size → A1 q → A0 q) (hf : ∀ q, free q → A0 q) (hAX : ∀ q, q < H.size → AX q → A0 q)
    (kx : ∀ (E : String) (ce : Cell) (q9 : Addr) (u : SX) (t : State) (H1 : Heap) (locs1 : List Loc), t.heap = H1 → s.vm.Alike t.vm → px u → BX E u t → H.size ≤ H1.size → (∀ q : Nat, q < H.size → ¬ AX q → H1[q]? = H[q]?) → va_S A0 H0 H1 locs1 → H1[q9]? = some ce → ce.vm = .none → s.vm.findClass E = some ce.cls → vx_W p l e R s m args below meth c H1 locs1 (cells + mc) (slots + ms) Q (F0 m pc ls rest) q9)
    (kk : ∀ (r : UInt32) (u : S) (t : State) (H1 : Heap) (locs1 : List Loc), t.heap = H1 → s.vm.Alike t.vm → post r u → B u t → H.size ≤ H1.size → (∀ q : Nat, q < H.size → ¬ A1 q → H1[q]? = H[q]?) → va_S A0 H0 H1 locs1 → W p l e R s m args below meth c H1 locs1 (cells + mc) (slots + ms) Q (F0 m (pc + 3) ls (.float r :: rest))) : W p l e R s m args below meth c H locs cells slots Q (F0 m pc ls st0) := by
  intro T hT X
  rcases hr T hT X with ⟨v, st₀, t, T', L, h0, X', hL, e1, e2, ⟨⟨r, u, hv, hp, hb⟩, hF⟩, st⟩ | ⟨q, st₀, t, T', L, E, ce, h0, X', hL, e1, e2, ⟨u, hp, hb, hF⟩, hce, hcv, hcl, st⟩
  · cases hv
    obtain ⟨k1, k2, k3⟩ := vx_keep h0 e1 hS hA hf hL hF
    obtain ⟨t2, a1, b1⟩ := kk r u t T'.heap (locs ++ L) e1.symm (by rw [← e2]; exact X'.warmed.alike) hp hb k1 k2 k3 T' rfl X'
    exact ⟨t2, st t2 a1, b1⟩
  · obtain ⟨k1, k2, k3⟩ := vx_keep h0 e1 hS hAX hf hL hF
    obtain ⟨t2, a1, b1⟩ := kx E ce q u t T'.heap (locs ++ L) e1.symm (by rw [← e2]; exact X'.warmed.alike) hp hb k1 k2 k3 (by rw [e1]; exact hce) hcv hcl T' rfl X'
    exact ⟨t2, st.trans a1, b1⟩
theorem vx_calld {S SX : Type} {post : UInt64 → S → Prop} {px : SX → Prop} {B : S → State → Prop} {BX : String → SX → State → Prop} {AX : Nat → Prop} (hr : vx_Run p l e R s m args below meth c H locs cells slots mc ms (F0 m pc ls st0) rest (va_Qd post B A1 a) (vx_X px BX AX) free) (hS : va_S A0 H0 H locs) (hA : ∀ q, q < H.size → A1 q → A0 q) (hf : ∀ q, free q → A0 q) (hAX : ∀ q, q < H.size → AX q → A0 q)
    (kx : ∀ (E : String) (ce : Cell) (q9 : Addr) (u : SX) (t : State) (H1 : Heap) (locs1 : List Loc), t.heap = H1 → s.vm.Alike t.vm → px u → BX E u t → H.size ≤ H1.size → (∀ q : Nat, q < H.size → ¬ AX q → H1[q]? = H[q]?) → va_S A0 H0 H1 locs1 → H1[q9]? = some ce → ce.vm = .none → s.vm.findClass E = some ce.cls → vx_W p l e R s m args below meth c H1 locs1 (cells + mc) (slots + ms) Q (F0 m pc ls rest) q9)
    (kk : ∀ (r : UInt64) (u : S) (t : State) (H1 : Heap) (locs1 : List Loc), t.heap = H1 → s.vm.Alike t.vm → post r u → B u t → H.size ≤ H1.size → (∀ q : Nat, q < H.size → ¬ A1 q → H1[q]? = H[q]?) → va_S A0 H0 H1 locs1 → W p l e R s m args below meth c H1 locs1 (cells + mc) (slots + ms) Q (F0 m (pc + 3) ls (.double r :: rest))) : W p l e R s m args below meth c H locs cells slots Q (F0 m pc ls st0) := by
  intro T hT X
  rcases hr T hT X with ⟨v, st₀, t, T', L, h0, X', hL, e1, e2, ⟨⟨r, u, hv, hp, hb⟩, hF⟩, st⟩ | ⟨q, st₀, t, T', L, E, ce, h0, X', hL, e1, e2, ⟨u, hp, hb, hF⟩, hce, hcv, hcl, st⟩
  · cases hv
    obtain ⟨k1, k2, k3⟩ := vx_keep h0 e1 hS hA hf hL hF
    obtain ⟨t2, a1, b1⟩ := kk r u t T'.heap (locs ++ L) e1.symm (by rw [← e2]; exact X'.warmed.alike) hp hb k1 k2 k3 T' rfl X'
    exact ⟨t2, st t2 a1, b1⟩
  · obtain ⟨k1, k2, k3⟩ := vx_keep h0 e1 hS hAX hf hL hF
    obtain ⟨t2, a1, b1⟩ := kx E ce q u t T'.heap (locs ++ L) e1.symm (by rw [← e2]; exact X'.warmed.alike) hp hb k1 k2 k3 (by rw [e1]; exact hce) hcv hcl T' rfl X'
    exact ⟨t2, st.trans a1, b1⟩
theorem vx_callv {S SX : Type} {post : S → Prop} {px : SX → Prop} {B : S → State → Prop} {BX : String → SX → State → Prop} {AX : Nat → Prop} (hr : vx_Run p l e R s m args below meth c H locs cells slots mc ms (F0 m pc ls st0) rest (va_Qv post B A1 a) (vx_X px BX AX) free) (hS : va_S A0 H0 H locs) (hA : ∀ q, q < H.size → A1 q → A0 q) (hf : ∀ q, free q → A0 q) (hAX : ∀ q, q < H.size → AX q → A0 q)
    (kx : ∀ (E : String) (ce : Cell) (q9 : Addr) (u : SX) (t : State) (H1 : Heap) (locs1 : List Loc), t.heap = H1 → s.vm.Alike t.vm → px u → BX E u t → H.size ≤ H1.size → (∀ q : Nat, q < H.size → ¬ AX q → H1[q]? = H[q]?) → va_S A0 H0 H1 locs1 → H1[q9]? = some ce → ce.vm = .none → s.vm.findClass E = some ce.cls → vx_W p l e R s m args below meth c H1 locs1 (cells + mc) (slots + ms) Q (F0 m pc ls rest) q9)
    (kk : ∀ (u : S) (t : State) (H1 : Heap) (locs1 : List Loc), t.heap = H1 → s.vm.Alike t.vm → post u → B u t → H.size ≤ H1.size → (∀ q : Nat, q < H.size → ¬ A1 q → H1[q]? = H[q]?) → va_S A0 H0 H1 locs1 → W p l e R s m args below meth c H1 locs1 (cells + mc) (slots + ms) Q (F0 m (pc + 3) ls (rest))) : W p l e R s m args below meth c H locs cells slots Q (F0 m pc ls st0) := by
  intro T hT X
  rcases hr T hT X with ⟨v, st₀, t, T', L, h0, X', hL, e1, e2, ⟨⟨u, hv, hp, hb⟩, hF⟩, st⟩ | ⟨q, st₀, t, T', L, E, ce, h0, X', hL, e1, e2, ⟨u, hp, hb, hF⟩, hce, hcv, hcl, st⟩
  · cases hv
    obtain ⟨k1, k2, k3⟩ := vx_keep h0 e1 hS hA hf hL hF
    obtain ⟨t2, a1, b1⟩ := kk u t T'.heap (locs ++ L) e1.symm (by rw [← e2]; exact X'.warmed.alike) hp hb k1 k2 k3 T' rfl X'
    exact ⟨t2, st t2 a1, b1⟩
  · obtain ⟨k1, k2, k3⟩ := vx_keep h0 e1 hS hAX hf hL hF
    obtain ⟨t2, a1, b1⟩ := kx E ce q u t T'.heap (locs ++ L) e1.symm (by rw [← e2]; exact X'.warmed.alike) hp hb k1 k2 k3 (by rw [e1]; exact hce) hcv hcl T' rfl X'
    exact ⟨t2, st.trans a1, b1⟩
/-- caught by the row x of this method's table; the rows ahead don't take it -/
theorem vx_catch {own name : String} {E : String} {ce : Cell} {q : Addr} (hown : s.vm.findClass own = some m.cls) (pre : List ExceptionTableEntry) (x : ExceptionTableEntry) (suf : List ExceptionTableEntry) (hsplit : c.exceptionTable.toList = pre ++ x :: suf)
    (hpass : ∀ z ∈ pre, covers z pc = false ∨ (z.catchType ≠ 0 ∧ ∃ nm : String, (Cond.classLink own z.catchType nm).before args s = true ∧ va_Nc E nm s)) (hx : covers x pc = true) (h0 : x.catchType ≠ 0)
    (hlink : (Cond.classLink own x.catchType name).before args s = true) (hcast : (Cond.castable E name).before args s = true) (hcell : H[q]? = some ce) (hv : ce.vm = .none) (hcl : s.vm.findClass E = some ce.cls)
    (kk : W p l e R s m args below meth c H locs cells slots Q (F0 m x.handlerPc ls [.ref q])) : vx_W p l e R s m args below meth c H locs cells slots Q (F0 m pc ls rest) q := by
  intro T hT X
  have hpl : e.platform.magicAccessors = ({} : Platform).magicAccessors := by rw [X.admits.platform]
  obtain ⟨c3, c4, hc3, hc4, hasg⟩ := Cond.castable_spec hcast
  cases Option.some.inj (hc3.symm.trans hcl)
  obtain ⟨c5, hc5, hcl5⟩ := Cond.classLink_spec hown hlink e.platform hpl
  cases Option.some.inj (hc4.symm.trans hc5)
  obtain ⟨vm', X', st⟩ := X.thenCaughtThrough q (g := F0 m pc ls rest) rfl (Steps.refl _) (by rw [hT]; exact hcell) (by rw [hv]; rfl) (by obtain ⟨k9, h9, -⟩ := Vm.findClass_spec hcl; exact ⟨k9, h9⟩) pre x suf hsplit
    (fun z hz => by
      rcases hpass z hz with h | ⟨hz0, nm, hl1, hn1⟩
      · exact Or.inl h
      · obtain ⟨c6, hc6, hcl6⟩ := Cond.classLink_spec hown hl1 e.platform hpl
        obtain ⟨a8, b8, h1, h2, h3⟩ := hn1
        cases Option.some.inj (h1.symm.trans hcl)
        cases Option.some.inj (h2.symm.trans hc6)
        exact Or.inr ⟨hz0, _, hcl6, h3⟩) hx (Or.inr ⟨h0, c4, hcl5, hasg⟩)
  obtain ⟨t, a1, b1⟩ := kk (T.setVm vm') hT X'
  exact ⟨t, st.trans a1, b1⟩
end Rows
section Ends
variable {p : Program} {l : Launch} {e : Env} {R : Room} {s : State} {m : MethodId} {args : Array Value} {below : List Frame} {meth : Method} {c : Code} {H : Heap} {locs : List Loc} {cells slots : Nat} {Q : State → Prop}
variable {mc ms : Nat} {free : Addr → Prop} {A0 A1 : Nat → Prop} {H0 : Heap} {a : Array Value} {ls : Array Slot} {st0 rest : List Value}
variable {Qc : Array Value → State → Outcome → State → Prop} {XC : String → State → State → Prop}
/-- what a body that may throw owes at its end -/
def vx_MQ (below : List Frame) (Qc : Array Value → State → Outcome → State → Prop) (XC : String → State → State → Prop) (a : Array Value) (s : State) (mc ms : Nat) (free : Addr → Prop) : State → Prop := fun t =>
  ∃ o, t.status = .running ∧ Ended t below o ∧ vx_Q Qc XC mc ms free a s o t
theorem vx_ret {g : JFrame} {mc ms : Nat} (k : W p l e R s m args below meth c H locs cells slots (MQ below Qc args s mc ms free) g) : W p l e R s m args below meth c H locs cells slots (vx_MQ below Qc XC args s mc ms free) g := by
  intro T hT X
  obtain ⟨t, a1, o, b1, b2, b3, b4⟩ := k T hT X
  exact ⟨t, a1, o, b1, b2, Or.inl ⟨b3, b4⟩⟩
/-- not caught here: it goes on to the caller -/
theorem vx_widen {g : JFrame} {q : Addr} {k n : Nat} (h1 : cells ≤ k) (h2 : slots ≤ n) (kk : vx_W p l e R s m args below meth c H locs k n Q g q) : vx_W p l e R s m args below meth c H locs cells slots Q g q := fun T hT X => kk T hT (stand_widen X h1 h2)
theorem vx_out {pc : Nat} {E : String} {ce : Cell} {q : Addr} {mc ms : Nat} (hout : ∀ x ∈ c.exceptionTable.toList, covers x pc = false) (hlocks : meth.locks = false) (hcell : H[q]? = some ce) (hv : ce.vm = .none) (hcl : s.vm.findClass E = some ce.cls)
    (hx : ∀ t : State, t.heap = H → s.vm.Alike t.vm → XC E s t) (hf : ∀ z ∈ locs, free z.base) (hc : cells ≤ mc) (hs : slots ≤ ms) :
    vx_W p l e R s m args below meth c H locs cells slots (vx_MQ below Qc XC args s mc ms free) (F0 m pc ls rest) q := by
  intro T hT X
  obtain ⟨st1, hrun, hend, hW, hsm⟩ := X.leaveThrown q (g := F0 m pc ls rest) rfl rfl rfl hout hlocks
  have hcell9 : (T.setFrames (.throwing q :: below)).heap[q]? = some ce := by
    show T.heap[q]? = some ce
    rw [hT]; exact hcell
  exact ⟨_, st1, .threw q, hrun, hend, Or.inr ⟨q, rfl, E, ce, locs, hx _ hT hW.alike, hcell9, hv, hcl, hW, hsm.mono hc hs, hf⟩⟩
theorem vx_frame {U : State} {k n : Nat} (h : s.sameButNew ({ U with vm := s.vm } : State) locs k n) : s.heap.size ≤ U.heap.size ∧ ∀ q : Nat, q < s.heap.size → (∀ z ∈ locs, z.base ≠ q) → U.heap[q]? = s.heap[q]? := by
  obtain ⟨-, h2, -, -, -, h6⟩ := h
  refine ⟨h2, fun q hq hz => ?_⟩
  obtain ⟨c9, e1, e2, e3, e4⟩ := h6 q _ (Array.getElem?_eq_getElem hq)
  have hs : c9.slots = (s.heap[q]).slots := Array.ext_getElem? fun i => e4 i fun hm => hz _ hm rfl
  have h9 : c9 = s.heap[q] := by
    rw [hs] at e2
    exact e2
  have e5 : U.heap[q]? = some c9 := e1
  rw [e5, h9, Array.getElem?_eq_getElem hq]
/-- the words of a throw but the four that speak of the heap -/
def vx_no (w : Cond) : Bool := decide (w ≠ .isRef (.static Bundle.tN "UNASSIGNED_STACK" Bundle.steD)) && decide (w ≠ .isRef (.static Bundle.tN "SUPPRESSED_SENTINEL" Bundle.listD)) && decide (w ≠ .laysStatic Bundle.tN "UNASSIGNED_STACK" Bundle.steD) && decide (w ≠ .laysStatic Bundle.tN "SUPPRESSED_SENTINEL" Bundle.listD)
def vx_at0 (own : String) (ic : Nat) (X : String) (names : List String) : List Cond := (Bundle.ownAtoms0 own ic X names).filter vx_no
def vx_atS (own : String) (ic : Nat) (X : String) (names : List String) : List Cond := (Bundle.ownAtoms own ic X names).filter vx_no
/-- a word that the tables alone decide, or a good one -/
def vx_ot (w : Cond) : Bool := w.onTables || goodWord w
theorem vx_ot_at {args a' : Array Value} {s U : State} {w : Cond} (hW : s.WarmedH U.vm) (hvm : s.vm = U.vm) (hg : vx_ot w = true) (h : w.before args s = true) : w.before a' U = true := by
  simp only [vx_ot, Bool.or_eq_true] at hg
  rcases hg with hg | hg
  · exact va_tabs hg hvm h
  · exact word_at hW (good_of_word hg) h
/-- a list's words: the good ones out of the method's own list, the others by premises of their own -/
theorem vx_hat {args : Array Value} {s : State} {L B : List Cond} (h1 : ∀ w ∈ L.filter goodWord, w.before args s = true) (h2 : ∀ w ∈ L.filter (fun w => !goodWord w), w ∈ B) (h3 : ∀ w ∈ B, w.before args s = true) : ∀ w ∈ L, w.before args s = true := by
  intro w hw
  by_cases g : goodWord w = true
  · exact h1 w (List.mem_filter.mpr ⟨hw, g⟩)
  · refine h3 w (h2 w (List.mem_filter.mpr ⟨hw, ?_⟩))
    show (!goodWord w) = true
    cases hgw : goodWord w
    · rfl
    · exact absurd hgw g
theorem vx_c {args : Array Value} {s : State} {w : Cond} {B : List Cond} (h : w.before args s = true) (t : ∀ w ∈ B, w.before args s = true) : ∀ w' ∈ w :: B, w'.before args s = true := fun w' h' => (List.mem_cons.mp h').elim (fun e => by rw [e]; exact h) (t w')
theorem vx_n {args : Array Value} {s : State} : ∀ w ∈ ([] : List Cond), w.before args s = true := fun _ h => nomatch h
theorem vx_own {args : Array Value} {s : State} {L : List Cond} (h1 : ∀ w ∈ L.filter vx_no, w.before args s = true)
    (hU : (Cond.isRef (.static Bundle.tN "UNASSIGNED_STACK" Bundle.steD)).before args s = true) (hN : (Cond.isRef (.static Bundle.tN "SUPPRESSED_SENTINEL" Bundle.listD)).before args s = true)
    (lU : (Cond.laysStatic Bundle.tN "UNASSIGNED_STACK" Bundle.steD).before args s = true) (lN : (Cond.laysStatic Bundle.tN "SUPPRESSED_SENTINEL" Bundle.listD).before args s = true) : ∀ w ∈ L, w.before args s = true := by
  intro w hw
  by_cases e1 : w = .isRef (.static Bundle.tN "UNASSIGNED_STACK" Bundle.steD)
  · rw [e1]; exact hU
  · by_cases e2 : w = .isRef (.static Bundle.tN "SUPPRESSED_SENTINEL" Bundle.listD)
    · rw [e2]; exact hN
    · by_cases e3 : w = .laysStatic Bundle.tN "UNASSIGNED_STACK" Bundle.steD
      · rw [e3]; exact lU
      · by_cases e4 : w = .laysStatic Bundle.tN "SUPPRESSED_SENTINEL" Bundle.listD
        · rw [e4]; exact lN
        · exact h1 w (List.mem_filter.mpr ⟨hw, by unfold vx_no; rw [decide_eq_true e1, decide_eq_true e2, decide_eq_true e3, decide_eq_true e4]; rfl⟩)
/-- where a static field lies, its class's statics cell in H -/
def vx_L (C n d : String) (A : Nat → Prop) (U : State) (H : Heap) : Prop := ∃ (c : ClassId) (k : Class) (i : Nat) (f : Field) (a : Nat) (cell : Cell), U.vm.findClass C = some c ∧ U.fieldFound? C n d = some (c, k, i, f) ∧ f.isStatic = true ∧ k.statics = some a ∧ H[a]? = some cell ∧ cell.vm.isStatics = true ∧ cell.cls = c ∧ f.slot < cell.slots.size ∧ k.staticTypes[f.slot]? = some f.type ∧ ¬ A a
theorem vx_L.moved {C n d : String} {A : Nat → Prop} {u U : State} {H : Heap} (hvm : u.vm.Alike U.vm) (h : vx_L C n d A u H) : vx_L C n d A U H := by
  obtain ⟨c, k, i, f, a, cell, h1, h2, h3, h4, h5, h6, h7, h8, h9, h10⟩ := h
  obtain ⟨k', hi', he⟩ := State.fieldFound?_setVm hvm h2
  exact ⟨c, k', i, f, a, cell, by rw [hvm.findClass]; exact h1, hi', h3, by rw [he]; exact h4, h5, h6, h7, h8, by rw [he]; exact h9, h10⟩
theorem vx_L.kept {C n d : String} {A : Nat → Prop} {U : State} {H H1 : Heap} (h : vx_L C n d A U H) (hq : ∀ a : Nat, a < H.size → ¬ A a → H1[a]? = H[a]?) : vx_L C n d A U H1 := by
  obtain ⟨c, k, i, f, a, cell, h1, h2, h3, h4, h5, h6, h7, h8, h9, h10⟩ := h
  exact ⟨c, k, i, f, a, cell, h1, h2, h3, h4, by rw [hq a (Array.getElem?_eq_some_iff.mp h5).1 h10]; exact h5, h6, h7, h8, h9, h10⟩
theorem vx_L.narrow {C n d : String} {A B : Nat → Prop} {U : State} {H : Heap} (h : vx_L C n d A U H) (hAB : ∀ q, B q → A q) : vx_L C n d B U H := by
  obtain ⟨c, k, i, f, a, cell, h1, h2, h3, h4, h5, h6, h7, h8, h9, h10⟩ := h
  exact ⟨c, k, i, f, a, cell, h1, h2, h3, h4, h5, h6, h7, h8, h9, fun z => h10 (hAB _ z)⟩
theorem vx_L.word {C n d : String} {A : Nat → Prop} {s : State} {args : Array Value} (h : vx_L C n d A s s.heap) : (Cond.laysStatic C n d).before args s = true := by
  obtain ⟨c, k, i, f, a, cell, h1, h2, h3, h4, h5, h6, h7, h8, h9, -⟩ := h
  show (Cond.laysStatic C n d).holds args s none s [] = true
  exact Cond.laysStatic_of h1 h2 h3 h4 h5 h6 h7 h8 h9
/-- .. and what it holds: null or some reference -/
def vx_Zq (C n d : String) (A : Nat → Prop) (U : State) (H : Heap) : Prop := va_Zq C n d A U H ∧ vx_L C n d A U H
theorem vx_Zq.moved {C n d : String} {A : Nat → Prop} {u U : State} {H : Heap} (hvm : u.vm.Alike U.vm) (h : vx_Zq C n d A u H) : vx_Zq C n d A U H := ⟨va_Zq.moved hvm h.1, vx_L.moved hvm h.2⟩
theorem vx_Zq.kept {C n d : String} {A : Nat → Prop} {U : State} {H H1 : Heap} (h : vx_Zq C n d A U H) (hq : ∀ a : Nat, a < H.size → ¬ A a → H1[a]? = H[a]?) : vx_Zq C n d A U H1 := ⟨va_Zq.kept h.1 hq, vx_L.kept h.2 hq⟩
theorem vx_Zq.narrow {C n d : String} {A B : Nat → Prop} {U : State} {H : Heap} (h : vx_Zq C n d A U H) (hAB : ∀ q, B q → A q) : vx_Zq C n d B U H := ⟨va_Zq.narrow h.1 hAB, vx_L.narrow h.2 hAB⟩
theorem vx_Zqof {args : Array Value} {s : State} {C n d : String} {A : Nat → Prop} (hl : (Cond.laysStatic C n d).before args s = true) (hini : (Cond.initialized C).before args s = true) (h : (Cond.isRef (.static C n d)).before args s = true) (hA : ∀ a : Nat, a < s.heap.size → ¬ A a) : vx_Zq C n d A s s.heap := by
  refine ⟨va_Zqof hl hini h hA, ?_⟩
  obtain ⟨c, k, i, f, a, cell, h1, h2, h3, h4, h5, h6, h7, h8, h9⟩ := Cond.laysStatic_spec hl
  exact ⟨c, k, i, f, a, cell, h1, h2, h3, h4, h5, h6, h7, h8, h9, hA a (Array.getElem?_eq_some_iff.mp h5).1⟩
theorem vx_isRef {C n d : String} {v : Value} {A : Nat → Prop} {s : State} {args : Array Value} (h : va_Z C n d v A s s.heap) (hv : v.isRef = true) : (Cond.isRef (.static C n d)).before args s = true := by
  obtain ⟨cf, kf, fi, f, a, cell, h1, h2, h3, h4, h5, h6, h7, -⟩ := h
  have he : (Term.static C n d).eval args s none [] s = some v := by
    simp [Term.eval, State.fieldNamed?, h1, h2, h4, h5, h6, h7]
  simp only [Cond.before, Cond.holds, Cond.value, he]
  cases v <;> simp_all [Value.isRef]
theorem vx_isRefq {C n d : String} {A : Nat → Prop} {s : State} {args : Array Value} (h : va_Zq C n d A s s.heap) : (Cond.isRef (.static C n d)).before args s = true := by
  rcases h with h | ⟨t, h⟩
  · exact vx_isRef h rfl
  · exact vx_isRef h rfl
/-- the same frame, seen from here: as if the method were called anew in this heap -/
theorem vx_rebase {T : State} (X : Stand p l e R s m args below meth c T locs cells slots) {R' : Room} (hf : R'.frames ≤ R.frames) (hl : R'.locals ≤ R.locals) (hc : cells + R'.cells ≤ R.cells) (hs : slots + R'.slots ≤ R.slots) :
    Stand p l e R' ((T.setVm s.vm).setFrames (.invoking m args :: below)) m args below meth c T [] 0 0 := by
  have htop : (T.setVm s.vm).topJava?.isSome := X.here.top
  have hF : ((T.setVm s.vm).setFrames (.invoking m args :: below)).frames = .invoking m args :: below := State.frames_setFrames _ (State.cur_lt_of_top htop)
  obtain ⟨g₀, hg0⟩ := Option.isSome_iff_exists.mp htop
  obtain ⟨r, hr⟩ := State.topJava?_eq_some.mp hg0
  have hl9 : e.platform.stackLimits (T.setVm s.vm).me = e.platform.stackLimits s.me := X.limits
  have hb9 : (T.setVm s.vm).me.stackBytes = s.me.stackBytes := X.bytes
  refine ⟨X.admits, X.cas, X.clock, hF, ?_, X.hears, X.method, X.code, X.here, X.tail, X.warmed, ?_, ?_, ?_⟩
  · have h := X.room
    have hU : ((T.setVm s.vm).setFrames (.invoking m args :: below)).localsInUse = s.localsInUse := by
      rw [State.localsInUse_invoking hF (meth := meth) (c := c) X.method X.code, State.localsInUse_invoking X.frames X.method X.code]
    simp only [State.hasRoom, Bool.and_eq_true, decide_eq_true_eq] at h ⊢
    obtain ⟨⟨⟨⟨h1, h2, h3, h4, h5, h6⟩, h7⟩, h8⟩, h9⟩ := h
    rw [X.frames, List.length_cons] at h2 h3
    have q1 := X.heapSize
    have q2 := X.used
    simp only [hF, hU, List.length_cons, State.stackLimits_setFrames, State.stackBytes_setFrames, hl9, hb9]
    refine ⟨⟨⟨⟨by omega, by omega, by omega, by omega, by omega, h6⟩, ?_⟩, ?_⟩, X.book⟩
    · show T.heap.size + R'.cells ≤ e.platform.maxCells
      omega
    · show T.slotsUsed + R'.slots ≤ e.platform.maxSlots
      omega
  · rw [State.stackLimits_setFrames]; rfl
  · rw [State.stackBytes_setFrames]; rfl
  · refine ⟨?_, Nat.le_refl _, Nat.le_refl _, ?_, ?_, fun a c9 h9 => ⟨c9, h9, rfl, rfl, fun _ _ => rfl⟩⟩
    · obtain ⟨t, ht, -⟩ := State.frames_cons hr
      show T.setVm s.vm = { ((T.setVm s.vm).setFrames (.invoking m args :: below)).setFrames (T.setVm s.vm).frames with heap := T.heap, slotsUsed := T.slotsUsed }
      rw [State.setFrames_setFrames, State.setFrames_self ht]
      rfl
    · show T.slotsUsed = T.slotsUsed + ((T.heap.toList.drop T.heap.size).map (·.slots.size)).sum
      rw [List.drop_eq_nil_of_le (Nat.le_of_eq Array.length_toList)]
      rfl
    · show ((T.heap.toList.drop T.heap.size).map (·.slots.size)).sum ≤ 0
      rw [List.drop_eq_nil_of_le (Nat.le_of_eq Array.length_toList)]
      exact Nat.le_refl _
/-- 'throw new E()': new; dup; invokespecial; athrow -/
theorem vx_throw0 {cc : ByteArray} {pc : Nat} (hexec : p.tables.exec = Jvm.exec) (hb : c.code = cc) (hl : l.stackTraces = false) {own cls : String} {names : List String} {ik ic mc ms : Nat} {A : Nat → Prop}
    (hown : s.vm.findClass own = some m.cls) (hcls : Bundle.fit cls = true) (hnames : ∀ n ∈ names, Bundle.fit n = true)
    (hk : (Cond.classLink own ik cls).before args s = true) (hini : (Cond.initialized cls).before args s = true) (hat : ∀ w ∈ vx_at0 own ic cls names, w.before args s = true)
    (hgood : ∀ w ∈ Cond.classLink own ik cls :: Cond.initialized cls :: vx_at0 own ic cls names, vx_ot w = true)
    (hU : vx_Zq Bundle.tN "UNASSIGNED_STACK" Bundle.steD A s s.heap) (hN : vx_Zq Bundle.tN "SUPPRESSED_SENTINEL" Bundle.listD A s s.heap) (hS : va_S A s.heap H locs) (hsize : ls.size = c.maxLocals)
    (d0 : decode cc pc = .ok (.new ik, 3)) (d3 : decode cc (pc + 3) = .ok (.dup, 1)) (d4 : decode cc (pc + 4) = .ok (.invokespecial ic, 3)) (d7 : decode cc (pc + 7) = .ok (.athrow, 1))
    (hout : ∀ x ∈ c.exceptionTable.toList, covers x (pc + 7) = false)
    (hRframes : names.length + 3 < R.frames) (hRlocals : (rest.map fun v => v.category).sum + (13 * (names.length + 1) + 42) ≤ R.locals) (hRcells : cells + 1 ≤ R.cells) (hRslots : slots + 6 ≤ R.slots) (hlocks : meth.locks = false)
    (hx : ∀ t : State, s.vm.Alike t.vm → H.size ≤ t.heap.size → (∀ q : Nat, q < H.size → t.heap[q]? = H[q]?) → XC cls s t)
    (hf : ∀ z ∈ locs, free z.base) (hc : cells + 1 ≤ mc) (hs : slots + 6 ≤ ms) :
    W p l e R s m args below meth c H locs cells slots (vx_MQ below Qc XC args s mc ms free) (F0 m pc ls rest) := by
  intro T hT X
  have htr : e.platform.stackTraces = false := (show e.platform.stackTraces = l.stackTraces by rw [X.admits.platform]).trans hl
  have Y := vx_rebase X (R' := { frames := R.frames, locals := R.locals, cells := 1, slots := 6 }) (Nat.le_refl _) (Nat.le_refl _) hRcells hRslots
  obtain ⟨s', hA⟩ : ∃ z, z = (T.setVm s.vm).setFrames (.invoking m args :: below) := ⟨_, rfl⟩
  rw [← hA] at Y
  have hvm : s'.vm = s.vm := by rw [hA]; rfl
  have hhp : s'.heap = H := by rw [hA]; exact hT
  have hW0 : s.WarmedH s'.vm := by rw [hvm]; exact State.WarmedH.refl s
  have hat' : ∀ w ∈ vx_at0 own ic cls names, w.before args s' = true := fun w hw => vx_ot_at hW0 hvm.symm (hgood w (List.mem_cons_of_mem _ (List.mem_cons_of_mem _ hw))) (hat w hw)
  have hk' : (Cond.classLink own ik cls).before args s' = true := vx_ot_at hW0 hvm.symm (hgood _ List.mem_cons_self) hk
  have hini' : (Cond.initialized cls).before args s' = true := vx_ot_at hW0 hvm.symm (hgood _ (List.mem_cons_of_mem _ List.mem_cons_self)) hini
  have hU' : vx_Zq Bundle.tN "UNASSIGNED_STACK" Bundle.steD A s' s'.heap := by rw [hhp]; exact vx_Zq.moved hW0.alike (hU.kept hS.2.1)
  have hN' : vx_Zq Bundle.tN "SUPPRESSED_SENTINEL" Bundle.listD A s' s'.heap := by rw [hhp]; exact vx_Zq.moved hW0.alike (hN.kept hS.2.1)
  have h : ∀ w ∈ Bundle.ownAtoms0 own ic cls names, w.before args s' = true := vx_own hat' (vx_isRefq hU'.1) (vx_isRefq hN'.1) hU'.2.word hN'.2.word
  have hown' : s'.vm.findClass own = some m.cls := by rw [hvm]; exact hown
  have hins : (Cond.instantiable cls 6).before args s' = true := h _ (by simp [Bundle.ownAtoms0])
  obtain ⟨vm₁, cX, kX, hfX, hkX, -, -, X₁, st1⟩ := Y.newCold hexec (own := own) (C := cls) (index := ik) (n := 6) hown' hk' hins hini'
    (g := F0 m pc ls rest) rfl (by rw [hb]; exact d0) (Nat.le_refl _) (Nat.le_refl _)
  generalize hT1 : (T.setVm vm₁).pushCell { cls := cX, slots := kX.instanceTypes.map defaultValue, vm := .none } = T1 at X₁ st1
  have hcat : (Value.ref T.heap.size).category = 1 := rfl
  have hcellA : T1.heap[T.heap.size]? = some (freshCell cX kX) := by rw [← hT1]; exact State.heap_pushCell_size _ _
  have d3' : decode c.code (pc + 3) = .ok (.dup, 1) := by rw [hb]; exact d3
  obtain ⟨U, hsteps, hrun, hend, hW, hsame, ce, hce, hO⟩ := X₁.ctorThrow0 hexec htr (own := own) (cls := cls) (names := names) (ic := ic) hown' hcls hnames h (fun x hx => nomatch hx) hfX hkX hcellA (by rw [hhp, hT]; exact Nat.le_refl _)
    (g := { method := m, pc := pc + 4, locals := ls, stack := .ref T.heap.size :: .ref T.heap.size :: rest, locked := none }) rfl hsize rfl rfl (rest := rest) rfl
    (by rw [hb]; exact d4) (by rw [hb]; exact d7) hout hRframes (by simp only [List.map_cons, List.sum_cons, hcat]; omega) hlocks
  obtain ⟨f1, f2⟩ := vx_frame hsame
  rw [hhp] at f1 f2
  have hWs : s.WarmedH U.vm := State.WarmedH.trans hW0 hW
  have hcl : s.vm.findClass cls = some ce.cls := by
    have h9 := hO.cls
    rw [hvm] at h9
    exact h9
  have hall : s.sameButNew ({ U with vm := s.vm } : State) locs mc ms := by
    subst hA
    obtain ⟨e1, e2⟩ := hsame
    rw [State.setFrames_setFrames] at e1
    have h2 : (T.setVm s.vm).sameButNew ({ U with vm := s.vm } : State) [] (0 + 1) (0 + 6) := ⟨e1, e2⟩
    have h3 := X.same.trans h2
    rw [List.append_nil] at h3
    exact h3.mono hc hs
  refine ⟨U, ?_, .threw T.heap.size, hrun, hend, Or.inr ⟨T.heap.size, rfl, cls, ce, locs, hx U hWs.alike f1 (fun q hq => f2 q hq (fun z hz => nomatch hz)), hce, hO.vm, hcl, hWs, hall, hf⟩⟩
  refine st1 _ ?_
  show Steps p.tables e below (T1.setTop { method := m, pc := pc + 3, locals := ls, stack := .ref T.heap.size :: rest, locked := none }) _
  jvm_step X₁.here [X₁.here.top, hexec, d3', Value.category]
  exact hsteps
/-- 'throw new E("text")': new; dup; ldc; invokespecial; athrow -/
theorem vx_throwS {cc : ByteArray} {pc : Nat} (hexec : p.tables.exec = Jvm.exec) (hb : c.code = cc) (hl : l.stackTraces = false) {own cls text : String} {names : List String} {ik is ic mc ms sa : Nat} {A : Nat → Prop}
    (hown : s.vm.findClass own = some m.cls) (hcls : Bundle.fit cls = true) (hnames : ∀ n ∈ names, Bundle.fit n = true)
    (hk : (Cond.classLink own ik cls).before args s = true) (hini : (Cond.initialized cls).before args s = true) (hstr : vk_R own is text sa s) (hat : ∀ w ∈ vx_atS own ic cls names, w.before args s = true)
    (hgood : ∀ w ∈ Cond.classLink own ik cls :: Cond.initialized cls :: vx_atS own ic cls names, vx_ot w = true)
    (hU : vx_Zq Bundle.tN "UNASSIGNED_STACK" Bundle.steD A s s.heap) (hN : vx_Zq Bundle.tN "SUPPRESSED_SENTINEL" Bundle.listD A s s.heap) (hS : va_S A s.heap H locs) (hsize : ls.size = c.maxLocals)
    (d0 : decode cc pc = .ok (.new ik, 3)) (d3 : decode cc (pc + 3) = .ok (.dup, 1)) (d4 : decode cc (pc + 4) = .ok (.ldc is, 2)) (d6 : decode cc (pc + 6) = .ok (.invokespecial ic, 3)) (d9 : decode cc (pc + 9) = .ok (.athrow, 1))
    (hout : ∀ x ∈ c.exceptionTable.toList, covers x (pc + 9) = false)
    (hRframes : names.length + 3 < R.frames) (hRlocals : (rest.map fun v => v.category).sum + (13 * (names.length + 1) + 43) ≤ R.locals) (hRcells : cells + 1 ≤ R.cells) (hRslots : slots + 6 ≤ R.slots) (hlocks : meth.locks = false)
    (hx : ∀ t : State, s.vm.Alike t.vm → H.size ≤ t.heap.size → (∀ q : Nat, q < H.size → t.heap[q]? = H[q]?) → XC cls s t)
    (hf : ∀ z ∈ locs, free z.base) (hc : cells + 1 ≤ mc) (hs : slots + 6 ≤ ms) :
    W p l e R s m args below meth c H locs cells slots (vx_MQ below Qc XC args s mc ms free) (F0 m pc ls rest) := by
  intro T hT X
  have htr : e.platform.stackTraces = false := (show e.platform.stackTraces = l.stackTraces by rw [X.admits.platform]).trans hl
  have Y := vx_rebase X (R' := { frames := R.frames, locals := R.locals, cells := 1, slots := 6 }) (Nat.le_refl _) (Nat.le_refl _) hRcells hRslots
  obtain ⟨s', hA⟩ : ∃ z, z = (T.setVm s.vm).setFrames (.invoking m args :: below) := ⟨_, rfl⟩
  rw [← hA] at Y
  have hvm : s'.vm = s.vm := by rw [hA]; rfl
  have hhp : s'.heap = H := by rw [hA]; exact hT
  have hW0 : s.WarmedH s'.vm := by rw [hvm]; exact State.WarmedH.refl s
  have hat' : ∀ w ∈ vx_atS own ic cls names, w.before args s' = true := fun w hw => vx_ot_at hW0 hvm.symm (hgood w (List.mem_cons_of_mem _ (List.mem_cons_of_mem _ hw))) (hat w hw)
  have hk' : (Cond.classLink own ik cls).before args s' = true := vx_ot_at hW0 hvm.symm (hgood _ List.mem_cons_self) hk
  have hini' : (Cond.initialized cls).before args s' = true := vx_ot_at hW0 hvm.symm (hgood _ (List.mem_cons_of_mem _ List.mem_cons_self)) hini
  have hU' : vx_Zq Bundle.tN "UNASSIGNED_STACK" Bundle.steD A s' s'.heap := by rw [hhp]; exact vx_Zq.moved hW0.alike (hU.kept hS.2.1)
  have hN' : vx_Zq Bundle.tN "SUPPRESSED_SENTINEL" Bundle.listD A s' s'.heap := by rw [hhp]; exact vx_Zq.moved hW0.alike (hN.kept hS.2.1)
  have h : ∀ w ∈ Bundle.ownAtoms own ic cls names, w.before args s' = true := vx_own hat' (vx_isRefq hU'.1) (vx_isRefq hN'.1) hU'.2.word hN'.2.word
  have hown' : s'.vm.findClass own = some m.cls := by rw [hvm]; exact hown
  have hins : (Cond.instantiable cls 6).before args s' = true := h _ (by simp [Bundle.ownAtoms])
  obtain ⟨vm₁, cX, kX, hfX, hkX, -, -, X₁, st1⟩ := Y.newCold hexec (own := own) (C := cls) (index := ik) (n := 6) hown' hk' hins hini'
    (g := F0 m pc ls rest) rfl (by rw [hb]; exact d0) (Nat.le_refl _) (Nat.le_refl _)
  generalize hT1 : (T.setVm vm₁).pushCell { cls := cX, slots := kX.instanceTypes.map defaultValue, vm := .none } = T1 at X₁ st1
  have hcat : (Value.ref T.heap.size).category = 1 := rfl
  have hcellA : T1.heap[T.heap.size]? = some (freshCell cX kX) := by rw [← hT1]; exact State.heap_pushCell_size _ _
  have d3' : decode c.code (pc + 3) = .ok (.dup, 1) := by rw [hb]; exact d3
  have d4' : decode c.code (pc + 4) = .ok (.ldc is, 2) := by rw [hb]; exact d4
  have hstr' : vk_R own is text sa s' := vk_R.warm hW0 hstr
  obtain ⟨U, hsteps, hrun, hend, hW, hsame, ce, hce, hO⟩ := X₁.ctorThrowS hexec htr (own := own) (cls := cls) (names := names) (ic := ic) hown' hcls hnames h (fun x hx => nomatch hx) hfX hkX hcellA (by rw [hhp, hT]; exact Nat.le_refl _) (msg := .ref sa) rfl
    (g := { method := m, pc := pc + 6, locals := ls, stack := .ref sa :: .ref T.heap.size :: .ref T.heap.size :: rest, locked := none }) rfl hsize rfl rfl (rest := rest) rfl
    (by rw [hb]; exact d6) (by rw [hb]; exact d9) hout hRframes (by simp only [List.map_cons, List.sum_cons, hcat]; omega) hlocks
  obtain ⟨f1, f2⟩ := vx_frame hsame
  rw [hhp] at f1 f2
  have hWs : s.WarmedH U.vm := State.WarmedH.trans hW0 hW
  have hcl : s.vm.findClass cls = some ce.cls := by
    have h9 := hO.cls
    rw [hvm] at h9
    exact h9
  have hall : s.sameButNew ({ U with vm := s.vm } : State) locs mc ms := by
    subst hA
    obtain ⟨e1, e2⟩ := hsame
    rw [State.setFrames_setFrames] at e1
    have h2 : (T.setVm s.vm).sameButNew ({ U with vm := s.vm } : State) [] (0 + 1) (0 + 6) := ⟨e1, e2⟩
    have h3 := X.same.trans h2
    rw [List.append_nil] at h3
    exact h3.mono hc hs
  refine ⟨U, ?_, .threw T.heap.size, hrun, hend, Or.inr ⟨T.heap.size, rfl, cls, ce, locs, hx U hWs.alike f1 (fun q hq => f2 q hq (fun z hz => nomatch hz)), hce, hO.vm, hcl, hWs, hall, hf⟩⟩
  refine st1 _ ?_
  show Steps p.tables e below (T1.setTop { method := m, pc := pc + 3, locals := ls, stack := .ref T.heap.size :: rest, locked := none }) _
  jvm_step X₁.here [X₁.here.top, hexec, d3', Value.category]
  exact X₁.ldcString hexec (own := own) (text := text) (index := is) (a := sa) hown' hstr'.1 hstr'.2
    (g := { method := m, pc := pc + 4, locals := ls, stack := .ref T.heap.size :: .ref T.heap.size :: rest, locked := none }) rfl d4' _ hsteps
/-- 'throw new E("text")', the text by a wide index -/
theorem vx_throwSW {cc : ByteArray} {pc : Nat} (hexec : p.tables.exec = Jvm.exec) (hb : c.code = cc) (hl : l.stackTraces = false) {own cls text : String} {names : List String} {ik is ic mc ms sa : Nat} {A : Nat → Prop}
    (hown : s.vm.findClass own = some m.cls) (hcls : Bundle.fit cls = true) (hnames : ∀ n ∈ names, Bundle.fit n = true)
    (hk : (Cond.classLink own ik cls).before args s = true) (hini : (Cond.initialized cls).before args s = true) (hstr : vk_R own is text sa s) (hat : ∀ w ∈ vx_atS own ic cls names, w.before args s = true)
    (hgood : ∀ w ∈ Cond.classLink own ik cls :: Cond.initialized cls :: vx_atS own ic cls names, vx_ot w = true)
    (hU : vx_Zq Bundle.tN "UNASSIGNED_STACK" Bundle.steD A s s.heap) (hN : vx_Zq Bundle.tN "SUPPRESSED_SENTINEL" Bundle.listD A s s.heap) (hS : va_S A s.heap H locs) (hsize : ls.size = c.maxLocals)
    (d0 : decode cc pc = .ok (.new ik, 3)) (d3 : decode cc (pc + 3) = .ok (.dup, 1)) (d4 : decode cc (pc + 4) = .ok (.ldc_w is, 3)) (d7 : decode cc (pc + 7) = .ok (.invokespecial ic, 3)) (d10 : decode cc (pc + 10) = .ok (.athrow, 1))
    (hout : ∀ x ∈ c.exceptionTable.toList, covers x (pc + 10) = false)
    (hRframes : names.length + 3 < R.frames) (hRlocals : (rest.map fun v => v.category).sum + (13 * (names.length + 1) + 43) ≤ R.locals) (hRcells : cells + 1 ≤ R.cells) (hRslots : slots + 6 ≤ R.slots) (hlocks : meth.locks = false)
    (hx : ∀ t : State, s.vm.Alike t.vm → H.size ≤ t.heap.size → (∀ q : Nat, q < H.size → t.heap[q]? = H[q]?) → XC cls s t)
    (hf : ∀ z ∈ locs, free z.base) (hc : cells + 1 ≤ mc) (hs : slots + 6 ≤ ms) :
    W p l e R s m args below meth c H locs cells slots (vx_MQ below Qc XC args s mc ms free) (F0 m pc ls rest) := by
  intro T hT X
  have htr : e.platform.stackTraces = false := (show e.platform.stackTraces = l.stackTraces by rw [X.admits.platform]).trans hl
  have Y := vx_rebase X (R' := { frames := R.frames, locals := R.locals, cells := 1, slots := 6 }) (Nat.le_refl _) (Nat.le_refl _) hRcells hRslots
  obtain ⟨s', hA⟩ : ∃ z, z = (T.setVm s.vm).setFrames (.invoking m args :: below) := ⟨_, rfl⟩
  rw [← hA] at Y
  have hvm : s'.vm = s.vm := by rw [hA]; rfl
  have hhp : s'.heap = H := by rw [hA]; exact hT
  have hW0 : s.WarmedH s'.vm := by rw [hvm]; exact State.WarmedH.refl s
  have hat' : ∀ w ∈ vx_atS own ic cls names, w.before args s' = true := fun w hw => vx_ot_at hW0 hvm.symm (hgood w (List.mem_cons_of_mem _ (List.mem_cons_of_mem _ hw))) (hat w hw)
  have hk' : (Cond.classLink own ik cls).before args s' = true := vx_ot_at hW0 hvm.symm (hgood _ List.mem_cons_self) hk
  have hini' : (Cond.initialized cls).before args s' = true := vx_ot_at hW0 hvm.symm (hgood _ (List.mem_cons_of_mem _ List.mem_cons_self)) hini
  have hU' : vx_Zq Bundle.tN "UNASSIGNED_STACK" Bundle.steD A s' s'.heap := by rw [hhp]; exact vx_Zq.moved hW0.alike (hU.kept hS.2.1)
  have hN' : vx_Zq Bundle.tN "SUPPRESSED_SENTINEL" Bundle.listD A s' s'.heap := by rw [hhp]; exact vx_Zq.moved hW0.alike (hN.kept hS.2.1)
  have h : ∀ w ∈ Bundle.ownAtoms own ic cls names, w.before args s' = true := vx_own hat' (vx_isRefq hU'.1) (vx_isRefq hN'.1) hU'.2.word hN'.2.word
  have hown' : s'.vm.findClass own = some m.cls := by rw [hvm]; exact hown
  have hins : (Cond.instantiable cls 6).before args s' = true := h _ (by simp [Bundle.ownAtoms])
  obtain ⟨vm₁, cX, kX, hfX, hkX, -, -, X₁, st1⟩ := Y.newCold hexec (own := own) (C := cls) (index := ik) (n := 6) hown' hk' hins hini'
    (g := F0 m pc ls rest) rfl (by rw [hb]; exact d0) (Nat.le_refl _) (Nat.le_refl _)
  generalize hT1 : (T.setVm vm₁).pushCell { cls := cX, slots := kX.instanceTypes.map defaultValue, vm := .none } = T1 at X₁ st1
  have hcat : (Value.ref T.heap.size).category = 1 := rfl
  have hcellA : T1.heap[T.heap.size]? = some (freshCell cX kX) := by rw [← hT1]; exact State.heap_pushCell_size _ _
  have d3' : decode c.code (pc + 3) = .ok (.dup, 1) := by rw [hb]; exact d3
  have d4' : decode c.code (pc + 4) = .ok (.ldc_w is, 3) := by rw [hb]; exact d4
  have hstr' : vk_R own is text sa s' := vk_R.warm hW0 hstr
  obtain ⟨U, hsteps, hrun, hend, hW, hsame, ce, hce, hO⟩ := X₁.ctorThrowS hexec htr (own := own) (cls := cls) (names := names) (ic := ic) hown' hcls hnames h (fun x hx => nomatch hx) hfX hkX hcellA (by rw [hhp, hT]; exact Nat.le_refl _) (msg := .ref sa) rfl
    (g := { method := m, pc := pc + 7, locals := ls, stack := .ref sa :: .ref T.heap.size :: .ref T.heap.size :: rest, locked := none }) rfl hsize rfl rfl (rest := rest) rfl
    (by rw [hb]; exact d7) (by rw [hb]; exact d10) hout hRframes (by simp only [List.map_cons, List.sum_cons, hcat]; omega) hlocks
  obtain ⟨f1, f2⟩ := vx_frame hsame
  rw [hhp] at f1 f2
  have hWs : s.WarmedH U.vm := State.WarmedH.trans hW0 hW
  have hcl : s.vm.findClass cls = some ce.cls := by
    have h9 := hO.cls
    rw [hvm] at h9
    exact h9
  have hall : s.sameButNew ({ U with vm := s.vm } : State) locs mc ms := by
    subst hA
    obtain ⟨e1, e2⟩ := hsame
    rw [State.setFrames_setFrames] at e1
    have h2 : (T.setVm s.vm).sameButNew ({ U with vm := s.vm } : State) [] (0 + 1) (0 + 6) := ⟨e1, e2⟩
    have h3 := X.same.trans h2
    rw [List.append_nil] at h3
    exact h3.mono hc hs
  refine ⟨U, ?_, .threw T.heap.size, hrun, hend, Or.inr ⟨T.heap.size, rfl, cls, ce, locs, hx U hWs.alike f1 (fun q hq => f2 q hq (fun z hz => nomatch hz)), hce, hO.vm, hcl, hWs, hall, hf⟩⟩
  refine st1 _ ?_
  show Steps p.tables e below (T1.setTop { method := m, pc := pc + 3, locals := ls, stack := .ref T.heap.size :: rest, locked := none }) _
  jvm_step X₁.here [X₁.here.top, hexec, d3', Value.category]
  exact X₁.ldcStringW hexec (own := own) (text := text) (index := is) (a := sa) hown' hstr'.1 hstr'.2
    (g := { method := m, pc := pc + 4, locals := ls, stack := .ref T.heap.size :: .ref T.heap.size :: rest, locked := none }) rfl d4' _ hsteps
end Ends
section Bodies
variable {l : Launch}
theorem vx_ofW {y : MethodName} {ws ws' : List Cond} {rm : Room} {Pc : Array Value → State → Prop} {Qc : Array Value → State → Outcome → State → Prop} {XC : String → State → State → Prop} {mc ms : Nat} {free : Addr → Prop} {cc : ByteArray} {maxL : Nat} {ret : Option FieldType}
    (hy : plainName y.cls = true) (hw : ws = Cond.code y cc maxL ret :: ws')
    (body : ∀ p e s m args below meth c s₁, BodyLoose p l y (headSpec ws rm) cc maxL ret e s m args below meth c s₁ → c.maxLocals = maxL → (∀ x ∈ c.exceptionTable.toList, False) → Pc args s →
      W p l e (headSpec ws rm).room s m args below meth c s.heap [] 0 0 (vx_MQ below Qc XC args s mc ms free) (entryFrame m args maxL)) : vx_Met l y ws rm Pc Qc XC mc ms free := by
  refine MetFree.of_bodyS (code := cc) (maxLocals := maxL) (ret := ret) hy ?_ ?_
  · intro args s m h hn
    obtain ⟨meth, c, h1, h2, h3, h4, h5, h6, -, -⟩ := Cond.code_spec hn (atoms_spec (ws := ws) h _ (by rw [hw]; exact List.mem_cons_self))
    exact ⟨meth, c, h1, h2, h3, h4, h5, h6⟩
  · intro p e s m args below meth c s₁ B hml hP _
    have hh0 : s₁.heap = s.heap := by rw [B.state]; rfl
    have ht : ∀ x ∈ c.exceptionTable.toList, False := by
      obtain ⟨meth9, c9, h1, h2, -, -, -, -, h7, -⟩ := Cond.code_spec B.named (atoms_spec (ws := ws) B.pre _ (by rw [hw]; exact List.mem_cons_self))
      cases Option.some.inj (h1.symm.trans B.method)
      cases Option.some.inj (h2.symm.trans (Stand.of_body B).code)
      intro x hx
      rw [Array.isEmpty_iff.mp h7] at hx
      cases hx
    obtain ⟨t, a1, o, b1, b2, b3⟩ := body p e s m args below meth c s₁ B hml ht hP s₁ hh0 (Stand.of_body B)
    exact ⟨t, o, a1, b1, b2, b3⟩
/-- the table of a body with handlers -/
theorem vx_table {p : Program} {x y : MethodName} {S : Spec} {cc bytes : ByteArray} {maxL maxL' : Nat} {ret ret' : Option FieldType} {e : Env} {s s₁ : State} {m : MethodId} {args : Array Value} {below : List Frame} {meth : Method} {c : Code} {hh : List (Nat × Nat × Nat × Nat)}
    (B : BodyLoose p l y S cc maxL ret e s m args below meth c s₁) (h : (Cond.codeWith y bytes maxL' ret' hh).before args s = true) : c.exceptionTable.toList = tableOf hh := by
  obtain ⟨m9, meth9, c9, hn9, h1, h2, -, -, h6, -⟩ := Cond.codeWith_spec h
  cases Option.some.inj (hn9.symm.trans B.named)
  cases Option.some.inj (h1.symm.trans B.method)
  cases Option.some.inj (h2.symm.trans (Stand.of_body B).code)
  rw [← h6, table_eq]
end Bodies
end VXA
/-! ===== END ===== -/
/-! ===== BEGIN a static call of a method with an exception table ===== -/
section VXS
variable {p : Program} {l : Launch} {e : Env} {R : Room} {s : State} {m : MethodId} {args : Array Value} {below : List Frame} {meth : Method} {c : Code} {T : State} {H : Heap} {locs : List Loc} {cells slots : Nat}
abbrev vx_CSW (R : Room) (s : State) (args : Array Value) (own : String) (index : Nat) (y : MethodName) (bytes : ByteArray) (maxL : Nat) (ret : Option FieldType) (hh : List (Nat × Nat × Nat × Nat)) (ws : List Cond) (rm : Room) (mc ms n : Nat) : Prop :=
  (rm.cells = mc ∧ rm.slots = ms ∧ rm.frames + 1 ≤ R.frames ∧ 8 + (maxL + 11) + rm.locals ≤ R.locals ∧ (∀ w ∈ ws, ∀ (a' : Array Value) (U : State), s.WarmedH U.vm → w.before a' U = true) ∧ Cond.codeWith y bytes maxL ret hh ∈ ws) ∧
  (Cond.codeWith y bytes maxL ret hh).before args s = true ∧ (Cond.initialized y.cls).before args s = true ∧ (y.cls ≠ "java/lang/invoke/MethodHandle" ∧ y.cls ≠ "java/lang/invoke/VarHandle") ∧
  (∀ sig, parseMethodDescriptor y.desc = some sig → n = sig.parameters.length) ∧ (Cond.methodLink own index y).before args s = true ∧ (Cond.static y).before args s = true
theorem vx_cwSW {own : String} {index maxL mc ms : Nat} {y : MethodName} {bytes : ByteArray} {ret : Option FieldType} {hh : List (Nat × Nat × Nat × Nat)} {Ts ws ws' : List Cond} {rm : Room} (n : Nat) (ht : ∀ w ∈ Ts, w.before args s = true) (hT : GoodIn Ts (va_wsS own index y ws)) (hw : ws = Cond.codeWith y bytes maxL ret hh :: ws') (hrc : rm.cells = mc) (hrs : rm.slots = ms)
    (hd : y.cls ≠ "java/lang/invoke/MethodHandle" ∧ y.cls ≠ "java/lang/invoke/VarHandle" ∧ (parseMethodDescriptor y.desc).map (fun d => d.parameters.length) = some n) (hR : rm.frames + 1 ≤ R.frames ∧ 8 + (maxL + 11) + rm.locals ≤ R.locals) :
    vx_CSW R s args own index y bytes maxL ret hh ws rm mc ms n := by
  have ok : ∀ w ∈ va_wsS own index y ws, w.before args s = true := fun w h => ht w (hT w h).1
  have hG : GoodIn Ts ws := fun w h => hT w (by unfold va_wsS; exact List.mem_append_right _ h)
  have hc : Cond.codeWith y bytes maxL ret hh ∈ ws := by rw [hw]; exact List.mem_cons_self
  refine ⟨⟨hrc, hrs, hR.1, hR.2, pay_in ht hG, hc⟩, ht _ (hG _ hc).1, ok _ (by simp [va_wsS]), ⟨hd.1, hd.2.1⟩, fun sig h => ?_, ok _ (by simp [va_wsS]), ok _ (by simp [va_wsS])⟩
  have h2 := hd.2.2
  rw [h] at h2
  exact (Option.some.inj h2).symm
theorem vx_callSW (X : Stand p l e R s m args below meth c T locs cells slots) (hexec : p.tables.exec = Jvm.exec) {own : String} {index : Nat} {y : MethodName} {bytes : ByteArray} {maxL : Nat} {ret : Option FieldType} {hh : List (Nat × Nat × Nat × Nat)}
    (hown : s.vm.findClass own = some m.cls) (hlink : (Cond.methodLink own index y).before args s = true) (hstat : (Cond.static y).before args s = true) (hinit : (Cond.initialized y.cls).before args s = true)
    (hcode : (Cond.codeWith y bytes maxL ret hh).before args s = true) (hy : y.cls ≠ "java/lang/invoke/MethodHandle" ∧ y.cls ≠ "java/lang/invoke/VarHandle")
    {W9 : Nat} {Pre : Pt → Array Value → Prop} {Post : Pt → Array Value → Option Value → Pt → Prop} (hK : Back l R p e below s args y 3 W9 Pre Post)
    {g : JFrame} (hg : g.method = m) (hsize : g.locals.size = c.maxLocals) {argsL rest : List Value} (hlen : ∀ sig, parseMethodDescriptor y.desc = some sig → argsL.length = sig.parameters.length)
    (hstack : g.stack = argsL.reverse ++ rest) (hW : 2 * g.monitorRoom + (rest.map fun v => v.category).sum ≤ W9) (hdg : decode c.code g.pc = .ok (.invokestatic index, 3))
    (hpre : ∀ vm₁, s.WarmedH vm₁ → Pre ⟨T.setVm vm₁, locs, cells, slots⟩ argsL.toArray) :
    ∃ (v : Option Value) (vm₁ : Vm) (B : Pt), s.WarmedH vm₁ ∧ Stand p l e R s m args below meth c B.U B.locs B.cells B.slots ∧ Post ⟨T.setVm vm₁, locs, cells, slots⟩ argsL.toArray v B ∧
      ∀ target, Steps p.tables e below (B.U.setTop { g with pc := g.pc + 3, stack := v.toList ++ rest }) target → Steps p.tables e below (T.setTop g) target := by
  obtain ⟨mk, methM, cM, hnamed, hmethM, -, -, -, -, -, -, hsigM⟩ := Cond.codeWith_spec hcode
  have hstatic : methM.isStatic = true := Cond.static_spec hnamed hmethM hstat
  obtain ⟨kP, hkP, -⟩ := className_of_methodNamed hnamed
  have hinitP : kP.init = .initialized := Cond.initialized_spec (findClass_of_methodNamed hnamed) hkP hinit
  obtain ⟨vm₁, X₁, hstep₁⟩ := X.invokestatic hexec hown hlink hnamed hmethM hstatic hkP hinitP hy (g := g) hg (argsL := argsL) (rest := rest) (hlen _ hsigM) hstack hdg
  obtain ⟨v, B, X', hpost, hsteps⟩ := hK m meth c ⟨T.setVm vm₁, locs, cells, slots⟩ { g with stack := rest } (.invokestatic index) mk argsL.toArray X₁ hg hsize hdg hW (X₁.named hnamed) (hpre vm₁ X₁.warmed)
  exact ⟨v, vm₁, B, X₁.warmed, X', hpost, fun target h => hstep₁ _ fun acts => by rw [doInvoke_state]; exact hsteps.trans h⟩
theorem vx_runSW {y : MethodName} {bytes cc : ByteArray} {maxL nL mc ms n index : Nat} {ret : Option FieldType} {hh : List (Nat × Nat × Nat × Nat)} {ws : List Cond} {rm : Room} {Pc : Array Value → State → Prop} {Qc : Array Value → State → Outcome → State → Prop} {free : Addr → Prop} {Ts : List Cond} {own : String} {As rest : List Value} {g : JFrame}
    (S : CallFix p m c cc nL s args Ts own) (hM : Met l y ws rm Pc Qc mc ms free) (cw : vx_CSW R s args own index y bytes maxL ret hh ws rm mc ms n) (hp : PreS s H Pc As)
    (hg : g.method = m) (hn : As.length = n) (hsize : g.locals.size = nL) (hstack : g.stack = As.reverse ++ rest) (hW : 2 * g.monitorRoom + (rest.map fun v => v.category).sum ≤ 8) (hdg : decode cc g.pc = .ok (.invokestatic index, 3)) (hf : cells + mc ≤ R.cells ∧ slots + ms ≤ R.slots) :
    va_Run p l e R s m args below meth c H locs cells slots mc ms g rest (Qc As.toArray) (free) := by
  obtain ⟨⟨hrc, hrs, hfr, hlo, hws, hcw⟩, hcode, hini, hy, hlen, hl, hstt⟩ := cw
  have hK : Back l R p e below s args y 3 8 (PreOf R mc ms Pc) (PostOf Qc mc ms free) := va_backW (hh := hh) (bytes := bytes) (maxL := maxL) (ret := ret) hM hp.1 hrc hrs hfr hlo hws hcw (fun a' U hW => word_at hW (Or.inl (by first | rfl | simp [Cond.onTables, Cond.keeps, Cond.steady])) hini)
  obtain ⟨hx, hb, hml, ho, -⟩ := S
  intro T hT X
  obtain ⟨v, vm₁, ⟨U', l2, c2, s2⟩, hW₁, X', ⟨g', mk, t, L, e1, e2, hq, h1, hL, h2, h3⟩, st⟩ := vx_callSW X hx (hh := hh) (bytes := bytes) (maxL := maxL) (ret := ret) ho hl hstt hini hcode hy hK hg (hsize.trans hml.symm) (argsL := As) (rest := rest) (fun sig h => hn.trans (hlen sig h)) hstack hW (by rw [hb]; exact hdg)
    (fun vm₁ hW₁ => ⟨hf.1, hf.2, hp.2 (T.setVm vm₁) hT hW₁⟩)
  dsimp only [Pt.U, Pt.locs, Pt.cells, Pt.slots] at X' e1 e2 h1 h2 h3 st
  subst h1; subst h2; subst h3
  exact ⟨v, (T.setVm vm₁).calling g' mk As.toArray, t, U', L, hT, X', hL, e1, e2, hq, st⟩
/-- not caught here, past rows that name other classes: it goes on to the caller -/
theorem vx_outP {p : Program} {l : Launch} {e : Env} {R : Room} {s : State} {m : MethodId} {args : Array Value} {below : List Frame} {meth : Method} {c : Code} {H : Heap} {locs : List Loc} {cells slots : Nat} {free : Addr → Prop} {ls : Array Slot} {rest : List Value} {Qc : Array Value → State → Outcome → State → Prop} {XC : String → State → State → Prop}
    {pc : Nat} {own E : String} {ce : Cell} {q : Addr} {mc ms : Nat} (hown : s.vm.findClass own = some m.cls) (hlocks : meth.locks = false)
    (hpass : ∀ z ∈ c.exceptionTable.toList, covers z pc = false ∨ (z.catchType ≠ 0 ∧ ∃ nm : String, (Cond.classLink own z.catchType nm).before args s = true ∧ va_Nc E nm s)) (hcell : H[q]? = some ce) (hv : ce.vm = .none) (hcl : s.vm.findClass E = some ce.cls)
    (hx : ∀ t : State, t.heap = H → s.vm.Alike t.vm → XC E s t) (hf : ∀ z ∈ locs, free z.base) (hc : cells ≤ mc) (hs : slots ≤ ms) :
    vx_W p l e R s m args below meth c H locs cells slots (vx_MQ below Qc XC args s mc ms free) (F0 m pc ls rest) q := by
  intro T hT X
  have hpl : e.platform.magicAccessors = ({} : Platform).magicAccessors := by rw [X.admits.platform]
  obtain ⟨vm', hW', X', st⟩ := X.outThrough hlocks q (g := F0 m pc ls rest) rfl rfl rfl (cell := ce) (by rw [hT]; exact hcell) (by rw [hv]; rfl)
    (by obtain ⟨k9, h9, -⟩ := Vm.findClass_spec hcl; exact ⟨k9, h9⟩) (fun z hz => by
      rcases hpass z hz with h | ⟨hz0, nm, hl1, hn1⟩
      · exact Or.inl h
      · obtain ⟨c6, hc6, hcl6⟩ := Cond.classLink_spec hown hl1 e.platform hpl
        obtain ⟨a8, b8, h1, h2, h3⟩ := hn1
        cases Option.some.inj (h1.symm.trans hcl)
        cases Option.some.inj (h2.symm.trans hc6)
        exact Or.inr ⟨hz0, _, hcl6, h3⟩)
  obtain ⟨g₀, hfr⟩ := X'.frames_eq
  have hcell9 : ((T.setVm vm').setFrames (.throwing q :: below)).heap[q]? = some ce := by
    show T.heap[q]? = some ce
    rw [hT]; exact hcell
  have hend : Ended ((T.setVm vm').setFrames (.throwing q :: below)) below (.threw q) := State.frames_setFrames _ (State.cur_lt_of_frames hfr)
  refine ⟨(T.setVm vm').setFrames (.throwing q :: below), ?_, .threw q, X'.here.running, hend, Or.inr ⟨q, rfl, E, ce, locs, hx _ hT (X'.ends _).1.alike, hcell9, hv, hcl, (X'.ends _).1, (X'.ends _).2.mono hc hs, hf⟩⟩
  rw [X.pushThrowing_eq]
  exact st
/-- a thing of a world lies in the heap -/
theorem vx_lt {D : va_G} {cl : List vw_C} {ws : va_W} {H1 : Heap} (h : va_P D cl ws H1) {k : Nat} {q : Nat × va_E} (hk : ws[k]? = some q) : q.1 < H1.size := (h k q hk).lt
end VXS
/-! ===== END ===== -/
/-! ===== BEGIN methods with a table of their own: called by a name, returning or throwing ===== -/
section VXH
/-! vx_backW, vx_callVX, vx_callSX, vx_callVW, vx_runVW, vx_runVX, vx_runSX, vx_ofWH follow the same proofs as their sisters above (Free/Laws.lean, Shelf42/LK1.lean); vx_outP calls Shelf42/NT130.lean (outThrough). -/
section
variable {l : Launch} {R : Room} {p : Program} {e : Env} {below : List Frame} {s : State} {sargs : Array Value} {y : MethodName} {len W9 : Nat}
theorem vx_backW {ws : List Cond} {rm : Room} {Pc : Array Value → State → Prop} {Qc : Array Value → State → Outcome → State → Prop} {XC : String → State → State → Prop} {mc ms : Nat} {free : Addr → Prop} {bytes : ByteArray} {maxL : Nat} {ret : Option FieldType} {hh : List (Nat × Nat × Nat × Nat)}
    (hM : vx_Met l y ws rm Pc Qc XC mc ms free) (hblind : FrameBlind Pc) (hrc : rm.cells = mc) (hrs : rm.slots = ms)
    (hframes : rm.frames + 1 ≤ R.frames) (hlocals : W9 + (maxL + 11) + rm.locals ≤ R.locals)
    (hws : ∀ w ∈ ws, ∀ a' U, s.WarmedH U.vm → w.before a' U = true) (hcode : Cond.codeWith y bytes maxL ret hh ∈ ws) (hinit : ∀ a' U, s.WarmedH U.vm → (Cond.initialized y.cls).before a' U = true) :
    vx_Back l R p e below s sargs y len W9 (PreOf R mc ms Pc) (PostOf Qc mc ms free) (vx_Post XC mc ms free) := by
  intro m meth c A g ig mk a X hg hsize hdg hW hn hp
  have h1 : (headSpec ws rm).pre.before a A.U = true := atoms_intro fun w hw => hws w hw _ _ X.warmed
  have h2 : (Cond.codeWith y bytes maxL ret hh).before a A.U = true := hws _ hcode _ _ X.warmed
  have h3 : (Cond.initialized y.cls).before a A.U = true := hinit _ _ X.warmed
  have h4 : A.cells + (headSpec ws rm).room.cells ≤ R.cells := by rw [show (headSpec ws rm).room.cells = mc from hrc]; exact hp.1
  have h5 : A.slots + (headSpec ws rm).room.slots ≤ R.slots := by rw [show (headSpec ws rm).room.slots = ms from hrs]; exact hp.2.1
  have hPc : Pc a (A.U.calling g mk a) := hblind _ _ _ _ hp.2.2
  obtain ⟨U, Ls, c0, s0⟩ := A
  dsimp only [Pt.U, Pt.locs, Pt.cells, Pt.slots] at h1 h2 h3 h4 h5 X hn hPc ⊢
  obtain ⟨m9, methY, cY, hn9, hmY, hcY, -, hlY, -⟩ := Cond.codeWith_spec h2
  cases Option.some.inj (hn9.symm.trans hn)
  obtain ⟨kY, hkY, -⟩ := className_of_methodNamed hn
  have hinitY : kY.init = .initialized := Cond.initialized_spec (findClass_of_methodNamed hn) hkY h3
  have h : At U g.method c below := by rw [hg]; exact X.here
  have hlocals9 : W9 + (maxL + 11) + (headSpec ws rm).room.locals ≤ R.locals := hlocals
  have happ : (headSpec ws rm).appliesLoose y e.platform (U.calling g mk a) = true :=
    Spec.appliesLoose_calling (g := g) h hdg hn hkY hinitY
      (X.room_calling (g := g) (R' := (headSpec ws rm).room) hsize hmY hcY hframes (by rw [hlY]; omega) h4 h5) h1
  obtain ⟨mid, hmid⟩ := h.above
  have hfr : (U.setTop g).frames = (.java g :: mid) ++ below := by rw [State.frames_setTop' g h.top, hmid]; rfl
  obtain ⟨o, s₂, hsteps, -, hend, hq⟩ := Steps.callFree hM p X.admits X.cas X.clock (acts := []) hfr happ hPc trivial
  have hq' : vx_Q Qc XC mc ms free a (U.calling g mk a) o s₂ := hq
  rw [State.frames_setTop' g h.top] at hend
  obtain ⟨g₀, hg0⟩ := Option.isSome_iff_exists.mp h.top
  obtain ⟨r, hr⟩ := State.topJava?_eq_some.mp hg0
  have hr' : (({ U with heap := s₂.heap, slotsUsed := s₂.slotsUsed } : State).setVm s₂.vm).frames = .java g₀ :: r := hr
  rcases hq' with ⟨hqc, L, hfe, hL⟩ | ⟨q, rfl, E, ce, L, hx, hce, hcv, hcl, hW₂, hsm, hL⟩
  · obtain ⟨⟨v, rfl⟩, hW₂, e2, q2, q3, q4, q5, q6⟩ := id hfe
    have e3 : s₂ = ({ (U.calling g mk a).setFrames s₂.frames with heap := s₂.heap, slotsUsed := s₂.slotsUsed } : State).setVm s₂.vm := by
      have : s₂ = ({ s₂ with vm := (U.calling g mk a).vm } : State).setVm s₂.vm := rfl
      rw [e2] at this
      exact this
    obtain ⟨c₂, i₂, len₂, hc₂, hd₂, hf₂⟩ := hend
    have hW' : U.WarmedH s₂.vm := hW₂
    have hcc : c₂ = c := by
      have h1 : s₂.code? g.method = U.code? g.method := by
        rw [State.code?_eq, State.code?_eq, hW'.alike.method?]
      exact Option.some.inj (hc₂.symm.trans (h1.trans h.code))
    subst hcc
    have hlen : len₂ = len := by rw [hdg] at hd₂; cases hd₂; rfl
    subst hlen
    have hs₂ : s₂ = (({ U with heap := s₂.heap, slotsUsed := s₂.slotsUsed } : State).setVm s₂.vm).setTop { g with pc := g.pc + len₂, stack := v.toList ++ g.stack } := by
      refine e3.trans ?_
      rw [hf₂, State.calling_eq h.top, State.setFrames_setFrames, State.setTop_of_frames _ hr', hr]
      rfl
    have hsame : U.sameButNew ({ U with heap := s₂.heap, slotsUsed := s₂.slotsUsed } : State) L mc ms := by
      refine ⟨?_, q2, q3, q4, q5, q6⟩
      obtain ⟨t, ht, -⟩ := State.frames_cons hr
      show ({ U with heap := s₂.heap, slotsUsed := s₂.slotsUsed } : State) = { U.setFrames U.frames with heap := s₂.heap, slotsUsed := s₂.slotsUsed }
      rw [State.setFrames_self ht]
    subst hg
    refine Or.inl ⟨v, ⟨(({ U with heap := s₂.heap, slotsUsed := s₂.slotsUsed } : State).setVm s₂.vm), Ls ++ L, c0 + mc, s0 + ms⟩,
      ⟨X.admits, X.cas, X.clock, X.frames, X.room, X.hears, X.method, X.code, (X.here.setHeapUsed s₂.heap s₂.slotsUsed).setVm hW'.alike, X.tail, State.WarmedH.trans X.warmed hW', X.limits, X.bytes, X.same.trans (hsame.setVm s.vm)⟩,
      ⟨g, mk, s₂, L, rfl, rfl, hqc, rfl, hL, rfl, rfl⟩, ?_⟩
    show Steps p.tables e below _ ((({ U with heap := s₂.heap, slotsUsed := s₂.slotsUsed } : State).setVm s₂.vm).setTop { g with pc := g.pc + len₂, stack := v.toList ++ g.stack })
    rw [← hs₂]
    exact hsteps
  · obtain ⟨e2, q2, q3, q4, q5, q6⟩ := id hsm
    have e3 : s₂ = ({ (U.calling g mk a).setFrames s₂.frames with heap := s₂.heap, slotsUsed := s₂.slotsUsed } : State).setVm s₂.vm := by
      have : s₂ = ({ s₂ with vm := (U.calling g mk a).vm } : State).setVm s₂.vm := rfl
      rw [e2] at this
      exact this
    have hf₂ : s₂.frames = .throwing q :: .java g :: U.frames.tail := hend
    have hW' : U.WarmedH s₂.vm := hW₂
    have hs₂ : s₂ = ((({ U with heap := s₂.heap, slotsUsed := s₂.slotsUsed } : State).setVm s₂.vm).setTop g).pushFrame (.throwing q) := by
      refine e3.trans ?_
      rw [hf₂, State.calling_eq h.top, State.setFrames_setFrames, State.pushFrame, State.frames_setTop _ hr', State.setTop_of_frames _ hr', State.setFrames_setFrames, hr]
      rfl
    have hsame : U.sameButNew ({ U with heap := s₂.heap, slotsUsed := s₂.slotsUsed } : State) L mc ms := by
      refine ⟨?_, q2, q3, q4, q5, q6⟩
      obtain ⟨t, ht, -⟩ := State.frames_cons hr
      show ({ U with heap := s₂.heap, slotsUsed := s₂.slotsUsed } : State) = { U.setFrames U.frames with heap := s₂.heap, slotsUsed := s₂.slotsUsed }
      rw [State.setFrames_self ht]
    subst hg
    refine Or.inr ⟨q, ⟨(({ U with heap := s₂.heap, slotsUsed := s₂.slotsUsed } : State).setVm s₂.vm), Ls ++ L, c0 + mc, s0 + ms⟩,
      ⟨X.admits, X.cas, X.clock, X.frames, X.room, X.hears, X.method, X.code, (X.here.setHeapUsed s₂.heap s₂.slotsUsed).setVm hW'.alike, X.tail, State.WarmedH.trans X.warmed hW', X.limits, X.bytes, X.same.trans (hsame.setVm s.vm)⟩,
      ⟨g, mk, s₂, L, E, ce, rfl, rfl, hx, hce, hcv, hcl, rfl, hL, rfl, rfl⟩, ?_⟩
    show Steps p.tables e below _ (((({ U with heap := s₂.heap, slotsUsed := s₂.slotsUsed } : State).setVm s₂.vm).setTop g).pushFrame (.throwing q))
    rw [← hs₂]
    exact hsteps
end
variable {p : Program} {l : Launch} {e : Env} {R : Room} {s : State} {m : MethodId} {args : Array Value} {below : List Frame} {meth : Method} {c : Code} {T : State} {H : Heap} {locs : List Loc} {cells slots : Nat}
theorem vx_callVX (X : Stand p l e R s m args below meth c T locs cells slots) (hexec : p.tables.exec = Jvm.exec) {own C : String} {index : Nat} {y : MethodName} {bytes : ByteArray} {maxL : Nat} {ret : Option FieldType} {hh : List (Nat × Nat × Nat × Nat)}
    (hown : s.vm.findClass own = some m.cls) (hlink : (Cond.methodLink own index y).before args s = true) (hinst : (Cond.instanceMethod y).before args s = true) (hsel : (Cond.selects C y y).before args s = true)
    (hcode : (Cond.codeWith y bytes maxL ret hh).before args s = true) (hy : y.cls ≠ "java/lang/invoke/MethodHandle" ∧ y.cls ≠ "java/lang/invoke/VarHandle")
    {W9 : Nat} {Pre : Pt → Array Value → Prop} {Post : Pt → Array Value → Option Value → Pt → Prop} {PostX : Pt → Array Value → Addr → Pt → Prop} (hK : vx_Back l R p e below s args y 3 W9 Pre Post PostX)
    {b : Addr} {cellB : Cell} (hcell : T.heap[b]? = some cellB) (hobj : cellB.vm.isStatics = false) (hcls : s.vm.findClass C = some cellB.cls)
    {g : JFrame} (hg : g.method = m) (hsize : g.locals.size = c.maxLocals) {argsL rest : List Value} (hlen : ∀ sig, parseMethodDescriptor y.desc = some sig → argsL.length = sig.parameters.length)
    (hstack : g.stack = argsL.reverse ++ .ref b :: rest) (hW : 2 * g.monitorRoom + (rest.map fun v => v.category).sum ≤ W9) (hdg : decode c.code g.pc = .ok (.invokevirtual index, 3))
    (hpre : ∀ vm₁, s.WarmedH vm₁ → Pre ⟨T.setVm vm₁, locs, cells, slots⟩ (Value.ref b :: argsL).toArray) :
    (∃ (v : Option Value) (vm₁ : Vm) (B : Pt), s.WarmedH vm₁ ∧ Stand p l e R s m args below meth c B.U B.locs B.cells B.slots ∧ Post ⟨T.setVm vm₁, locs, cells, slots⟩ (Value.ref b :: argsL).toArray v B ∧
      ∀ target, Steps p.tables e below (B.U.setTop { g with pc := g.pc + 3, stack := v.toList ++ rest }) target → Steps p.tables e below (T.setTop g) target) ∨
    (∃ (q : Addr) (vm₁ : Vm) (B : Pt), s.WarmedH vm₁ ∧ Stand p l e R s m args below meth c B.U B.locs B.cells B.slots ∧ PostX ⟨T.setVm vm₁, locs, cells, slots⟩ (Value.ref b :: argsL).toArray q B ∧
      Steps p.tables e below (T.setTop g) ((B.U.setTop { g with stack := rest }).pushFrame (.throwing q))) := by
  obtain ⟨mk, methM, hnamed, hmethM, hstM, habM⟩ := Cond.instanceMethod_spec hinst
  obtain ⟨m8, methM', cM, hn8, hmethM', -, -, -, -, -, -, hsigM⟩ := Cond.codeWith_spec hcode
  cases Option.some.inj (hn8.symm.trans hnamed)
  cases hmethM.symm.trans hmethM'
  obtain ⟨c2, r2, m2, q1, q2, q3, q4, kP, hkP, hkPi⟩ := Cond.selects_spec hsel
  cases hcls.symm.trans q1
  cases (State.methodFound?_of_named hnamed hy).symm.trans q2
  cases hnamed.symm.trans q3
  have hselP : selectMethod e.platform s.vm cellB.cls mk = .method mk := by rw [Launch.admits_selectMethod X.admits]; exact q4
  obtain ⟨vm₁, X₁, hstep₁⟩ := X.invokevirtual hexec hown hlink hnamed hmethM hstM hkP hkPi hy (a := b) (cell := cellB) hcell
    (fun z h => by rw [h] at hobj; cases hobj) hselP hmethM habM hkP hkPi (g := g) hg (argsL := argsL) (rest := rest) (hlen _ hsigM) hstack hdg
  rcases hK m meth c ⟨T.setVm vm₁, locs, cells, slots⟩ { g with stack := rest } (.invokevirtual index) mk (Value.ref b :: argsL).toArray X₁ hg hsize hdg hW (X₁.named hnamed) (hpre vm₁ X₁.warmed) with ⟨v, B, X', hpost, hsteps⟩ | ⟨q, B, X', hpost, hsteps⟩
  · exact Or.inl ⟨v, vm₁, B, X₁.warmed, X', hpost, fun target h => hstep₁ _ fun acts => by rw [doInvoke_state]; exact hsteps.trans h⟩
  · exact Or.inr ⟨q, vm₁, B, X₁.warmed, X', hpost, hstep₁ _ fun acts => by rw [doInvoke_state]; exact hsteps⟩
theorem vx_callSX (X : Stand p l e R s m args below meth c T locs cells slots) (hexec : p.tables.exec = Jvm.exec) {own : String} {index : Nat} {y : MethodName} {bytes : ByteArray} {maxL : Nat} {ret : Option FieldType} {hh : List (Nat × Nat × Nat × Nat)}
    (hown : s.vm.findClass own = some m.cls) (hlink : (Cond.methodLink own index y).before args s = true) (hstat : (Cond.static y).before args s = true) (hinit : (Cond.initialized y.cls).before args s = true)
    (hcode : (Cond.codeWith y bytes maxL ret hh).before args s = true) (hy : y.cls ≠ "java/lang/invoke/MethodHandle" ∧ y.cls ≠ "java/lang/invoke/VarHandle")
    {W9 : Nat} {Pre : Pt → Array Value → Prop} {Post : Pt → Array Value → Option Value → Pt → Prop} {PostX : Pt → Array Value → Addr → Pt → Prop} (hK : vx_Back l R p e below s args y 3 W9 Pre Post PostX)
    {g : JFrame} (hg : g.method = m) (hsize : g.locals.size = c.maxLocals) {argsL rest : List Value} (hlen : ∀ sig, parseMethodDescriptor y.desc = some sig → argsL.length = sig.parameters.length)
    (hstack : g.stack = argsL.reverse ++ rest) (hW : 2 * g.monitorRoom + (rest.map fun v => v.category).sum ≤ W9) (hdg : decode c.code g.pc = .ok (.invokestatic index, 3))
    (hpre : ∀ vm₁, s.WarmedH vm₁ → Pre ⟨T.setVm vm₁, locs, cells, slots⟩ argsL.toArray) :
    (∃ (v : Option Value) (vm₁ : Vm) (B : Pt), s.WarmedH vm₁ ∧ Stand p l e R s m args below meth c B.U B.locs B.cells B.slots ∧ Post ⟨T.setVm vm₁, locs, cells, slots⟩ argsL.toArray v B ∧
      ∀ target, Steps p.tables e below (B.U.setTop { g with pc := g.pc + 3, stack := v.toList ++ rest }) target → Steps p.tables e below (T.setTop g) target) ∨
    (∃ (q : Addr) (vm₁ : Vm) (B : Pt), s.WarmedH vm₁ ∧ Stand p l e R s m args below meth c B.U B.locs B.cells B.slots ∧ PostX ⟨T.setVm vm₁, locs, cells, slots⟩ argsL.toArray q B ∧
      Steps p.tables e below (T.setTop g) ((B.U.setTop { g with stack := rest }).pushFrame (.throwing q))) := by
  obtain ⟨mk, methM, cM, hnamed, hmethM, -, -, -, -, -, -, hsigM⟩ := Cond.codeWith_spec hcode
  have hstatic : methM.isStatic = true := Cond.static_spec hnamed hmethM hstat
  obtain ⟨kP, hkP, -⟩ := className_of_methodNamed hnamed
  have hinitP : kP.init = .initialized := Cond.initialized_spec (findClass_of_methodNamed hnamed) hkP hinit
  obtain ⟨vm₁, X₁, hstep₁⟩ := X.invokestatic hexec hown hlink hnamed hmethM hstatic hkP hinitP hy (g := g) hg (argsL := argsL) (rest := rest) (hlen _ hsigM) hstack hdg
  rcases hK m meth c ⟨T.setVm vm₁, locs, cells, slots⟩ { g with stack := rest } (.invokestatic index) mk argsL.toArray X₁ hg hsize hdg hW (X₁.named hnamed) (hpre vm₁ X₁.warmed) with ⟨v, B, X', hpost, hsteps⟩ | ⟨q, B, X', hpost, hsteps⟩
  · exact Or.inl ⟨v, vm₁, B, X₁.warmed, X', hpost, fun target h => hstep₁ _ fun acts => by rw [doInvoke_state]; exact hsteps.trans h⟩
  · exact Or.inr ⟨q, vm₁, B, X₁.warmed, X', hpost, hstep₁ _ fun acts => by rw [doInvoke_state]; exact hsteps⟩
theorem vx_callVW (X : Stand p l e R s m args below meth c T locs cells slots) (hexec : p.tables.exec = Jvm.exec) {own C : String} {index : Nat} {y : MethodName} {bytes : ByteArray} {maxL : Nat} {ret : Option FieldType} {hh : List (Nat × Nat × Nat × Nat)}
    (hown : s.vm.findClass own = some m.cls) (hlink : (Cond.methodLink own index y).before args s = true) (hinst : (Cond.instanceMethod y).before args s = true) (hsel : (Cond.selects C y y).before args s = true)
    (hcode : (Cond.codeWith y bytes maxL ret hh).before args s = true) (hy : y.cls ≠ "java/lang/invoke/MethodHandle" ∧ y.cls ≠ "java/lang/invoke/VarHandle")
    {W9 : Nat} {Pre : Pt → Array Value → Prop} {Post : Pt → Array Value → Option Value → Pt → Prop} (hK : Back l R p e below s args y 3 W9 Pre Post)
    {b : Addr} {cellB : Cell} (hcell : T.heap[b]? = some cellB) (hobj : cellB.vm.isStatics = false) (hcls : s.vm.findClass C = some cellB.cls)
    {g : JFrame} (hg : g.method = m) (hsize : g.locals.size = c.maxLocals) {argsL rest : List Value} (hlen : ∀ sig, parseMethodDescriptor y.desc = some sig → argsL.length = sig.parameters.length)
    (hstack : g.stack = argsL.reverse ++ .ref b :: rest) (hW : 2 * g.monitorRoom + (rest.map fun v => v.category).sum ≤ W9) (hdg : decode c.code g.pc = .ok (.invokevirtual index, 3))
    (hpre : ∀ vm₁, s.WarmedH vm₁ → Pre ⟨T.setVm vm₁, locs, cells, slots⟩ (Value.ref b :: argsL).toArray) :
    ∃ (v : Option Value) (vm₁ : Vm) (B : Pt), s.WarmedH vm₁ ∧ Stand p l e R s m args below meth c B.U B.locs B.cells B.slots ∧ Post ⟨T.setVm vm₁, locs, cells, slots⟩ (Value.ref b :: argsL).toArray v B ∧
      ∀ target, Steps p.tables e below (B.U.setTop { g with pc := g.pc + 3, stack := v.toList ++ rest }) target → Steps p.tables e below (T.setTop g) target := by
  obtain ⟨mk, methM, hnamed, hmethM, hstM, habM⟩ := Cond.instanceMethod_spec hinst
  obtain ⟨m8, methM', cM, hn8, hmethM', -, -, -, -, -, -, hsigM⟩ := Cond.codeWith_spec hcode
  cases Option.some.inj (hn8.symm.trans hnamed)
  cases hmethM.symm.trans hmethM'
  obtain ⟨c2, r2, m2, q1, q2, q3, q4, kP, hkP, hkPi⟩ := Cond.selects_spec hsel
  cases hcls.symm.trans q1
  cases (State.methodFound?_of_named hnamed hy).symm.trans q2
  cases hnamed.symm.trans q3
  have hselP : selectMethod e.platform s.vm cellB.cls mk = .method mk := by rw [Launch.admits_selectMethod X.admits]; exact q4
  obtain ⟨vm₁, X₁, hstep₁⟩ := X.invokevirtual hexec hown hlink hnamed hmethM hstM hkP hkPi hy (a := b) (cell := cellB) hcell
    (fun z h => by rw [h] at hobj; cases hobj) hselP hmethM habM hkP hkPi (g := g) hg (argsL := argsL) (rest := rest) (hlen _ hsigM) hstack hdg
  obtain ⟨v, B, X', hpost, hsteps⟩ := hK m meth c ⟨T.setVm vm₁, locs, cells, slots⟩ { g with stack := rest } (.invokevirtual index) mk (Value.ref b :: argsL).toArray X₁ hg hsize hdg hW (X₁.named hnamed) (hpre vm₁ X₁.warmed)
  exact ⟨v, vm₁, B, X₁.warmed, X', hpost, fun target h => hstep₁ _ fun acts => by rw [doInvoke_state]; exact hsteps.trans h⟩
abbrev vx_CVW (R : Room) (s : State) (args : Array Value) (own C : String) (index : Nat) (y : MethodName) (bytes : ByteArray) (maxL : Nat) (ret : Option FieldType) (hh : List (Nat × Nat × Nat × Nat)) (ws : List Cond) (rm : Room) (mc ms n : Nat) : Prop :=
  (rm.cells = mc ∧ rm.slots = ms ∧ rm.frames + 1 ≤ R.frames ∧ 8 + (maxL + 11) + rm.locals ≤ R.locals ∧ (∀ w ∈ ws, ∀ (a' : Array Value) (U : State), s.WarmedH U.vm → w.before a' U = true) ∧ Cond.codeWith y bytes maxL ret hh ∈ ws) ∧
  (Cond.codeWith y bytes maxL ret hh).before args s = true ∧ (Cond.initialized y.cls).before args s = true ∧ (y.cls ≠ "java/lang/invoke/MethodHandle" ∧ y.cls ≠ "java/lang/invoke/VarHandle") ∧
  (∀ sig, parseMethodDescriptor y.desc = some sig → n = sig.parameters.length) ∧ (Cond.methodLink own index y).before args s = true ∧ (Cond.instanceMethod y).before args s = true ∧ (Cond.selects C y y).before args s = true
theorem vx_cwVW {own C : String} {index maxL mc ms : Nat} {y : MethodName} {bytes : ByteArray} {ret : Option FieldType} {hh : List (Nat × Nat × Nat × Nat)} {Ts ws ws' : List Cond} {rm : Room} (n : Nat) (ht : ∀ w ∈ Ts, w.before args s = true) (hT : GoodIn Ts (wsV own index C y ws)) (hw : ws = Cond.codeWith y bytes maxL ret hh :: ws') (hrc : rm.cells = mc) (hrs : rm.slots = ms)
    (hd : y.cls = C ∧ y.cls ≠ "java/lang/invoke/MethodHandle" ∧ y.cls ≠ "java/lang/invoke/VarHandle" ∧ (parseMethodDescriptor y.desc).map (fun d => d.parameters.length) = some n) (hR : rm.frames + 1 ≤ R.frames ∧ 8 + (maxL + 11) + rm.locals ≤ R.locals) :
    vx_CVW R s args own C index y bytes maxL ret hh ws rm mc ms n := by
  obtain ⟨hC, hd⟩ := hd
  subst hC
  have ok : ∀ w ∈ wsV own index y.cls y ws, w.before args s = true := fun w h => ht w (hT w h).1
  have hG : GoodIn Ts ws := fun w h => hT w (by unfold wsV; exact List.mem_append_right _ h)
  have hc : Cond.codeWith y bytes maxL ret hh ∈ ws := by rw [hw]; exact List.mem_cons_self
  refine ⟨⟨hrc, hrs, hR.1, hR.2, pay_in ht hG, hc⟩, ht _ (hG _ hc).1, ok _ (by simp [wsV]), ⟨hd.1, hd.2.1⟩, fun sig h => ?_, ok _ (by simp [wsV]), ok _ (by simp [wsV]), ok _ (by simp [wsV])⟩
  have h2 := hd.2.2
  rw [h] at h2
  exact (Option.some.inj h2).symm
theorem vx_runVW {y : MethodName} {bytes cc : ByteArray} {maxL nL mc ms n index : Nat} {ret : Option FieldType} {hh : List (Nat × Nat × Nat × Nat)} {ws : List Cond} {rm : Room} {Pc : Array Value → State → Prop} {Qc : Array Value → State → Outcome → State → Prop} {free : Addr → Prop} {Ts : List Cond} {own C : String} {b : Addr} {As rest : List Value} {g : JFrame}
    (S : CallFix p m c cc nL s args Ts own) (hM : Met l y ws rm Pc Qc mc ms free) (cw : vx_CVW R s args own C index y bytes maxL ret hh ws rm mc ms n) (hp : PreV s H C b Pc As)
    (hg : g.method = m) (hn : As.length = n) (hsize : g.locals.size = nL) (hstack : g.stack = As.reverse ++ .ref b :: rest) (hW : 2 * g.monitorRoom + (rest.map fun v => v.category).sum ≤ 8) (hdg : decode cc g.pc = .ok (.invokevirtual index, 3)) (hf : cells + mc ≤ R.cells ∧ slots + ms ≤ R.slots) :
    va_Run p l e R s m args below meth c H locs cells slots mc ms g rest (Qc (Value.ref b :: As).toArray) free := by
  obtain ⟨⟨hrc, hrs, hfr, hlo, hws, hcw⟩, hcode, hini, hy, hlen, hl, hin, hse⟩ := cw
  have hK : Back l R p e below s args y 3 8 (PreOf R mc ms Pc) (PostOf Qc mc ms free) := va_backW (hh := hh) (bytes := bytes) (maxL := maxL) (ret := ret) hM hp.1 hrc hrs hfr hlo hws hcw (fun a' U hW => word_at hW (Or.inl (by first | rfl | simp [Cond.onTables, Cond.keeps, Cond.steady])) hini)
  obtain ⟨hx, hb, hml, ho, -⟩ := S
  obtain ⟨-, ⟨cellB, hcB, hoB, hclB⟩, hPc⟩ := hp
  intro T hT X
  obtain ⟨v, vm₁, ⟨U', l2, c2, s2⟩, hW₁, X', ⟨g', mk, t, L, e1, e2, hq, h1, hL, h2, h3⟩, st⟩ := vx_callVW X hx (C := C) (hh := hh) (bytes := bytes) (maxL := maxL) (ret := ret) ho hl hin hse hcode hy hK (by rw [hT]; exact hcB) hoB hclB hg (hsize.trans hml.symm) (argsL := As) (rest := rest) (fun sig h => hn.trans (hlen sig h)) hstack hW (by rw [hb]; exact hdg)
    (fun vm₁ hW₁ => ⟨hf.1, hf.2, hPc (T.setVm vm₁) hT hW₁⟩)
  dsimp only [Pt.U, Pt.locs, Pt.cells, Pt.slots] at X' e1 e2 h1 h2 h3 st
  subst h1; subst h2; subst h3
  exact ⟨v, (T.setVm vm₁).calling g' mk (Value.ref b :: As).toArray, t, U', L, hT, X', hL, e1, e2, hq, st⟩
section
variable {y : MethodName} {bytes cc : ByteArray} {maxL nL mc ms n index : Nat} {ret : Option FieldType} {ws : List Cond} {rm : Room} {Pc : Array Value → State → Prop} {Qc : Array Value → State → Outcome → State → Prop} {XC : String → State → State → Prop} {free : Addr → Prop} {Ts : List Cond} {own C : String} {b : Addr} {As rest : List Value} {g : JFrame}
theorem vx_runVX {hh : List (Nat × Nat × Nat × Nat)} (S : CallFix p m c cc nL s args Ts own) (hM : vx_Met l y ws rm Pc Qc XC mc ms free) (cw : vx_CVW R s args own C index y bytes maxL ret hh ws rm mc ms n) (hp : PreV s H C b Pc As)
    (hg : g.method = m) (hn : As.length = n) (hsize : g.locals.size = nL) (hstack : g.stack = As.reverse ++ .ref b :: rest) (hW : 2 * g.monitorRoom + (rest.map fun v => v.category).sum ≤ 8) (hdg : decode cc g.pc = .ok (.invokevirtual index, 3)) (hf : cells + mc ≤ R.cells ∧ slots + ms ≤ R.slots) :
    vx_Run p l e R s m args below meth c H locs cells slots mc ms g rest (Qc (Value.ref b :: As).toArray) XC free := by
  obtain ⟨⟨hrc, hrs, hfr, hlo, hws, hcw⟩, hcode, hini, hy, hlen, hl, hin, hse⟩ := cw
  have hK : vx_Back l R p e below s args y 3 8 (PreOf R mc ms Pc) (PostOf Qc mc ms free) (vx_Post XC mc ms free) := vx_backW (hh := hh) (bytes := bytes) (maxL := maxL) (ret := ret) hM hp.1 hrc hrs hfr hlo hws hcw (fun a' U hW => word_at hW (Or.inl (by first | rfl | simp [Cond.onTables, Cond.keeps, Cond.steady])) hini)
  obtain ⟨hx, hb, hml, ho, -⟩ := S
  obtain ⟨-, ⟨cellB, hcB, hoB, hclB⟩, hPc⟩ := hp
  intro T hT X
  rcases vx_callVX X hx (C := C) (hh := hh) (bytes := bytes) (maxL := maxL) (ret := ret) ho hl hin hse hcode hy hK (by rw [hT]; exact hcB) hoB hclB hg (hsize.trans hml.symm) (argsL := As) (rest := rest) (fun sig h => hn.trans (hlen sig h)) hstack hW (by rw [hb]; exact hdg)
    (fun vm₁ hW₁ => ⟨hf.1, hf.2, hPc (T.setVm vm₁) hT hW₁⟩) with ⟨v, vm₁, ⟨U', l2, c2, s2⟩, hW₁, X', ⟨g', mk, t, L, e1, e2, hq, h1, hL, h2, h3⟩, st⟩ | ⟨q, vm₁, ⟨U', l2, c2, s2⟩, hW₁, X', ⟨g', mk, t, L, E, ce, e1, e2, hq, hce, hcv, hcl, h1, hL, h2, h3⟩, st⟩
  · dsimp only [Pt.U, Pt.locs, Pt.cells, Pt.slots] at X' e1 e2 h1 h2 h3 st
    subst h1; subst h2; subst h3
    exact Or.inl ⟨v, (T.setVm vm₁).calling g' mk (Value.ref b :: As).toArray, t, U', L, hT, X', hL, e1, e2, hq, st⟩
  · dsimp only [Pt.U, Pt.locs, Pt.cells, Pt.slots] at X' e1 e2 h1 h2 h3 st hcl
    subst h1; subst h2; subst h3
    exact Or.inr ⟨q, (T.setVm vm₁).calling g' mk (Value.ref b :: As).toArray, t, U', L, E, ce, hT, X', hL, e1, e2, hq, hce, hcv, vx_cls hW₁ hcl, st⟩
theorem vx_runSX {hh : List (Nat × Nat × Nat × Nat)} (S : CallFix p m c cc nL s args Ts own) (hM : vx_Met l y ws rm Pc Qc XC mc ms free) (cw : vx_CSW R s args own index y bytes maxL ret hh ws rm mc ms n) (hp : PreS s H Pc As)
    (hg : g.method = m) (hn : As.length = n) (hsize : g.locals.size = nL) (hstack : g.stack = As.reverse ++ rest) (hW : 2 * g.monitorRoom + (rest.map fun v => v.category).sum ≤ 8) (hdg : decode cc g.pc = .ok (.invokestatic index, 3)) (hf : cells + mc ≤ R.cells ∧ slots + ms ≤ R.slots) :
    vx_Run p l e R s m args below meth c H locs cells slots mc ms g rest (Qc As.toArray) XC free := by
  obtain ⟨⟨hrc, hrs, hfr, hlo, hws, hcw⟩, hcode, hini, hy, hlen, hl, hstt⟩ := cw
  have hK : vx_Back l R p e below s args y 3 8 (PreOf R mc ms Pc) (PostOf Qc mc ms free) (vx_Post XC mc ms free) := vx_backW (hh := hh) (bytes := bytes) (maxL := maxL) (ret := ret) hM hp.1 hrc hrs hfr hlo hws hcw (fun a' U hW => word_at hW (Or.inl (by first | rfl | simp [Cond.onTables, Cond.keeps, Cond.steady])) hini)
  obtain ⟨hx, hb, hml, ho, -⟩ := S
  intro T hT X
  rcases vx_callSX X hx (hh := hh) (bytes := bytes) (maxL := maxL) (ret := ret) ho hl hstt hini hcode hy hK hg (hsize.trans hml.symm) (argsL := As) (rest := rest) (fun sig h => hn.trans (hlen sig h)) hstack hW (by rw [hb]; exact hdg)
    (fun vm₁ hW₁ => ⟨hf.1, hf.2, hp.2 (T.setVm vm₁) hT hW₁⟩) with ⟨v, vm₁, ⟨U', l2, c2, s2⟩, hW₁, X', ⟨g', mk, t, L, e1, e2, hq, h1, hL, h2, h3⟩, st⟩ | ⟨q, vm₁, ⟨U', l2, c2, s2⟩, hW₁, X', ⟨g', mk, t, L, E, ce, e1, e2, hq, hce, hcv, hcl, h1, hL, h2, h3⟩, st⟩
  · dsimp only [Pt.U, Pt.locs, Pt.cells, Pt.slots] at X' e1 e2 h1 h2 h3 st
    subst h1; subst h2; subst h3
    exact Or.inl ⟨v, (T.setVm vm₁).calling g' mk As.toArray, t, U', L, hT, X', hL, e1, e2, hq, st⟩
  · dsimp only [Pt.U, Pt.locs, Pt.cells, Pt.slots] at X' e1 e2 h1 h2 h3 st hcl
    subst h1; subst h2; subst h3
    exact Or.inr ⟨q, (T.setVm vm₁).calling g' mk As.toArray, t, U', L, E, ce, hT, X', hL, e1, e2, hq, hce, hcv, vx_cls hW₁ hcl, st⟩
end
end VXH
theorem vx_ofWH {l : Launch} {y : MethodName} {ws ws' : List Cond} {rm : Room} {Pc : Array Value → State → Prop} {Qc : Array Value → State → Outcome → State → Prop} {XC : String → State → State → Prop} {mc ms : Nat} {free : Addr → Prop} {cc : ByteArray} {maxL : Nat} {ret : Option FieldType} {hh : List (Nat × Nat × Nat × Nat)}
    (hy : plainName y.cls = true) (hw : ws = Cond.codeWith y cc maxL ret hh :: ws')
    (body : ∀ p e s m args below meth c s₁, BodyLoose p l y (headSpec ws rm) cc maxL ret e s m args below meth c s₁ → c.maxLocals = maxL → Pc args s →
      W p l e (headSpec ws rm).room s m args below meth c s.heap [] 0 0 (vx_MQ below Qc XC args s mc ms free) (entryFrame m args maxL)) : vx_Met l y ws rm Pc Qc XC mc ms free := by
  refine MetFree.of_bodyS (code := cc) (maxLocals := maxL) (ret := ret) hy ?_ ?_
  · intro args s m h hn
    obtain ⟨m9, meth, c, hn9, h1, h2, h3, h4, -, h5, h6, -⟩ := Cond.codeWith_spec (atoms_spec (ws := ws) h _ (by rw [hw]; exact List.mem_cons_self))
    cases hn.symm.trans hn9
    exact ⟨meth, c, h1, h2, h3, h4, h5, h6⟩
  · intro p e s m args below meth c s₁ B hml hP _
    have hh0 : s₁.heap = s.heap := by rw [B.state]; rfl
    obtain ⟨t, a1, o, b1, b2, b3⟩ := body p e s m args below meth c s₁ B hml hP s₁ hh0 (Stand.of_body B)
    exact ⟨t, o, a1, b1, b2, b3⟩
/-! ===== END ===== -/
end
section
-- ===== PART A: goes FIRST, ahead of the names: the tables' words, and 'selects' of the private methods out of them =====
/-- a private method of a class that the tables say can be made, by its rows of tables_1 -/
def lw_okq (q : MethodName × Nat) : Prop := (q.1.cls ≠ "java/lang/invoke/MethodHandle" ∧ q.1.cls ≠ "java/lang/invoke/VarHandle") ∧ Cond.instantiable q.1.cls q.2 ∈ tables_1 ∧ Cond.privateMethod q.1 ∈ tables_1 ∧ Cond.instanceMethod q.1 ∈ tables_1
theorem lw_p0 : lw_okq (⟨"Springward", "cellAt", "(I)LSpringward$Cell;"⟩, 17) := ⟨⟨by decide +kernel, by decide +kernel⟩, List.mem_of_getElem? (i := 20) (by decide +kernel), List.mem_of_getElem? (i := 197) (by decide +kernel), List.mem_of_getElem? (i := 198) (by decide +kernel)⟩
theorem lw_p1 : lw_okq (⟨"java/lang/Throwable", "fillInStackTrace", "(I)Ljava/lang/Throwable;"⟩, 6) := ⟨⟨by decide +kernel, by decide +kernel⟩, List.mem_of_getElem? (i := 242) (by decide +kernel), List.mem_of_getElem? (i := 240) (by decide +kernel), List.mem_of_getElem? (i := 241) (by decide +kernel)⟩
theorem lw_p2 : lw_okq (⟨"Springward", "passOne", "(I)V"⟩, 17) := ⟨⟨by decide +kernel, by decide +kernel⟩, List.mem_of_getElem? (i := 20) (by decide +kernel), List.mem_of_getElem? (i := 357) (by decide +kernel), List.mem_of_getElem? (i := 358) (by decide +kernel)⟩
theorem lw_p3 : lw_okq (⟨"Springward", "leadOn", "()V"⟩, 17) := ⟨⟨by decide +kernel, by decide +kernel⟩, List.mem_of_getElem? (i := 20) (by decide +kernel), List.mem_of_getElem? (i := 361) (by decide +kernel), List.mem_of_getElem? (i := 362) (by decide +kernel)⟩
theorem lw_p4 : lw_okq (⟨"Springward", "rainOn", "(I)V"⟩, 17) := ⟨⟨by decide +kernel, by decide +kernel⟩, List.mem_of_getElem? (i := 20) (by decide +kernel), List.mem_of_getElem? (i := 443) (by decide +kernel), List.mem_of_getElem? (i := 444) (by decide +kernel)⟩
theorem lw_p5 : lw_okq (⟨"Springward$Cell", "nitrateOfRain", "()I"⟩, 8) := ⟨⟨by decide +kernel, by decide +kernel⟩, List.mem_of_getElem? (i := 29) (by decide +kernel), List.mem_of_getElem? (i := 452) (by decide +kernel), List.mem_of_getElem? (i := 453) (by decide +kernel)⟩
theorem lw_p6 : lw_okq (⟨"Springward", "payContracts", "()V"⟩, 17) := ⟨⟨by decide +kernel, by decide +kernel⟩, List.mem_of_getElem? (i := 20) (by decide +kernel), List.mem_of_getElem? (i := 459) (by decide +kernel), List.mem_of_getElem? (i := 460) (by decide +kernel)⟩
theorem lw_p7 : lw_okq (⟨"Springward", "wellAt", "(I)LSpringward$Well;"⟩, 17) := ⟨⟨by decide +kernel, by decide +kernel⟩, List.mem_of_getElem? (i := 20) (by decide +kernel), List.mem_of_getElem? (i := 509) (by decide +kernel), List.mem_of_getElem? (i := 510) (by decide +kernel)⟩
theorem lw_p8 : lw_okq (⟨"Springward", "mayTakeStill", "(LSpringward$Well;)I"⟩, 17) := ⟨⟨by decide +kernel, by decide +kernel⟩, List.mem_of_getElem? (i := 20) (by decide +kernel), List.mem_of_getElem? (i := 513) (by decide +kernel), List.mem_of_getElem? (i := 514) (by decide +kernel)⟩
theorem lw_p9 : lw_okq (⟨"Springward", "lotAt", "(I)LSpringward$Lot;"⟩, 17) := ⟨⟨by decide +kernel, by decide +kernel⟩, List.mem_of_getElem? (i := 20) (by decide +kernel), List.mem_of_getElem? (i := 564) (by decide +kernel), List.mem_of_getElem? (i := 565) (by decide +kernel)⟩
theorem lw_p10 : lw_okq (⟨"Springward$Lot", "hasAtMost", "(II)Z"⟩, 7) := ⟨⟨by decide +kernel, by decide +kernel⟩, List.mem_of_getElem? (i := 519) (by decide +kernel), List.mem_of_getElem? (i := 579) (by decide +kernel), List.mem_of_getElem? (i := 580) (by decide +kernel)⟩
theorem lw_p11 : lw_okq (⟨"Springward$Journal", "emptyTanks", "()V"⟩, 4) := ⟨⟨by decide +kernel, by decide +kernel⟩, List.mem_of_getElem? (i := 92) (by decide +kernel), List.mem_of_getElem? (i := 707) (by decide +kernel), List.mem_of_getElem? (i := 708) (by decide +kernel)⟩
theorem lw_p12 : lw_okq (⟨"Springward$Journal", "putAway", "(LSpringward$Piece;)V"⟩, 4) := ⟨⟨by decide +kernel, by decide +kernel⟩, List.mem_of_getElem? (i := 92) (by decide +kernel), List.mem_of_getElem? (i := 711) (by decide +kernel), List.mem_of_getElem? (i := 712) (by decide +kernel)⟩
theorem lw_p13 : lw_okq (⟨"Springward$Journal", "rainAgain", "(II)V"⟩, 4) := ⟨⟨by decide +kernel, by decide +kernel⟩, List.mem_of_getElem? (i := 92) (by decide +kernel), List.mem_of_getElem? (i := 719) (by decide +kernel), List.mem_of_getElem? (i := 720) (by decide +kernel)⟩
theorem lw_p14 : lw_okq (⟨"Springward$Journal", "newPiece", "(II)LSpringward$Piece;"⟩, 4) := ⟨⟨by decide +kernel, by decide +kernel⟩, List.mem_of_getElem? (i := 92) (by decide +kernel), List.mem_of_getElem? (i := 723) (by decide +kernel), List.mem_of_getElem? (i := 724) (by decide +kernel)⟩
theorem lw_p15 : lw_okq (⟨"Springward$Journal", "moveAgain", "(LSpringward$Move;)I"⟩, 4) := ⟨⟨by decide +kernel, by decide +kernel⟩, List.mem_of_getElem? (i := 92) (by decide +kernel), List.mem_of_getElem? (i := 748) (by decide +kernel), List.mem_of_getElem? (i := 749) (by decide +kernel)⟩
def lw_privs_1 : List (MethodName × Nat) := [(⟨"Springward", "cellAt", "(I)LSpringward$Cell;"⟩, 17), (⟨"java/lang/Throwable", "fillInStackTrace", "(I)Ljava/lang/Throwable;"⟩, 6), (⟨"Springward", "passOne", "(I)V"⟩, 17), (⟨"Springward", "leadOn", "()V"⟩, 17), (⟨"Springward", "rainOn", "(I)V"⟩, 17), (⟨"Springward$Cell", "nitrateOfRain", "()I"⟩, 8), (⟨"Springward", "payContracts", "()V"⟩, 17), (⟨"Springward", "wellAt", "(I)LSpringward$Well;"⟩, 17), (⟨"Springward", "mayTakeStill", "(LSpringward$Well;)I"⟩, 17), (⟨"Springward", "lotAt", "(I)LSpringward$Lot;"⟩, 17), (⟨"Springward$Lot", "hasAtMost", "(II)Z"⟩, 7), (⟨"Springward$Journal", "emptyTanks", "()V"⟩, 4), (⟨"Springward$Journal", "putAway", "(LSpringward$Piece;)V"⟩, 4), (⟨"Springward$Journal", "rainAgain", "(II)V"⟩, 4), (⟨"Springward$Journal", "newPiece", "(II)LSpringward$Piece;"⟩, 4), (⟨"Springward$Journal", "moveAgain", "(LSpringward$Move;)I"⟩, 4)]
theorem lw_r1 : ∀ q ∈ lw_privs_1, lw_okq q := List.forall_mem_cons.mpr ⟨lw_p0, List.forall_mem_cons.mpr ⟨lw_p1, List.forall_mem_cons.mpr ⟨lw_p2, List.forall_mem_cons.mpr ⟨lw_p3, List.forall_mem_cons.mpr ⟨lw_p4, List.forall_mem_cons.mpr ⟨lw_p5, List.forall_mem_cons.mpr ⟨lw_p6, List.forall_mem_cons.mpr ⟨lw_p7, List.forall_mem_cons.mpr ⟨lw_p8, List.forall_mem_cons.mpr ⟨lw_p9, List.forall_mem_cons.mpr ⟨lw_p10, List.forall_mem_cons.mpr ⟨lw_p11, List.forall_mem_cons.mpr ⟨lw_p12, List.forall_mem_cons.mpr ⟨lw_p13, List.forall_mem_cons.mpr ⟨lw_p14, List.forall_mem_cons.mpr ⟨lw_p15, fun _ h => absurd h List.not_mem_nil⟩⟩⟩⟩⟩⟩⟩⟩⟩⟩⟩⟩⟩⟩⟩⟩
theorem lw_p16 : lw_okq (⟨"Springward$Journal", "tankAt", "(I)LSpringward$Tank;"⟩, 4) := ⟨⟨by decide +kernel, by decide +kernel⟩, List.mem_of_getElem? (i := 92) (by decide +kernel), List.mem_of_getElem? (i := 752) (by decide +kernel), List.mem_of_getElem? (i := 753) (by decide +kernel)⟩
theorem lw_p17 : lw_okq (⟨"Springward$Journal", "cut", "(LSpringward$Piece;I)LSpringward$Piece;"⟩, 4) := ⟨⟨by decide +kernel, by decide +kernel⟩, List.mem_of_getElem? (i := 92) (by decide +kernel), List.mem_of_getElem? (i := 756) (by decide +kernel), List.mem_of_getElem? (i := 757) (by decide +kernel)⟩
theorem lw_p18 : lw_okq (⟨"Springward", "unitsInCells", "()J"⟩, 17) := ⟨⟨by decide +kernel, by decide +kernel⟩, List.mem_of_getElem? (i := 20) (by decide +kernel), List.mem_of_getElem? (i := 781) (by decide +kernel), List.mem_of_getElem? (i := 782) (by decide +kernel)⟩
theorem lw_p19 : lw_okq (⟨"Springward", "unitsBottled", "()J"⟩, 17) := ⟨⟨by decide +kernel, by decide +kernel⟩, List.mem_of_getElem? (i := 20) (by decide +kernel), List.mem_of_getElem? (i := 785) (by decide +kernel), List.mem_of_getElem? (i := 786) (by decide +kernel)⟩
theorem lw_p20 : lw_okq (⟨"Springward", "falseLabels", "()J"⟩, 17) := ⟨⟨by decide +kernel, by decide +kernel⟩, List.mem_of_getElem? (i := 20) (by decide +kernel), List.mem_of_getElem? (i := 789) (by decide +kernel), List.mem_of_getElem? (i := 790) (by decide +kernel)⟩
theorem lw_p21 : lw_okq (⟨"SpringwardModel", "can", "(I)Z"⟩, 40) := ⟨⟨by decide +kernel, by decide +kernel⟩, List.mem_of_getElem? (i := 793) (by decide +kernel), List.mem_of_getElem? (i := 936) (by decide +kernel), List.mem_of_getElem? (i := 937) (by decide +kernel)⟩
theorem lw_p22 : lw_okq (⟨"SpringwardModel", "travel", "(I)I"⟩, 40) := ⟨⟨by decide +kernel, by decide +kernel⟩, List.mem_of_getElem? (i := 793) (by decide +kernel), List.mem_of_getElem? (i := 955) (by decide +kernel), List.mem_of_getElem? (i := 956) (by decide +kernel)⟩
theorem lw_p23 : lw_okq (⟨"SpringwardModel", "passes", "(I)V"⟩, 40) := ⟨⟨by decide +kernel, by decide +kernel⟩, List.mem_of_getElem? (i := 793) (by decide +kernel), List.mem_of_getElem? (i := 967) (by decide +kernel), List.mem_of_getElem? (i := 968) (by decide +kernel)⟩
theorem lw_p24 : lw_okq (⟨"SpringwardModel", "moves", "(III)V"⟩, 40) := ⟨⟨by decide +kernel, by decide +kernel⟩, List.mem_of_getElem? (i := 793) (by decide +kernel), List.mem_of_getElem? (i := 971) (by decide +kernel), List.mem_of_getElem? (i := 972) (by decide +kernel)⟩
theorem lw_p25 : lw_okq (⟨"SpringwardModel", "takesOff", "(II)I"⟩, 40) := ⟨⟨by decide +kernel, by decide +kernel⟩, List.mem_of_getElem? (i := 793) (by decide +kernel), List.mem_of_getElem? (i := 975) (by decide +kernel), List.mem_of_getElem? (i := 976) (by decide +kernel)⟩
theorem lw_p26 : lw_okq (⟨"SpringwardModel", "knots", "(IIIII)I"⟩, 40) := ⟨⟨by decide +kernel, by decide +kernel⟩, List.mem_of_getElem? (i := 793) (by decide +kernel), List.mem_of_getElem? (i := 979) (by decide +kernel), List.mem_of_getElem? (i := 980) (by decide +kernel)⟩
theorem lw_p27 : lw_okq (⟨"SpringwardModel", "appends", "(II)V"⟩, 40) := ⟨⟨by decide +kernel, by decide +kernel⟩, List.mem_of_getElem? (i := 793) (by decide +kernel), List.mem_of_getElem? (i := 983) (by decide +kernel), List.mem_of_getElem? (i := 984) (by decide +kernel)⟩
theorem lw_p28 : lw_okq (⟨"SpringwardModel", "rains", "(II)V"⟩, 40) := ⟨⟨by decide +kernel, by decide +kernel⟩, List.mem_of_getElem? (i := 793) (by decide +kernel), List.mem_of_getElem? (i := 987) (by decide +kernel), List.mem_of_getElem? (i := 988) (by decide +kernel)⟩
theorem lw_p29 : lw_okq (⟨"SpringwardModel", "isWell", "(I)Z"⟩, 40) := ⟨⟨by decide +kernel, by decide +kernel⟩, List.mem_of_getElem? (i := 793) (by decide +kernel), List.mem_of_getElem? (i := 1008) (by decide +kernel), List.mem_of_getElem? (i := 1009) (by decide +kernel)⟩
theorem lw_p30 : lw_okq (⟨"SpringwardModel", "may", "(I)I"⟩, 40) := ⟨⟨by decide +kernel, by decide +kernel⟩, List.mem_of_getElem? (i := 793) (by decide +kernel), List.mem_of_getElem? (i := 1012) (by decide +kernel), List.mem_of_getElem? (i := 1013) (by decide +kernel)⟩
theorem lw_p31 : lw_okq (⟨"SpringwardModel", "isLot", "(I)Z"⟩, 40) := ⟨⟨by decide +kernel, by decide +kernel⟩, List.mem_of_getElem? (i := 793) (by decide +kernel), List.mem_of_getElem? (i := 1023) (by decide +kernel), List.mem_of_getElem? (i := 1024) (by decide +kernel)⟩
def lw_privs_2 : List (MethodName × Nat) := [(⟨"Springward$Journal", "tankAt", "(I)LSpringward$Tank;"⟩, 4), (⟨"Springward$Journal", "cut", "(LSpringward$Piece;I)LSpringward$Piece;"⟩, 4), (⟨"Springward", "unitsInCells", "()J"⟩, 17), (⟨"Springward", "unitsBottled", "()J"⟩, 17), (⟨"Springward", "falseLabels", "()J"⟩, 17), (⟨"SpringwardModel", "can", "(I)Z"⟩, 40), (⟨"SpringwardModel", "travel", "(I)I"⟩, 40), (⟨"SpringwardModel", "passes", "(I)V"⟩, 40), (⟨"SpringwardModel", "moves", "(III)V"⟩, 40), (⟨"SpringwardModel", "takesOff", "(II)I"⟩, 40), (⟨"SpringwardModel", "knots", "(IIIII)I"⟩, 40), (⟨"SpringwardModel", "appends", "(II)V"⟩, 40), (⟨"SpringwardModel", "rains", "(II)V"⟩, 40), (⟨"SpringwardModel", "isWell", "(I)Z"⟩, 40), (⟨"SpringwardModel", "may", "(I)I"⟩, 40), (⟨"SpringwardModel", "isLot", "(I)Z"⟩, 40)]
theorem lw_r2 : ∀ q ∈ lw_privs_2, lw_okq q := List.forall_mem_cons.mpr ⟨lw_p16, List.forall_mem_cons.mpr ⟨lw_p17, List.forall_mem_cons.mpr ⟨lw_p18, List.forall_mem_cons.mpr ⟨lw_p19, List.forall_mem_cons.mpr ⟨lw_p20, List.forall_mem_cons.mpr ⟨lw_p21, List.forall_mem_cons.mpr ⟨lw_p22, List.forall_mem_cons.mpr ⟨lw_p23, List.forall_mem_cons.mpr ⟨lw_p24, List.forall_mem_cons.mpr ⟨lw_p25, List.forall_mem_cons.mpr ⟨lw_p26, List.forall_mem_cons.mpr ⟨lw_p27, List.forall_mem_cons.mpr ⟨lw_p28, List.forall_mem_cons.mpr ⟨lw_p29, List.forall_mem_cons.mpr ⟨lw_p30, List.forall_mem_cons.mpr ⟨lw_p31, fun _ h => absurd h List.not_mem_nil⟩⟩⟩⟩⟩⟩⟩⟩⟩⟩⟩⟩⟩⟩⟩⟩
theorem lw_p32 : lw_okq (⟨"SpringwardModel", "isWater", "(II)Z"⟩, 40) := ⟨⟨by decide +kernel, by decide +kernel⟩, List.mem_of_getElem? (i := 793) (by decide +kernel), List.mem_of_getElem? (i := 1031) (by decide +kernel), List.mem_of_getElem? (i := 1032) (by decide +kernel)⟩
theorem lw_p33 : lw_okq (⟨"SpringwardModel", "fallOf", "(IZ)I"⟩, 40) := ⟨⟨by decide +kernel, by decide +kernel⟩, List.mem_of_getElem? (i := 793) (by decide +kernel), List.mem_of_getElem? (i := 1035) (by decide +kernel), List.mem_of_getElem? (i := 1036) (by decide +kernel)⟩
theorem lw_p34 : lw_okq (⟨"SpringwardModel", "compoundsOf", "(I)I"⟩, 40) := ⟨⟨by decide +kernel, by decide +kernel⟩, List.mem_of_getElem? (i := 793) (by decide +kernel), List.mem_of_getElem? (i := 1039) (by decide +kernel), List.mem_of_getElem? (i := 1040) (by decide +kernel)⟩
theorem lw_p35 : lw_okq (⟨"SpringwardModel", "nitrateOf", "(I)J"⟩, 40) := ⟨⟨by decide +kernel, by decide +kernel⟩, List.mem_of_getElem? (i := 793) (by decide +kernel), List.mem_of_getElem? (i := 1043) (by decide +kernel), List.mem_of_getElem? (i := 1044) (by decide +kernel)⟩
theorem lw_p36 : lw_okq (⟨"SpringwardModel", "meanAge", "(I)F"⟩, 40) := ⟨⟨by decide +kernel, by decide +kernel⟩, List.mem_of_getElem? (i := 793) (by decide +kernel), List.mem_of_getElem? (i := 1077) (by decide +kernel), List.mem_of_getElem? (i := 1078) (by decide +kernel)⟩
theorem lw_p37 : lw_okq (⟨"SpringwardModel", "bestOf", "(I)I"⟩, 40) := ⟨⟨by decide +kernel, by decide +kernel⟩, List.mem_of_getElem? (i := 793) (by decide +kernel), List.mem_of_getElem? (i := 1085) (by decide +kernel), List.mem_of_getElem? (i := 1086) (by decide +kernel)⟩
theorem lw_p38 : lw_okq (⟨"SpringwardModel", "fromOf", "(III)I"⟩, 40) := ⟨⟨by decide +kernel, by decide +kernel⟩, List.mem_of_getElem? (i := 793) (by decide +kernel), List.mem_of_getElem? (i := 1093) (by decide +kernel), List.mem_of_getElem? (i := 1094) (by decide +kernel)⟩
theorem lw_p39 : lw_okq (⟨"SpringwardModel", "whenceOf", "(II)I"⟩, 40) := ⟨⟨by decide +kernel, by decide +kernel⟩, List.mem_of_getElem? (i := 793) (by decide +kernel), List.mem_of_getElem? (i := 1105) (by decide +kernel), List.mem_of_getElem? (i := 1106) (by decide +kernel)⟩
theorem lw_p40 : lw_okq (⟨"SpringwardModel", "held", "()J"⟩, 40) := ⟨⟨by decide +kernel, by decide +kernel⟩, List.mem_of_getElem? (i := 793) (by decide +kernel), List.mem_of_getElem? (i := 1113) (by decide +kernel), List.mem_of_getElem? (i := 1114) (by decide +kernel)⟩
theorem lw_p41 : lw_okq (⟨"SpringwardModel", "falseOnes", "()J"⟩, 40) := ⟨⟨by decide +kernel, by decide +kernel⟩, List.mem_of_getElem? (i := 793) (by decide +kernel), List.mem_of_getElem? (i := 1117) (by decide +kernel), List.mem_of_getElem? (i := 1118) (by decide +kernel)⟩
def lw_privs_3 : List (MethodName × Nat) := [(⟨"SpringwardModel", "isWater", "(II)Z"⟩, 40), (⟨"SpringwardModel", "fallOf", "(IZ)I"⟩, 40), (⟨"SpringwardModel", "compoundsOf", "(I)I"⟩, 40), (⟨"SpringwardModel", "nitrateOf", "(I)J"⟩, 40), (⟨"SpringwardModel", "meanAge", "(I)F"⟩, 40), (⟨"SpringwardModel", "bestOf", "(I)I"⟩, 40), (⟨"SpringwardModel", "fromOf", "(III)I"⟩, 40), (⟨"SpringwardModel", "whenceOf", "(II)I"⟩, 40), (⟨"SpringwardModel", "held", "()J"⟩, 40), (⟨"SpringwardModel", "falseOnes", "()J"⟩, 40)]
theorem lw_r3 : ∀ q ∈ lw_privs_3, lw_okq q := List.forall_mem_cons.mpr ⟨lw_p32, List.forall_mem_cons.mpr ⟨lw_p33, List.forall_mem_cons.mpr ⟨lw_p34, List.forall_mem_cons.mpr ⟨lw_p35, List.forall_mem_cons.mpr ⟨lw_p36, List.forall_mem_cons.mpr ⟨lw_p37, List.forall_mem_cons.mpr ⟨lw_p38, List.forall_mem_cons.mpr ⟨lw_p39, List.forall_mem_cons.mpr ⟨lw_p40, List.forall_mem_cons.mpr ⟨lw_p41, fun _ h => absurd h List.not_mem_nil⟩⟩⟩⟩⟩⟩⟩⟩⟩⟩
def lw_privs : List (MethodName × Nat) := lw_privs_1 ++ (lw_privs_2 ++ (lw_privs_3))
def lw_tbl : List Cond := k2_sels lw_privs ++ tables_1
theorem lw_privs_ok : ∀ q ∈ lw_privs, lw_okq q := by
  show ∀ q ∈ lw_privs_1 ++ (lw_privs_2 ++ (lw_privs_3)), lw_okq q
  exact List.forall_mem_append.mpr ⟨lw_r1, List.forall_mem_append.mpr ⟨lw_r2, lw_r3⟩⟩
/-- the streams that the claim lets the run draw from -/
abbrev lw_cs : List Choice := [Jvm.Choice.named "NaN.bits"]
theorem lw_bits : nanBits ∈ lw_cs := by first | decide | exact List.mem_cons_self | simp [lw_cs, nanBits]

def RX0 : String := "Springward$Cell"
def TX0 : u_T := fun k => match k with
  | 0 => ("Springward$Cell", "number", "I", true)
  | 1 => ("Springward$Cell", "row", "LSpringward$Row;", true)
  | 2 => ("Springward$Cell", "lower", "LSpringward$Cell;", false)
  | 3 => ("Springward$Cell", "holds", "I", false)
  | 4 => ("Springward$Cell", "land", "I", false)
  | 5 => ("Springward$Cell", "contractYears", "I", false)
  | 6 => ("Springward$Cell", "contractPay", "I", false)
  | _ => ("Springward$Cell", "waiting", "I", false)
def tyX0 : Nat → FieldType := fun k => match k with
  | 0 => .int
  | 1 => .object "Springward$Row"
  | 2 => .object "Springward$Cell"
  | 3 => .int
  | 4 => .int
  | 5 => .int
  | 6 => .int
  | _ => .int
abbrev wsX00 : List Cond := u_ws RX0 TX0 8
theorem nmX0 : ∀ a, a < 8 → ∀ b, b < 8 → a ≠ b → (TX0 a).2.1 ≠ (TX0 b).2.1 := by decide +kernel
theorem tyX0_ok : ∀ k, k < 8 → parseFieldDescriptor (TX0 k).2.2.1 = some (tyX0 k) := by decide +kernel
abbrev cX0_init : ByteArray := prog_2_method_1_code
def yX0_init : MethodName := ⟨RX0, "<init>", "(ILSpringward$Cell;)V"⟩
abbrev cX0_leadsTo : ByteArray := prog_2_method_2_code
def yX0_leadsTo : MethodName := ⟨RX0, "leadsTo", "()I"⟩
abbrev cX0_travel : ByteArray := prog_2_method_3_code
def yX0_travel : MethodName := ⟨RX0, "travel", "()I"⟩
abbrev cX0_yearly : ByteArray := prog_2_method_4_code
def yX0_yearly : MethodName := ⟨RX0, "yearly", "()I"⟩
abbrev cX0_catchRain : ByteArray := prog_2_method_5_code
def yX0_catchRain : MethodName := ⟨RX0, "catchRain", "(II)V"⟩
abbrev cX0_nitrateOfRain : ByteArray := prog_2_method_6_code
def yX0_nitrateOfRain : MethodName := ⟨RX0, "nitrateOfRain", "()I"⟩
def RX1 : String := "Springward$Journal"
def TX1 : u_T := fun k => match k with
  | 0 => ("Springward$Journal", "tanks", "[LSpringward$Tank;", true)
  | 1 => ("Springward$Journal", "first", "LSpringward$Move;", false)
  | 2 => ("Springward$Journal", "last", "LSpringward$Move;", false)
  | _ => ("Springward$Journal", "spare", "LSpringward$Piece;", false)
def tyX1 : Nat → FieldType := fun k => match k with
  | 0 => .array (.object "Springward$Tank")
  | 1 => .object "Springward$Move"
  | 2 => .object "Springward$Move"
  | _ => .object "Springward$Piece"
abbrev wsX10 : List Cond := u_ws RX1 TX1 4
theorem nmX1 : ∀ a, a < 4 → ∀ b, b < 4 → a ≠ b → (TX1 a).2.1 ≠ (TX1 b).2.1 := by decide +kernel
theorem tyX1_ok : ∀ k, k < 4 → parseFieldDescriptor (TX1 k).2.2.1 = some (tyX1 k) := by decide +kernel
abbrev cX1_init : ByteArray := prog_3_method_1_code
def yX1_init : MethodName := ⟨RX1, "<init>", "()V"⟩
abbrev cX1_note : ByteArray := prog_3_method_2_code
def yX1_note : MethodName := ⟨RX1, "note", "(III)V"⟩
abbrev cX1_follow : ByteArray := prog_3_method_3_code
def yX1_follow : MethodName := ⟨RX1, "follow", "(III)I"⟩
abbrev cX1_emptyTanks : ByteArray := prog_3_method_4_code
def yX1_emptyTanks : MethodName := ⟨RX1, "emptyTanks", "()V"⟩
abbrev cX1_rainAgain : ByteArray := prog_3_method_5_code
def yX1_rainAgain : MethodName := ⟨RX1, "rainAgain", "(II)V"⟩
abbrev cX1_moveAgain : ByteArray := prog_3_method_6_code
def yX1_moveAgain : MethodName := ⟨RX1, "moveAgain", "(LSpringward$Move;)I"⟩
abbrev cX1_cut : ByteArray := prog_3_method_7_code
def yX1_cut : MethodName := ⟨RX1, "cut", "(LSpringward$Piece;I)LSpringward$Piece;"⟩
abbrev cX1_tankAt : ByteArray := prog_3_method_8_code
def yX1_tankAt : MethodName := ⟨RX1, "tankAt", "(I)LSpringward$Tank;"⟩
abbrev cX1_newPiece : ByteArray := prog_3_method_9_code
def yX1_newPiece : MethodName := ⟨RX1, "newPiece", "(II)LSpringward$Piece;"⟩
abbrev cX1_putAway : ByteArray := prog_3_method_10_code
def yX1_putAway : MethodName := ⟨RX1, "putAway", "(LSpringward$Piece;)V"⟩
def RX2 : String := "Springward$Lot"
def TX2 : u_T := fun k => match k with
  | 0 => ("Springward$Lot", "well", "I", true)
  | 1 => ("Springward$Lot", "bottled", "I", true)
  | 2 => ("Springward$Lot", "water", "LSpringward$Row;", true)
  | 3 => ("Springward$Lot", "treatments", "I", false)
  | 4 => ("Springward$Lot", "label", "I", false)
  | 5 => ("Springward$Lot", "isTrue", "Z", false)
  | _ => ("Springward$Lot", "recalled", "Z", false)
def tyX2 : Nat → FieldType := fun k => match k with
  | 0 => .int
  | 1 => .int
  | 2 => .object "Springward$Row"
  | 3 => .int
  | 4 => .int
  | 5 => .boolean
  | _ => .boolean
abbrev wsX20 : List Cond := u_ws RX2 TX2 7
theorem nmX2 : ∀ a, a < 7 → ∀ b, b < 7 → a ≠ b → (TX2 a).2.1 ≠ (TX2 b).2.1 := by decide +kernel
theorem tyX2_ok : ∀ k, k < 7 → parseFieldDescriptor (TX2 k).2.2.1 = some (tyX2 k) := by decide +kernel
abbrev cX2_init : ByteArray := prog_4_method_1_code
def yX2_init : MethodName := ⟨RX2, "<init>", "(IILSpringward$Portion;)V"⟩
abbrev cX2_leastAge : ByteArray := prog_4_method_2_code
def yX2_leastAge : MethodName := ⟨RX2, "leastAge", "()I"⟩
abbrev cX2_greatestAge : ByteArray := prog_4_method_3_code
def yX2_greatestAge : MethodName := ⟨RX2, "greatestAge", "()I"⟩
abbrev cX2_meanAge : ByteArray := prog_4_method_4_code
def yX2_meanAge : MethodName := ⟨RX2, "meanAge", "()F"⟩
abbrev cX2_truth : ByteArray := prog_4_method_5_code
def yX2_truth : MethodName := ⟨RX2, "truth", "()I"⟩
abbrev cX2_isOfKind : ByteArray := prog_4_method_6_code
def yX2_isOfKind : MethodName := ⟨RX2, "isOfKind", "(II)Z"⟩
abbrev cX2_hasAtMost : ByteArray := prog_4_method_7_code
def yX2_hasAtMost : MethodName := ⟨RX2, "hasAtMost", "(II)Z"⟩
abbrev cX2_isRecalledBy : ByteArray := prog_4_method_8_code
def yX2_isRecalledBy : MethodName := ⟨RX2, "isRecalledBy", "(I)Z"⟩
def RX3 : String := "Springward$Move"
def TX3 : u_T := fun k => match k with
  | 0 => ("Springward$Move", "from", "I", true)
  | 1 => ("Springward$Move", "to", "I", true)
  | 2 => ("Springward$Move", "units", "I", true)
  | _ => ("Springward$Move", "next", "LSpringward$Move;", false)
def tyX3 : Nat → FieldType := fun k => match k with
  | 0 => .int
  | 1 => .int
  | 2 => .int
  | _ => .object "Springward$Move"
abbrev wsX30 : List Cond := u_ws RX3 TX3 4
theorem nmX3 : ∀ a, a < 4 → ∀ b, b < 4 → a ≠ b → (TX3 a).2.1 ≠ (TX3 b).2.1 := by decide +kernel
theorem tyX3_ok : ∀ k, k < 4 → parseFieldDescriptor (TX3 k).2.2.1 = some (tyX3 k) := by decide +kernel
abbrev cX3_init : ByteArray := prog_5_method_1_code
def yX3_init : MethodName := ⟨RX3, "<init>", "(III)V"⟩
def RX4 : String := "Springward$Piece"
def TX4 : u_T := fun k => match k with
  | 0 => ("Springward$Piece", "place", "I", false)
  | 1 => ("Springward$Piece", "units", "I", false)
  | _ => ("Springward$Piece", "next", "LSpringward$Piece;", false)
def tyX4 : Nat → FieldType := fun k => match k with
  | 0 => .int
  | 1 => .int
  | _ => .object "Springward$Piece"
abbrev wsX40 : List Cond := u_ws RX4 TX4 3
theorem nmX4 : ∀ a, a < 3 → ∀ b, b < 3 → a ≠ b → (TX4 a).2.1 ≠ (TX4 b).2.1 := by decide +kernel
theorem tyX4_ok : ∀ k, k < 3 → parseFieldDescriptor (TX4 k).2.2.1 = some (tyX4 k) := by decide +kernel
abbrev cX4_init : ByteArray := prog_6_method_1_code
def yX4_init : MethodName := ⟨RX4, "<init>", "()V"⟩
def RX5 : String := "Springward$Portion"
def TX5 : u_T := fun k => match k with
  | 0 => ("Springward$Portion", "cell", "I", true)
  | 1 => ("Springward$Portion", "year", "I", true)
  | 2 => ("Springward$Portion", "nitrate", "I", true)
  | 3 => ("Springward$Portion", "compounds", "I", true)
  | 4 => ("Springward$Portion", "units", "I", false)
  | _ => ("Springward$Portion", "next", "LSpringward$Portion;", false)
def tyX5 : Nat → FieldType := fun k => match k with
  | 0 => .int
  | 1 => .int
  | 2 => .int
  | 3 => .int
  | 4 => .int
  | _ => .object "Springward$Portion"
abbrev wsX50 : List Cond := u_ws RX5 TX5 6
theorem nmX5 : ∀ a, a < 6 → ∀ b, b < 6 → a ≠ b → (TX5 a).2.1 ≠ (TX5 b).2.1 := by decide +kernel
theorem tyX5_ok : ∀ k, k < 6 → parseFieldDescriptor (TX5 k).2.2.1 = some (tyX5 k) := by decide +kernel
abbrev cX5_init : ByteArray := prog_7_method_1_code
def yX5_init : MethodName := ⟨RX5, "<init>", "(IIIII)V"⟩
abbrev cX5_splitOff : ByteArray := prog_7_method_2_code
def yX5_splitOff : MethodName := ⟨RX5, "splitOff", "(I)LSpringward$Portion;"⟩
def RX6 : String := "Springward$Row"
def TX6 : u_T := fun k => match k with
  | 0 => ("Springward$Row", "units", "I", false)
  | 1 => ("Springward$Row", "first", "LSpringward$Portion;", false)
  | _ => ("Springward$Row", "last", "LSpringward$Portion;", false)
def tyX6 : Nat → FieldType := fun k => match k with
  | 0 => .int
  | 1 => .object "Springward$Portion"
  | _ => .object "Springward$Portion"
abbrev wsX60 : List Cond := u_ws RX6 TX6 3
theorem nmX6 : ∀ a, a < 3 → ∀ b, b < 3 → a ≠ b → (TX6 a).2.1 ≠ (TX6 b).2.1 := by decide +kernel
theorem tyX6_ok : ∀ k, k < 3 → parseFieldDescriptor (TX6 k).2.2.1 = some (tyX6 k) := by decide +kernel
abbrev cX6_init : ByteArray := prog_8_method_1_code
def yX6_init : MethodName := ⟨RX6, "<init>", "()V"⟩
abbrev cX6_clear : ByteArray := prog_8_method_2_code
def yX6_clear : MethodName := ⟨RX6, "clear", "()V"⟩
abbrev cX6_append : ByteArray := prog_8_method_3_code
def yX6_append : MethodName := ⟨RX6, "append", "(LSpringward$Portion;)V"⟩
abbrev cX6_take : ByteArray := prog_8_method_4_code
def yX6_take : MethodName := ⟨RX6, "take", "(I)LSpringward$Portion;"⟩
abbrev cX6_frontYear : ByteArray := prog_8_method_5_code
def yX6_frontYear : MethodName := ⟨RX6, "frontYear", "()I"⟩
abbrev cX6_nitrate : ByteArray := prog_8_method_6_code
def yX6_nitrate : MethodName := ⟨RX6, "nitrate", "()I"⟩
abbrev cX6_compounds : ByteArray := prog_8_method_7_code
def yX6_compounds : MethodName := ⟨RX6, "compounds", "()I"⟩
abbrev cX6_oldest : ByteArray := prog_8_method_8_code
def yX6_oldest : MethodName := ⟨RX6, "oldest", "()I"⟩
abbrev cX6_youngest : ByteArray := prog_8_method_9_code
def yX6_youngest : MethodName := ⟨RX6, "youngest", "()I"⟩
abbrev cX6_agesIn : ByteArray := prog_8_method_10_code
def yX6_agesIn : MethodName := ⟨RX6, "agesIn", "(I)I"⟩
abbrev cX6_unitsThatFell : ByteArray := prog_8_method_11_code
def yX6_unitsThatFell : MethodName := ⟨RX6, "unitsThatFell", "(II)I"⟩
abbrev cX6_earliestWith : ByteArray := prog_8_method_12_code
def yX6_earliestWith : MethodName := ⟨RX6, "earliestWith", "(I)LSpringward$Portion;"⟩
abbrev cX6_isEarlier : ByteArray := prog_8_method_13_code
def yX6_isEarlier : MethodName := ⟨RX6, "isEarlier", "(LSpringward$Portion;LSpringward$Portion;)Z"⟩
def RX7 : String := "Springward$Tank"
def TX7 : u_T := fun k => match k with
  | 0 => ("Springward$Tank", "came", "I", false)
  | 1 => ("Springward$Tank", "went", "I", false)
  | 2 => ("Springward$Tank", "first", "LSpringward$Piece;", false)
  | _ => ("Springward$Tank", "last", "LSpringward$Piece;", false)
def tyX7 : Nat → FieldType := fun k => match k with
  | 0 => .int
  | 1 => .int
  | 2 => .object "Springward$Piece"
  | _ => .object "Springward$Piece"
abbrev wsX70 : List Cond := u_ws RX7 TX7 4
theorem nmX7 : ∀ a, a < 4 → ∀ b, b < 4 → a ≠ b → (TX7 a).2.1 ≠ (TX7 b).2.1 := by decide +kernel
theorem tyX7_ok : ∀ k, k < 4 → parseFieldDescriptor (TX7 k).2.2.1 = some (tyX7 k) := by decide +kernel
abbrev cX7_init : ByteArray := prog_9_method_1_code
def yX7_init : MethodName := ⟨RX7, "<init>", "()V"⟩
abbrev cX7_add : ByteArray := prog_9_method_2_code
def yX7_add : MethodName := ⟨RX7, "add", "(LSpringward$Piece;)V"⟩
abbrev cX7_startAt : ByteArray := prog_9_method_3_code
def yX7_startAt : MethodName := ⟨RX7, "startAt", "(LSpringward$Piece;)V"⟩
def RX8 : String := "Springward$Well"
def TX8 : u_T := fun k => match k with
  | 0 => ("Springward$Well", "cell", "LSpringward$Cell;", true)
  | 1 => ("Springward$Well", "permit", "I", true)
  | _ => ("Springward$Well", "took", "I", false)
def tyX8 : Nat → FieldType := fun k => match k with
  | 0 => .object "Springward$Cell"
  | 1 => .int
  | _ => .int
abbrev wsX80 : List Cond := u_ws RX8 TX8 3
theorem nmX8 : ∀ a, a < 3 → ∀ b, b < 3 → a ≠ b → (TX8 a).2.1 ≠ (TX8 b).2.1 := by decide +kernel
theorem tyX8_ok : ∀ k, k < 3 → parseFieldDescriptor (TX8 k).2.2.1 = some (tyX8 k) := by decide +kernel
abbrev cX8_init : ByteArray := prog_10_method_1_code
def yX8_init : MethodName := ⟨RX8, "<init>", "(LSpringward$Cell;I)V"⟩
def RX9 : String := "Springward"
def TX9 : u_T := fun k => match k with
  | 0 => ("Springward", "cells", "[LSpringward$Cell;", true)
  | 1 => ("Springward", "wells", "[LSpringward$Well;", true)
  | 2 => ("Springward", "lots", "[LSpringward$Lot;", true)
  | 3 => ("Springward", "spring", "LSpringward$Row;", true)
  | 4 => ("Springward", "journal", "LSpringward$Journal;", true)
  | 5 => ("Springward", "wellCount", "I", false)
  | 6 => ("Springward", "lotCount", "I", false)
  | 7 => ("Springward", "now", "I", false)
  | 8 => ("Springward", "cents", "I", false)
  | 9 => ("Springward", "droughtCell", "LSpringward$Cell;", false)
  | 10 => ("Springward", "firstLimit", "I", false)
  | 11 => ("Springward", "secondLimit", "I", false)
  | 12 => ("Springward", "forbidden", "I", false)
  | 13 => ("Springward", "fallen", "J", false)
  | 14 => ("Springward", "sprung", "J", false)
  | 15 => ("Springward", "paid", "J", false)
  | _ => ("Springward", "villageCents", "J", false)
def tyX9 : Nat → FieldType := fun k => match k with
  | 0 => .array (.object "Springward$Cell")
  | 1 => .array (.object "Springward$Well")
  | 2 => .array (.object "Springward$Lot")
  | 3 => .object "Springward$Row"
  | 4 => .object "Springward$Journal"
  | 5 => .int
  | 6 => .int
  | 7 => .int
  | 8 => .int
  | 9 => .object "Springward$Cell"
  | 10 => .int
  | 11 => .int
  | 12 => .int
  | 13 => .long
  | 14 => .long
  | 15 => .long
  | _ => .long
abbrev wsX90 : List Cond := u_ws RX9 TX9 17
theorem nmX9 : ∀ a, a < 17 → ∀ b, b < 17 → a ≠ b → (TX9 a).2.1 ≠ (TX9 b).2.1 := by decide +kernel
theorem tyX9_ok : ∀ k, k < 17 → parseFieldDescriptor (TX9 k).2.2.1 = some (tyX9 k) := by decide +kernel
abbrev cX9_init : ByteArray := prog_1_method_1_code
def yX9_init : MethodName := ⟨RX9, "<init>", "()V"⟩
abbrev cX9_rock : ByteArray := prog_1_method_2_code
def yX9_rock : MethodName := ⟨RX9, "rock", "(II)I"⟩
abbrev cX9_land : ByteArray := prog_1_method_3_code
def yX9_land : MethodName := ⟨RX9, "land", "(II)I"⟩
abbrev cX9_lead : ByteArray := prog_1_method_4_code
def yX9_lead : MethodName := ⟨RX9, "lead", "(II)I"⟩
abbrev cX9_spill : ByteArray := prog_1_method_5_code
def yX9_spill : MethodName := ⟨RX9, "spill", "(II)I"⟩
abbrev cX9_contract : ByteArray := prog_1_method_6_code
def yX9_contract : MethodName := ⟨RX9, "contract", "(III)V"⟩
abbrev cX9_pass : ByteArray := prog_1_method_7_code
def yX9_pass : MethodName := ⟨RX9, "pass", "(II)I"⟩
abbrev cX9_passOne : ByteArray := prog_1_method_8_code
def yX9_passOne : MethodName := ⟨RX9, "passOne", "(I)V"⟩
abbrev cX9_leadOn : ByteArray := prog_1_method_9_code
def yX9_leadOn : MethodName := ⟨RX9, "leadOn", "()V"⟩
abbrev cX9_rainOn : ByteArray := prog_1_method_10_code
def yX9_rainOn : MethodName := ⟨RX9, "rainOn", "(I)V"⟩
abbrev cX9_payContracts : ByteArray := prog_1_method_11_code
def yX9_payContracts : MethodName := ⟨RX9, "payContracts", "()V"⟩
abbrev cX9_well : ByteArray := prog_1_method_12_code
def yX9_well : MethodName := ⟨RX9, "well", "(II)I"⟩
abbrev cX9_drought : ByteArray := prog_1_method_13_code
def yX9_drought : MethodName := ⟨RX9, "drought", "(III)V"⟩
abbrev cX9_share : ByteArray := prog_1_method_14_code
def yX9_share : MethodName := ⟨RX9, "share", "(I)I"⟩
abbrev cX9_bottle : ByteArray := prog_1_method_15_code
def yX9_bottle : MethodName := ⟨RX9, "bottle", "(II)I"⟩
abbrev cX9_mayTakeStill : ByteArray := prog_1_method_16_code
def yX9_mayTakeStill : MethodName := ⟨RX9, "mayTakeStill", "(LSpringward$Well;)I"⟩
abbrev cX9_treat : ByteArray := prog_1_method_17_code
def yX9_treat : MethodName := ⟨RX9, "treat", "(II)I"⟩
abbrev cX9_label : ByteArray := prog_1_method_18_code
def yX9_label : MethodName := ⟨RX9, "label", "(II)Z"⟩
abbrev cX9_forbid : ByteArray := prog_1_method_19_code
def yX9_forbid : MethodName := ⟨RX9, "forbid", "(I)I"⟩
abbrev cX9_year : ByteArray := prog_1_method_20_code
def yX9_year : MethodName := ⟨RX9, "year", "()I"⟩
abbrev cX9_cellOf : ByteArray := prog_1_method_21_code
def yX9_cellOf : MethodName := ⟨RX9, "cellOf", "(II)I"⟩
abbrev cX9_flow : ByteArray := prog_1_method_22_code
def yX9_flow : MethodName := ⟨RX9, "flow", "(I)I"⟩
abbrev cX9_wellOf : ByteArray := prog_1_method_23_code
def yX9_wellOf : MethodName := ⟨RX9, "wellOf", "(II)I"⟩
abbrev cX9_lotOf : ByteArray := prog_1_method_24_code
def yX9_lotOf : MethodName := ⟨RX9, "lotOf", "(II)I"⟩
abbrev cX9_age : ByteArray := prog_1_method_25_code
def yX9_age : MethodName := ⟨RX9, "age", "(I)F"⟩
abbrev cX9_best : ByteArray := prog_1_method_26_code
def yX9_best : MethodName := ⟨RX9, "best", "(I)I"⟩
abbrev cX9_from : ByteArray := prog_1_method_27_code
def yX9_from : MethodName := ⟨RX9, "from", "(III)I"⟩
abbrev cX9_fromAnew : ByteArray := prog_1_method_28_code
def yX9_fromAnew : MethodName := ⟨RX9, "fromAnew", "(III)I"⟩
abbrev cX9_whence : ByteArray := prog_1_method_29_code
def yX9_whence : MethodName := ⟨RX9, "whence", "(II)I"⟩
abbrev cX9_sum : ByteArray := prog_1_method_30_code
def yX9_sum : MethodName := ⟨RX9, "sum", "(I)J"⟩
abbrev cX9_unitsInCells : ByteArray := prog_1_method_31_code
def yX9_unitsInCells : MethodName := ⟨RX9, "unitsInCells", "()J"⟩
abbrev cX9_unitsBottled : ByteArray := prog_1_method_32_code
def yX9_unitsBottled : MethodName := ⟨RX9, "unitsBottled", "()J"⟩
abbrev cX9_falseLabels : ByteArray := prog_1_method_33_code
def yX9_falseLabels : MethodName := ⟨RX9, "falseLabels", "()J"⟩
abbrev cX9_cellAt : ByteArray := prog_1_method_34_code
def yX9_cellAt : MethodName := ⟨RX9, "cellAt", "(I)LSpringward$Cell;"⟩
abbrev cX9_wellAt : ByteArray := prog_1_method_35_code
def yX9_wellAt : MethodName := ⟨RX9, "wellAt", "(I)LSpringward$Well;"⟩
abbrev cX9_lotAt : ByteArray := prog_1_method_36_code
def yX9_lotAt : MethodName := ⟨RX9, "lotAt", "(I)LSpringward$Lot;"⟩
abbrev cX9_needIndex : ByteArray := prog_1_method_37_code
def yX9_needIndex : MethodName := ⟨RX9, "needIndex", "(II)V"⟩
abbrev cX9_needRange : ByteArray := prog_1_method_38_code
def yX9_needRange : MethodName := ⟨RX9, "needRange", "(III)V"⟩
abbrev cX9_needArgument : ByteArray := prog_1_method_39_code
def yX9_needArgument : MethodName := ⟨RX9, "needArgument", "(Z)V"⟩
abbrev cX9_needState : ByteArray := prog_1_method_40_code
def yX9_needState : MethodName := ⟨RX9, "needState", "(Z)V"⟩
def RX10 : String := "SpringwardModel"
def TX10 : u_T := fun k => match k with
  | 0 => ("SpringwardModel", "year", "I", false)
  | 1 => ("SpringwardModel", "years", "[I", true)
  | 2 => ("SpringwardModel", "land", "[I", true)
  | 3 => ("SpringwardModel", "leads", "[I", true)
  | 4 => ("SpringwardModel", "waiting", "[I", true)
  | 5 => ("SpringwardModel", "contract", "[I", true)
  | 6 => ("SpringwardModel", "pay", "[I", true)
  | 7 => ("SpringwardModel", "first", "[I", true)
  | 8 => ("SpringwardModel", "last", "[I", true)
  | 9 => ("SpringwardModel", "units", "[I", true)
  | 10 => ("SpringwardModel", "knots", "I", false)
  | 11 => ("SpringwardModel", "next", "[I", true)
  | 12 => ("SpringwardModel", "many", "[I", true)
  | 13 => ("SpringwardModel", "fellOn", "[I", true)
  | 14 => ("SpringwardModel", "fellIn", "[I", true)
  | 15 => ("SpringwardModel", "nitrate", "[I", true)
  | 16 => ("SpringwardModel", "compounds", "[I", true)
  | 17 => ("SpringwardModel", "take", "[I", true)
  | 18 => ("SpringwardModel", "wells", "I", false)
  | 19 => ("SpringwardModel", "wellCell", "[I", true)
  | 20 => ("SpringwardModel", "permit", "[I", true)
  | 21 => ("SpringwardModel", "took", "[I", true)
  | 22 => ("SpringwardModel", "droughtCell", "I", false)
  | 23 => ("SpringwardModel", "firstLimit", "I", false)
  | 24 => ("SpringwardModel", "secondLimit", "I", false)
  | 25 => ("SpringwardModel", "share", "I", false)
  | 26 => ("SpringwardModel", "lots", "I", false)
  | 27 => ("SpringwardModel", "lotWell", "[I", true)
  | 28 => ("SpringwardModel", "lotYear", "[I", true)
  | 29 => ("SpringwardModel", "treated", "[I", true)
  | 30 => ("SpringwardModel", "label", "[I", true)
  | 31 => ("SpringwardModel", "isTrue", "[Z", true)
  | 32 => ("SpringwardModel", "isRecalled", "[Z", true)
  | 33 => ("SpringwardModel", "forbidden", "I", false)
  | 34 => ("SpringwardModel", "fell", "J", false)
  | 35 => ("SpringwardModel", "came", "J", false)
  | 36 => ("SpringwardModel", "bottled", "J", false)
  | 37 => ("SpringwardModel", "cost", "J", false)
  | 38 => ("SpringwardModel", "got", "J", false)
  | _ => ("SpringwardModel", "thrown", "I", false)
def tyX10 : Nat → FieldType := fun k => match k with
  | 0 => .int
  | 1 => .array .int
  | 2 => .array .int
  | 3 => .array .int
  | 4 => .array .int
  | 5 => .array .int
  | 6 => .array .int
  | 7 => .array .int
  | 8 => .array .int
  | 9 => .array .int
  | 10 => .int
  | 11 => .array .int
  | 12 => .array .int
  | 13 => .array .int
  | 14 => .array .int
  | 15 => .array .int
  | 16 => .array .int
  | 17 => .array .int
  | 18 => .int
  | 19 => .array .int
  | 20 => .array .int
  | 21 => .array .int
  | 22 => .int
  | 23 => .int
  | 24 => .int
  | 25 => .int
  | 26 => .int
  | 27 => .array .int
  | 28 => .array .int
  | 29 => .array .int
  | 30 => .array .int
  | 31 => .array .boolean
  | 32 => .array .boolean
  | 33 => .int
  | 34 => .long
  | 35 => .long
  | 36 => .long
  | 37 => .long
  | 38 => .long
  | _ => .int
abbrev wsX100 : List Cond := u_ws RX10 TX10 40
theorem nmX10 : ∀ a, a < 40 → ∀ b, b < 40 → a ≠ b → (TX10 a).2.1 ≠ (TX10 b).2.1 := by decide +kernel
theorem tyX10_ok : ∀ k, k < 40 → parseFieldDescriptor (TX10 k).2.2.1 = some (tyX10 k) := by decide +kernel
abbrev cX10_init : ByteArray := prog_12_method_1_code
def yX10_init : MethodName := ⟨RX10, "<init>", "()V"⟩
abbrev cX10_thrown : ByteArray := prog_12_method_2_code
def yX10_thrown : MethodName := ⟨RX10, "thrown", "()I"⟩
abbrev cX10_can : ByteArray := prog_12_method_3_code
def yX10_can : MethodName := ⟨RX10, "can", "(I)Z"⟩
abbrev cX10_isIn : ByteArray := prog_12_method_4_code
def yX10_isIn : MethodName := ⟨RX10, "isIn", "(III)Z"⟩
abbrev cX10_isCell : ByteArray := prog_12_method_5_code
def yX10_isCell : MethodName := ⟨RX10, "isCell", "(I)Z"⟩
abbrev cX10_isWell : ByteArray := prog_12_method_6_code
def yX10_isWell : MethodName := ⟨RX10, "isWell", "(I)Z"⟩
abbrev cX10_isLot : ByteArray := prog_12_method_7_code
def yX10_isLot : MethodName := ⟨RX10, "isLot", "(I)Z"⟩
abbrev cX10_isCompound : ByteArray := prog_12_method_8_code
def yX10_isCompound : MethodName := ⟨RX10, "isCompound", "(I)Z"⟩
abbrev cX10_lotRow : ByteArray := prog_12_method_9_code
def yX10_lotRow : MethodName := ⟨RX10, "lotRow", "(I)I"⟩
abbrev cX10_rock : ByteArray := prog_12_method_10_code
def yX10_rock : MethodName := ⟨RX10, "rock", "(II)I"⟩
abbrev cX10_land : ByteArray := prog_12_method_11_code
def yX10_land : MethodName := ⟨RX10, "land", "(II)I"⟩
abbrev cX10_lead : ByteArray := prog_12_method_12_code
def yX10_lead : MethodName := ⟨RX10, "lead", "(II)I"⟩
abbrev cX10_travel : ByteArray := prog_12_method_13_code
def yX10_travel : MethodName := ⟨RX10, "travel", "(I)I"⟩
abbrev cX10_spill : ByteArray := prog_12_method_14_code
def yX10_spill : MethodName := ⟨RX10, "spill", "(II)I"⟩
abbrev cX10_contract : ByteArray := prog_12_method_15_code
def yX10_contract : MethodName := ⟨RX10, "contract", "(III)V"⟩
abbrev cX10_appends : ByteArray := prog_12_method_16_code
def yX10_appends : MethodName := ⟨RX10, "appends", "(II)V"⟩
abbrev cX10_knots : ByteArray := prog_12_method_17_code
def yX10_knots : MethodName := ⟨RX10, "knots", "(IIIII)I"⟩
abbrev cX10_takesOff : ByteArray := prog_12_method_18_code
def yX10_takesOff : MethodName := ⟨RX10, "takesOff", "(II)I"⟩
abbrev cX10_moves : ByteArray := prog_12_method_19_code
def yX10_moves : MethodName := ⟨RX10, "moves", "(III)V"⟩
abbrev cX10_rains : ByteArray := prog_12_method_20_code
def yX10_rains : MethodName := ⟨RX10, "rains", "(II)V"⟩
abbrev cX10_passes : ByteArray := prog_12_method_21_code
def yX10_passes : MethodName := ⟨RX10, "passes", "(I)V"⟩
abbrev cX10_pass : ByteArray := prog_12_method_22_code
def yX10_pass : MethodName := ⟨RX10, "pass", "(II)I"⟩
abbrev cX10_well : ByteArray := prog_12_method_23_code
def yX10_well : MethodName := ⟨RX10, "well", "(II)I"⟩
abbrev cX10_drought : ByteArray := prog_12_method_24_code
def yX10_drought : MethodName := ⟨RX10, "drought", "(III)V"⟩
abbrev cX10_share : ByteArray := prog_12_method_25_code
def yX10_share : MethodName := ⟨RX10, "share", "(I)I"⟩
abbrev cX10_may : ByteArray := prog_12_method_26_code
def yX10_may : MethodName := ⟨RX10, "may", "(I)I"⟩
abbrev cX10_bottle : ByteArray := prog_12_method_27_code
def yX10_bottle : MethodName := ⟨RX10, "bottle", "(II)I"⟩
abbrev cX10_treat : ByteArray := prog_12_method_28_code
def yX10_treat : MethodName := ⟨RX10, "treat", "(II)I"⟩
abbrev cX10_nitrateOf : ByteArray := prog_12_method_29_code
def yX10_nitrateOf : MethodName := ⟨RX10, "nitrateOf", "(I)J"⟩
abbrev cX10_compoundsOf : ByteArray := prog_12_method_30_code
def yX10_compoundsOf : MethodName := ⟨RX10, "compoundsOf", "(I)I"⟩
abbrev cX10_fallOf : ByteArray := prog_12_method_31_code
def yX10_fallOf : MethodName := ⟨RX10, "fallOf", "(IZ)I"⟩
abbrev cX10_isWater : ByteArray := prog_12_method_32_code
def yX10_isWater : MethodName := ⟨RX10, "isWater", "(II)Z"⟩
abbrev cX10_label : ByteArray := prog_12_method_33_code
def yX10_label : MethodName := ⟨RX10, "label", "(II)Z"⟩
abbrev cX10_forbid : ByteArray := prog_12_method_34_code
def yX10_forbid : MethodName := ⟨RX10, "forbid", "(I)I"⟩
abbrev cX10_year : ByteArray := prog_12_method_35_code
def yX10_year : MethodName := ⟨RX10, "year", "()I"⟩
abbrev cX10_cellOf : ByteArray := prog_12_method_36_code
def yX10_cellOf : MethodName := ⟨RX10, "cellOf", "(II)I"⟩
abbrev cX10_flow : ByteArray := prog_12_method_37_code
def yX10_flow : MethodName := ⟨RX10, "flow", "(I)I"⟩
abbrev cX10_wellOf : ByteArray := prog_12_method_38_code
def yX10_wellOf : MethodName := ⟨RX10, "wellOf", "(II)I"⟩
abbrev cX10_lotOf : ByteArray := prog_12_method_39_code
def yX10_lotOf : MethodName := ⟨RX10, "lotOf", "(II)I"⟩
abbrev cX10_meanAge : ByteArray := prog_12_method_40_code
def yX10_meanAge : MethodName := ⟨RX10, "meanAge", "(I)F"⟩
abbrev cX10_age : ByteArray := prog_12_method_41_code
def yX10_age : MethodName := ⟨RX10, "age", "(I)F"⟩
abbrev cX10_bestOf : ByteArray := prog_12_method_42_code
def yX10_bestOf : MethodName := ⟨RX10, "bestOf", "(I)I"⟩
abbrev cX10_best : ByteArray := prog_12_method_43_code
def yX10_best : MethodName := ⟨RX10, "best", "(I)I"⟩
abbrev cX10_fromOf : ByteArray := prog_12_method_44_code
def yX10_fromOf : MethodName := ⟨RX10, "fromOf", "(III)I"⟩
abbrev cX10_from : ByteArray := prog_12_method_45_code
def yX10_from : MethodName := ⟨RX10, "from", "(III)I"⟩
abbrev cX10_fromAnew : ByteArray := prog_12_method_46_code
def yX10_fromAnew : MethodName := ⟨RX10, "fromAnew", "(III)I"⟩
abbrev cX10_whenceOf : ByteArray := prog_12_method_47_code
def yX10_whenceOf : MethodName := ⟨RX10, "whenceOf", "(II)I"⟩
abbrev cX10_whence : ByteArray := prog_12_method_48_code
def yX10_whence : MethodName := ⟨RX10, "whence", "(II)I"⟩
abbrev cX10_held : ByteArray := prog_12_method_49_code
def yX10_held : MethodName := ⟨RX10, "held", "()J"⟩
abbrev cX10_falseOnes : ByteArray := prog_12_method_50_code
def yX10_falseOnes : MethodName := ⟨RX10, "falseOnes", "()J"⟩
abbrev cX10_sum : ByteArray := prog_12_method_51_code
def yX10_sum : MethodName := ⟨RX10, "sum", "(I)J"⟩
def RJ9 : String := "java/lang/Math"
def TJ9 : u_T := fun k => match k with
  | _ => ("", "", "", false)
def tyJ9 : Nat → FieldType := fun k => match k with
  | _ => .int
abbrev wsJ90 : List Cond := u_ws RJ9 TJ9 0
theorem nmJ9 : ∀ a, a < 0 → ∀ b, b < 0 → a ≠ b → (TJ9 a).2.1 ≠ (TJ9 b).2.1 := by decide +kernel
theorem tyJ9_ok : ∀ k, k < 0 → parseFieldDescriptor (TJ9 k).2.2.1 = some (tyJ9 k) := by decide +kernel
abbrev cJ9_max_7cf53 : ByteArray := prog_17_method_65_code
def yJ9_max_7cf53 : MethodName := ⟨RJ9, "max", "(II)I"⟩
abbrev cJ9_min_7cf53 : ByteArray := prog_17_method_69_code
def yJ9_min_7cf53 : MethodName := ⟨RJ9, "min", "(II)I"⟩
def RJ0 : String := "java/lang/String"
def TJ0 : u_T := fun k => match k with
  | _ => ("", "", "", false)
def tyJ0 : Nat → FieldType := fun k => match k with
  | _ => .int
abbrev wsJ00 : List Cond := u_ws RJ0 TJ0 0
theorem nmJ0 : ∀ a, a < 0 → ∀ b, b < 0 → a ≠ b → (TJ0 a).2.1 ≠ (TJ0 b).2.1 := by decide +kernel
theorem tyJ0_ok : ∀ k, k < 0 → parseFieldDescriptor (TJ0 k).2.2.1 = some (tyJ0 k) := by decide +kernel
def RL : String := "SpringwardLaw"
abbrev cL_rock : ByteArray := method_3_code
def yL_rock : MethodName := ⟨RL, "rock", "(LSpringward;II[J)I"⟩
abbrev cL_land : ByteArray := method_4_code
def yL_land : MethodName := ⟨RL, "land", "(LSpringward;II[J)I"⟩
abbrev cL_lead : ByteArray := method_5_code
def yL_lead : MethodName := ⟨RL, "lead", "(LSpringward;II[J)I"⟩
abbrev cL_spill : ByteArray := method_6_code
def yL_spill : MethodName := ⟨RL, "spill", "(LSpringward;II[J)I"⟩
abbrev cL_contract : ByteArray := method_7_code
def yL_contract : MethodName := ⟨RL, "contract", "(LSpringward;III)I"⟩
abbrev cL_pass : ByteArray := method_8_code
def yL_pass : MethodName := ⟨RL, "pass", "(LSpringward;II[J)I"⟩
abbrev cL_well : ByteArray := method_9_code
def yL_well : MethodName := ⟨RL, "well", "(LSpringward;II[J)I"⟩
abbrev cL_drought : ByteArray := method_10_code
def yL_drought : MethodName := ⟨RL, "drought", "(LSpringward;III)I"⟩
abbrev cL_share : ByteArray := method_11_code
def yL_share : MethodName := ⟨RL, "share", "(LSpringward;I[J)I"⟩
abbrev cL_bottle : ByteArray := method_12_code
def yL_bottle : MethodName := ⟨RL, "bottle", "(LSpringward;II[J)I"⟩
abbrev cL_treat : ByteArray := method_13_code
def yL_treat : MethodName := ⟨RL, "treat", "(LSpringward;II[J)I"⟩
abbrev cL_label : ByteArray := method_14_code
def yL_label : MethodName := ⟨RL, "label", "(LSpringward;II[J)I"⟩
abbrev cL_forbid : ByteArray := method_15_code
def yL_forbid : MethodName := ⟨RL, "forbid", "(LSpringward;I[J)I"⟩
abbrev cL_cellOf : ByteArray := method_16_code
def yL_cellOf : MethodName := ⟨RL, "cellOf", "(LSpringward;II[J)I"⟩
abbrev cL_flow : ByteArray := method_17_code
def yL_flow : MethodName := ⟨RL, "flow", "(LSpringward;I[J)I"⟩
abbrev cL_wellOf : ByteArray := method_18_code
def yL_wellOf : MethodName := ⟨RL, "wellOf", "(LSpringward;II[J)I"⟩
abbrev cL_lotOf : ByteArray := method_19_code
def yL_lotOf : MethodName := ⟨RL, "lotOf", "(LSpringward;II[J)I"⟩
abbrev cL_age : ByteArray := method_20_code
def yL_age : MethodName := ⟨RL, "age", "(LSpringward;I[D)I"⟩
abbrev cL_best : ByteArray := method_21_code
def yL_best : MethodName := ⟨RL, "best", "(LSpringward;I[J)I"⟩
abbrev cL_from : ByteArray := method_22_code
def yL_from : MethodName := ⟨RL, "from", "(LSpringward;III[J)I"⟩
abbrev cL_fromAnew : ByteArray := method_23_code
def yL_fromAnew : MethodName := ⟨RL, "fromAnew", "(LSpringward;III[J)I"⟩
abbrev cL_whence : ByteArray := method_24_code
def yL_whence : MethodName := ⟨RL, "whence", "(LSpringward;II[J)I"⟩
abbrev cL_sum : ByteArray := method_25_code
def yL_sum : MethodName := ⟨RL, "sum", "(LSpringward;I[J)I"⟩
abbrev cL_law : ByteArray := code
def yL_law : MethodName := ⟨RL, "law", "([I)Z"⟩
abbrev vwCl : List vw_C := [(RX0, TX0, 8), (RX1, TX1, 4), (RX2, TX2, 7), (RX3, TX3, 4), (RX4, TX4, 3), (RX5, TX5, 6), (RX6, TX6, 3), (RX7, TX7, 4), (RX8, TX8, 3), (RX9, TX9, 17), (RX10, TX10, 40)]
end
section
theorem dX0_init_0 : decode cX0_init 0 = .ok (.aload_n 0, 1) := by decide +kernel
theorem dX0_init_1 : decode cX0_init 1 = .ok (.invokespecial 3, 3) := by decide +kernel
theorem dX0_init_4 : decode cX0_init 4 = .ok (.aload_n 0, 1) := by decide +kernel
theorem dX0_init_5 : decode cX0_init 5 = .ok (.new 9, 3) := by decide +kernel
theorem dX0_init_8 : decode cX0_init 8 = .ok (.dup, 1) := by decide +kernel
theorem dX0_init_9 : decode cX0_init 9 = .ok (.invokespecial 11, 3) := by decide +kernel
theorem dX0_init_12 : decode cX0_init 12 = .ok (.putfield 12, 3) := by decide +kernel
theorem dX0_init_15 : decode cX0_init 15 = .ok (.aload_n 0, 1) := by decide +kernel
theorem dX0_init_16 : decode cX0_init 16 = .ok (.iconst 5, 1) := by decide +kernel
theorem dX0_init_17 : decode cX0_init 17 = .ok (.putfield 18, 3) := by decide +kernel
theorem dX0_init_20 : decode cX0_init 20 = .ok (.aload_n 0, 1) := by decide +kernel
theorem dX0_init_21 : decode cX0_init 21 = .ok (.iconst 0, 1) := by decide +kernel
theorem dX0_init_22 : decode cX0_init 22 = .ok (.putfield 22, 3) := by decide +kernel
theorem dX0_init_25 : decode cX0_init 25 = .ok (.aload_n 0, 1) := by decide +kernel
theorem dX0_init_26 : decode cX0_init 26 = .ok (.iload_n 1, 1) := by decide +kernel
theorem dX0_init_27 : decode cX0_init 27 = .ok (.putfield 25, 3) := by decide +kernel
theorem dX0_init_30 : decode cX0_init 30 = .ok (.aload_n 0, 1) := by decide +kernel
theorem dX0_init_31 : decode cX0_init 31 = .ok (.aload_n 2, 1) := by decide +kernel
theorem dX0_init_32 : decode cX0_init 32 = .ok (.putfield 28, 3) := by decide +kernel
theorem dX0_init_35 : decode cX0_init 35 = .ok (.return_, 1) := by decide +kernel
theorem dX0_leadsTo_0 : decode cX0_leadsTo 0 = .ok (.aload_n 0, 1) := by decide +kernel
theorem dX0_leadsTo_1 : decode cX0_leadsTo 1 = .ok (.getfield 28, 3) := by decide +kernel
theorem dX0_leadsTo_4 : decode cX0_leadsTo 4 = .ok (.ifnonnull 7, 3) := by decide +kernel
theorem dX0_leadsTo_7 : decode cX0_leadsTo 7 = .ok (.iconst (-1), 1) := by decide +kernel
theorem dX0_leadsTo_8 : decode cX0_leadsTo 8 = .ok (.goto 10, 3) := by decide +kernel
theorem dX0_leadsTo_11 : decode cX0_leadsTo 11 = .ok (.aload_n 0, 1) := by decide +kernel
theorem dX0_leadsTo_12 : decode cX0_leadsTo 12 = .ok (.getfield 28, 3) := by decide +kernel
theorem dX0_leadsTo_15 : decode cX0_leadsTo 15 = .ok (.getfield 25, 3) := by decide +kernel
theorem dX0_leadsTo_18 : decode cX0_leadsTo 18 = .ok (.ireturn, 1) := by decide +kernel
theorem dX0_travel_0 : decode cX0_travel 0 = .ok (.iconst 0, 1) := by decide +kernel
theorem dX0_travel_1 : decode cX0_travel 1 = .ok (.istore_n 1, 1) := by decide +kernel
theorem dX0_travel_2 : decode cX0_travel 2 = .ok (.aload_n 0, 1) := by decide +kernel
theorem dX0_travel_3 : decode cX0_travel 3 = .ok (.astore_n 2, 1) := by decide +kernel
theorem dX0_travel_4 : decode cX0_travel 4 = .ok (.aload_n 2, 1) := by decide +kernel
theorem dX0_travel_5 : decode cX0_travel 5 = .ok (.ifnull 18, 3) := by decide +kernel
theorem dX0_travel_8 : decode cX0_travel 8 = .ok (.iload_n 1, 1) := by decide +kernel
theorem dX0_travel_9 : decode cX0_travel 9 = .ok (.aload_n 2, 1) := by decide +kernel
theorem dX0_travel_10 : decode cX0_travel 10 = .ok (.getfield 18, 3) := by decide +kernel
theorem dX0_travel_13 : decode cX0_travel 13 = .ok (.iadd, 1) := by decide +kernel
theorem dX0_travel_14 : decode cX0_travel 14 = .ok (.istore_n 1, 1) := by decide +kernel
theorem dX0_travel_15 : decode cX0_travel 15 = .ok (.aload_n 2, 1) := by decide +kernel
theorem dX0_travel_16 : decode cX0_travel 16 = .ok (.getfield 28, 3) := by decide +kernel
theorem dX0_travel_19 : decode cX0_travel 19 = .ok (.astore_n 2, 1) := by decide +kernel
theorem dX0_travel_20 : decode cX0_travel 20 = .ok (.goto (-16), 3) := by decide +kernel
theorem dX0_travel_23 : decode cX0_travel 23 = .ok (.iload_n 1, 1) := by decide +kernel
theorem dX0_travel_24 : decode cX0_travel 24 = .ok (.ireturn, 1) := by decide +kernel
theorem dX0_yearly_0 : decode cX0_yearly 0 = .ok (.aload_n 0, 1) := by decide +kernel
theorem dX0_yearly_1 : decode cX0_yearly 1 = .ok (.getfield 18, 3) := by decide +kernel
theorem dX0_yearly_4 : decode cX0_yearly 4 = .ok (.iconst 1, 1) := by decide +kernel
theorem dX0_yearly_5 : decode cX0_yearly 5 = .ok (.if_icmp .ge 7, 3) := by decide +kernel
theorem dX0_yearly_8 : decode cX0_yearly 8 = .ok (.iconst 0, 1) := by decide +kernel
theorem dX0_yearly_9 : decode cX0_yearly 9 = .ok (.goto 15, 3) := by decide +kernel
theorem dX0_yearly_12 : decode cX0_yearly 12 = .ok (.aload_n 0, 1) := by decide +kernel
theorem dX0_yearly_13 : decode cX0_yearly 13 = .ok (.getfield 12, 3) := by decide +kernel
theorem dX0_yearly_16 : decode cX0_yearly 16 = .ok (.getfield 32, 3) := by decide +kernel
theorem dX0_yearly_19 : decode cX0_yearly 19 = .ok (.aload_n 0, 1) := by decide +kernel
theorem dX0_yearly_20 : decode cX0_yearly 20 = .ok (.getfield 18, 3) := by decide +kernel
theorem dX0_yearly_23 : decode cX0_yearly 23 = .ok (.idiv, 1) := by decide +kernel
theorem dX0_yearly_24 : decode cX0_yearly 24 = .ok (.ireturn, 1) := by decide +kernel
theorem dX0_catchRain_0 : decode cX0_catchRain 0 = .ok (.aload_n 0, 1) := by decide +kernel
theorem dX0_catchRain_1 : decode cX0_catchRain 1 = .ok (.getfield 12, 3) := by decide +kernel
theorem dX0_catchRain_4 : decode cX0_catchRain 4 = .ok (.new 35, 3) := by decide +kernel
theorem dX0_catchRain_7 : decode cX0_catchRain 7 = .ok (.dup, 1) := by decide +kernel
theorem dX0_catchRain_8 : decode cX0_catchRain 8 = .ok (.aload_n 0, 1) := by decide +kernel
theorem dX0_catchRain_9 : decode cX0_catchRain 9 = .ok (.getfield 25, 3) := by decide +kernel
theorem dX0_catchRain_12 : decode cX0_catchRain 12 = .ok (.iload_n 1, 1) := by decide +kernel
theorem dX0_catchRain_13 : decode cX0_catchRain 13 = .ok (.aload_n 0, 1) := by decide +kernel
theorem dX0_catchRain_14 : decode cX0_catchRain 14 = .ok (.invokevirtual 37, 3) := by decide +kernel
theorem dX0_catchRain_17 : decode cX0_catchRain 17 = .ok (.aload_n 0, 1) := by decide +kernel
theorem dX0_catchRain_18 : decode cX0_catchRain 18 = .ok (.getfield 41, 3) := by decide +kernel
theorem dX0_catchRain_21 : decode cX0_catchRain 21 = .ok (.iload_n 2, 1) := by decide +kernel
theorem dX0_catchRain_22 : decode cX0_catchRain 22 = .ok (.invokespecial 44, 3) := by decide +kernel
theorem dX0_catchRain_25 : decode cX0_catchRain 25 = .ok (.invokevirtual 47, 3) := by decide +kernel
theorem dX0_catchRain_28 : decode cX0_catchRain 28 = .ok (.aload_n 0, 1) := by decide +kernel
theorem dX0_catchRain_29 : decode cX0_catchRain 29 = .ok (.iconst 0, 1) := by decide +kernel
theorem dX0_catchRain_30 : decode cX0_catchRain 30 = .ok (.putfield 41, 3) := by decide +kernel
theorem dX0_catchRain_33 : decode cX0_catchRain 33 = .ok (.return_, 1) := by decide +kernel
theorem dX0_nitrateOfRain_0 : decode cX0_nitrateOfRain 0 = .ok (.aload_n 0, 1) := by decide +kernel
theorem dX0_nitrateOfRain_1 : decode cX0_nitrateOfRain 1 = .ok (.getfield 22, 3) := by decide +kernel
theorem dX0_nitrateOfRain_4 : decode cX0_nitrateOfRain 4 = .ok (.ifCond .ne 5, 3) := by decide +kernel
theorem dX0_nitrateOfRain_7 : decode cX0_nitrateOfRain 7 = .ok (.iconst 1, 1) := by decide +kernel
theorem dX0_nitrateOfRain_8 : decode cX0_nitrateOfRain 8 = .ok (.ireturn, 1) := by decide +kernel
theorem dX0_nitrateOfRain_9 : decode cX0_nitrateOfRain 9 = .ok (.aload_n 0, 1) := by decide +kernel
theorem dX0_nitrateOfRain_10 : decode cX0_nitrateOfRain 10 = .ok (.getfield 22, 3) := by decide +kernel
theorem dX0_nitrateOfRain_13 : decode cX0_nitrateOfRain 13 = .ok (.iconst 1, 1) := by decide +kernel
theorem dX0_nitrateOfRain_14 : decode cX0_nitrateOfRain 14 = .ok (.if_icmp .eq 10, 3) := by decide +kernel
theorem dX0_nitrateOfRain_17 : decode cX0_nitrateOfRain 17 = .ok (.aload_n 0, 1) := by decide +kernel
theorem dX0_nitrateOfRain_18 : decode cX0_nitrateOfRain 18 = .ok (.getfield 51, 3) := by decide +kernel
theorem dX0_nitrateOfRain_21 : decode cX0_nitrateOfRain 21 = .ok (.ifCond .le 7, 3) := by decide +kernel
theorem dX0_nitrateOfRain_24 : decode cX0_nitrateOfRain 24 = .ok (.iconst 3, 1) := by decide +kernel
theorem dX0_nitrateOfRain_25 : decode cX0_nitrateOfRain 25 = .ok (.goto 5, 3) := by decide +kernel
theorem dX0_nitrateOfRain_28 : decode cX0_nitrateOfRain 28 = .ok (.bipush 10, 2) := by decide +kernel
theorem dX0_nitrateOfRain_30 : decode cX0_nitrateOfRain 30 = .ok (.ireturn, 1) := by decide +kernel
theorem dX1_init_0 : decode cX1_init 0 = .ok (.aload_n 0, 1) := by decide +kernel
theorem dX1_init_1 : decode cX1_init 1 = .ok (.invokespecial 3, 3) := by decide +kernel
theorem dX1_init_4 : decode cX1_init 4 = .ok (.aload_n 0, 1) := by decide +kernel
theorem dX1_init_5 : decode cX1_init 5 = .ok (.bipush 10, 2) := by decide +kernel
theorem dX1_init_7 : decode cX1_init 7 = .ok (.anewarray 9, 3) := by decide +kernel
theorem dX1_init_10 : decode cX1_init 10 = .ok (.putfield 11, 3) := by decide +kernel
theorem dX1_init_13 : decode cX1_init 13 = .ok (.iconst 0, 1) := by decide +kernel
theorem dX1_init_14 : decode cX1_init 14 = .ok (.istore_n 1, 1) := by decide +kernel
theorem dX1_init_15 : decode cX1_init 15 = .ok (.iload_n 1, 1) := by decide +kernel
theorem dX1_init_16 : decode cX1_init 16 = .ok (.bipush 10, 2) := by decide +kernel
theorem dX1_init_18 : decode cX1_init 18 = .ok (.if_icmp .ge 22, 3) := by decide +kernel
theorem dX1_init_21 : decode cX1_init 21 = .ok (.aload_n 0, 1) := by decide +kernel
theorem dX1_init_22 : decode cX1_init 22 = .ok (.getfield 11, 3) := by decide +kernel
theorem dX1_init_25 : decode cX1_init 25 = .ok (.iload_n 1, 1) := by decide +kernel
theorem dX1_init_26 : decode cX1_init 26 = .ok (.new 9, 3) := by decide +kernel
theorem dX1_init_29 : decode cX1_init 29 = .ok (.dup, 1) := by decide +kernel
theorem dX1_init_30 : decode cX1_init 30 = .ok (.invokespecial 17, 3) := by decide +kernel
theorem dX1_init_33 : decode cX1_init 33 = .ok (.aastore, 1) := by decide +kernel
theorem dX1_init_34 : decode cX1_init 34 = .ok (.iinc 1 1, 3) := by decide +kernel
theorem dX1_init_37 : decode cX1_init 37 = .ok (.goto (-22), 3) := by decide +kernel
theorem dX1_init_40 : decode cX1_init 40 = .ok (.return_, 1) := by decide +kernel
theorem dX1_note_0 : decode cX1_note 0 = .ok (.iload_n 3, 1) := by decide +kernel
theorem dX1_note_1 : decode cX1_note 1 = .ok (.iconst 1, 1) := by decide +kernel
theorem dX1_note_2 : decode cX1_note 2 = .ok (.if_icmp .ge 4, 3) := by decide +kernel
theorem dX1_note_5 : decode cX1_note 5 = .ok (.return_, 1) := by decide +kernel
theorem dX1_note_6 : decode cX1_note 6 = .ok (.new 18, 3) := by decide +kernel
theorem dX1_note_9 : decode cX1_note 9 = .ok (.dup, 1) := by decide +kernel
theorem dX1_note_10 : decode cX1_note 10 = .ok (.iload_n 1, 1) := by decide +kernel
theorem dX1_note_11 : decode cX1_note 11 = .ok (.iload_n 2, 1) := by decide +kernel
theorem dX1_note_12 : decode cX1_note 12 = .ok (.iload_n 3, 1) := by decide +kernel
theorem dX1_note_13 : decode cX1_note 13 = .ok (.invokespecial 20, 3) := by decide +kernel
theorem dX1_note_16 : decode cX1_note 16 = .ok (.astore 4, 2) := by decide +kernel
theorem dX1_note_18 : decode cX1_note 18 = .ok (.aload_n 0, 1) := by decide +kernel
theorem dX1_note_19 : decode cX1_note 19 = .ok (.getfield 23, 3) := by decide +kernel
theorem dX1_note_22 : decode cX1_note 22 = .ok (.ifnonnull 12, 3) := by decide +kernel
theorem dX1_note_25 : decode cX1_note 25 = .ok (.aload_n 0, 1) := by decide +kernel
theorem dX1_note_26 : decode cX1_note 26 = .ok (.aload 4, 2) := by decide +kernel
theorem dX1_note_28 : decode cX1_note 28 = .ok (.putfield 27, 3) := by decide +kernel
theorem dX1_note_31 : decode cX1_note 31 = .ok (.goto 12, 3) := by decide +kernel
theorem dX1_note_34 : decode cX1_note 34 = .ok (.aload_n 0, 1) := by decide +kernel
theorem dX1_note_35 : decode cX1_note 35 = .ok (.getfield 23, 3) := by decide +kernel
theorem dX1_note_38 : decode cX1_note 38 = .ok (.aload 4, 2) := by decide +kernel
theorem dX1_note_40 : decode cX1_note 40 = .ok (.putfield 30, 3) := by decide +kernel
theorem dX1_note_43 : decode cX1_note 43 = .ok (.aload_n 0, 1) := by decide +kernel
theorem dX1_note_44 : decode cX1_note 44 = .ok (.aload 4, 2) := by decide +kernel
theorem dX1_note_46 : decode cX1_note 46 = .ok (.putfield 23, 3) := by decide +kernel
theorem dX1_note_49 : decode cX1_note 49 = .ok (.return_, 1) := by decide +kernel
theorem dX1_follow_0 : decode cX1_follow 0 = .ok (.aload_n 0, 1) := by decide +kernel
theorem dX1_follow_1 : decode cX1_follow 1 = .ok (.invokevirtual 33, 3) := by decide +kernel
theorem dX1_follow_4 : decode cX1_follow 4 = .ok (.aload_n 0, 1) := by decide +kernel
theorem dX1_follow_5 : decode cX1_follow 5 = .ok (.getfield 27, 3) := by decide +kernel
theorem dX1_follow_8 : decode cX1_follow 8 = .ok (.astore 4, 2) := by decide +kernel
theorem dX1_follow_10 : decode cX1_follow 10 = .ok (.aload 4, 2) := by decide +kernel
theorem dX1_follow_12 : decode cX1_follow 12 = .ok (.ifnull 69, 3) := by decide +kernel
theorem dX1_follow_15 : decode cX1_follow 15 = .ok (.aload 4, 2) := by decide +kernel
theorem dX1_follow_17 : decode cX1_follow 17 = .ok (.getfield 36, 3) := by decide +kernel
theorem dX1_follow_20 : decode cX1_follow 20 = .ok (.bipush (-2), 2) := by decide +kernel
theorem dX1_follow_22 : decode cX1_follow 22 = .ok (.if_icmp .ne 29, 3) := by decide +kernel
theorem dX1_follow_25 : decode cX1_follow 25 = .ok (.aload_n 0, 1) := by decide +kernel
theorem dX1_follow_26 : decode cX1_follow 26 = .ok (.aload 4, 2) := by decide +kernel
theorem dX1_follow_28 : decode cX1_follow 28 = .ok (.getfield 40, 3) := by decide +kernel
theorem dX1_follow_31 : decode cX1_follow 31 = .ok (.aload 4, 2) := by decide +kernel
theorem dX1_follow_33 : decode cX1_follow 33 = .ok (.getfield 43, 3) := by decide +kernel
theorem dX1_follow_36 : decode cX1_follow 36 = .ok (.iload_n 2, 1) := by decide +kernel
theorem dX1_follow_37 : decode cX1_follow 37 = .ok (.if_icmp .ne 7, 3) := by decide +kernel
theorem dX1_follow_40 : decode cX1_follow 40 = .ok (.iload_n 1, 1) := by decide +kernel
theorem dX1_follow_41 : decode cX1_follow 41 = .ok (.goto 4, 3) := by decide +kernel
theorem dX1_follow_44 : decode cX1_follow 44 = .ok (.iconst (-1), 1) := by decide +kernel
theorem dX1_follow_45 : decode cX1_follow 45 = .ok (.invokevirtual 46, 3) := by decide +kernel
theorem dX1_follow_48 : decode cX1_follow 48 = .ok (.goto 23, 3) := by decide +kernel
theorem dX1_follow_51 : decode cX1_follow 51 = .ok (.aload_n 0, 1) := by decide +kernel
theorem dX1_follow_52 : decode cX1_follow 52 = .ok (.aload 4, 2) := by decide +kernel
theorem dX1_follow_54 : decode cX1_follow 54 = .ok (.invokevirtual 50, 3) := by decide +kernel
theorem dX1_follow_57 : decode cX1_follow 57 = .ok (.istore 5, 2) := by decide +kernel
theorem dX1_follow_59 : decode cX1_follow 59 = .ok (.aload 4, 2) := by decide +kernel
theorem dX1_follow_61 : decode cX1_follow 61 = .ok (.getfield 43, 3) := by decide +kernel
theorem dX1_follow_64 : decode cX1_follow 64 = .ok (.iload_n 3, 1) := by decide +kernel
theorem dX1_follow_65 : decode cX1_follow 65 = .ok (.if_icmp .ne 6, 3) := by decide +kernel
theorem dX1_follow_68 : decode cX1_follow 68 = .ok (.iload 5, 2) := by decide +kernel
theorem dX1_follow_70 : decode cX1_follow 70 = .ok (.ireturn, 1) := by decide +kernel
theorem dX1_follow_71 : decode cX1_follow 71 = .ok (.aload 4, 2) := by decide +kernel
theorem dX1_follow_73 : decode cX1_follow 73 = .ok (.getfield 30, 3) := by decide +kernel
theorem dX1_follow_76 : decode cX1_follow 76 = .ok (.astore 4, 2) := by decide +kernel
theorem dX1_follow_78 : decode cX1_follow 78 = .ok (.goto (-68), 3) := by decide +kernel
theorem dX1_follow_81 : decode cX1_follow 81 = .ok (.iconst 0, 1) := by decide +kernel
theorem dX1_follow_82 : decode cX1_follow 82 = .ok (.ireturn, 1) := by decide +kernel
theorem dX1_emptyTanks_0 : decode cX1_emptyTanks 0 = .ok (.iconst 0, 1) := by decide +kernel
theorem dX1_emptyTanks_1 : decode cX1_emptyTanks 1 = .ok (.istore_n 1, 1) := by decide +kernel
theorem dX1_emptyTanks_2 : decode cX1_emptyTanks 2 = .ok (.iload_n 1, 1) := by decide +kernel
theorem dX1_emptyTanks_3 : decode cX1_emptyTanks 3 = .ok (.bipush 10, 2) := by decide +kernel
theorem dX1_emptyTanks_5 : decode cX1_emptyTanks 5 = .ok (.if_icmp .ge 57, 3) := by decide +kernel
theorem dX1_emptyTanks_8 : decode cX1_emptyTanks 8 = .ok (.aload_n 0, 1) := by decide +kernel
theorem dX1_emptyTanks_9 : decode cX1_emptyTanks 9 = .ok (.getfield 11, 3) := by decide +kernel
theorem dX1_emptyTanks_12 : decode cX1_emptyTanks 12 = .ok (.iload_n 1, 1) := by decide +kernel
theorem dX1_emptyTanks_13 : decode cX1_emptyTanks 13 = .ok (.aaload, 1) := by decide +kernel
theorem dX1_emptyTanks_14 : decode cX1_emptyTanks 14 = .ok (.astore_n 2, 1) := by decide +kernel
theorem dX1_emptyTanks_15 : decode cX1_emptyTanks 15 = .ok (.aload_n 2, 1) := by decide +kernel
theorem dX1_emptyTanks_16 : decode cX1_emptyTanks 16 = .ok (.getfield 54, 3) := by decide +kernel
theorem dX1_emptyTanks_19 : decode cX1_emptyTanks 19 = .ok (.astore_n 3, 1) := by decide +kernel
theorem dX1_emptyTanks_20 : decode cX1_emptyTanks 20 = .ok (.aload_n 3, 1) := by decide +kernel
theorem dX1_emptyTanks_21 : decode cX1_emptyTanks 21 = .ok (.ifnull 20, 3) := by decide +kernel
theorem dX1_emptyTanks_24 : decode cX1_emptyTanks 24 = .ok (.aload_n 3, 1) := by decide +kernel
theorem dX1_emptyTanks_25 : decode cX1_emptyTanks 25 = .ok (.getfield 57, 3) := by decide +kernel
theorem dX1_emptyTanks_28 : decode cX1_emptyTanks 28 = .ok (.astore 4, 2) := by decide +kernel
theorem dX1_emptyTanks_30 : decode cX1_emptyTanks 30 = .ok (.aload_n 0, 1) := by decide +kernel
theorem dX1_emptyTanks_31 : decode cX1_emptyTanks 31 = .ok (.aload_n 3, 1) := by decide +kernel
theorem dX1_emptyTanks_32 : decode cX1_emptyTanks 32 = .ok (.invokevirtual 61, 3) := by decide +kernel
theorem dX1_emptyTanks_35 : decode cX1_emptyTanks 35 = .ok (.aload 4, 2) := by decide +kernel
theorem dX1_emptyTanks_37 : decode cX1_emptyTanks 37 = .ok (.astore_n 3, 1) := by decide +kernel
theorem dX1_emptyTanks_38 : decode cX1_emptyTanks 38 = .ok (.goto (-18), 3) := by decide +kernel
theorem dX1_emptyTanks_41 : decode cX1_emptyTanks 41 = .ok (.aload_n 2, 1) := by decide +kernel
theorem dX1_emptyTanks_42 : decode cX1_emptyTanks 42 = .ok (.aconst_null, 1) := by decide +kernel
theorem dX1_emptyTanks_43 : decode cX1_emptyTanks 43 = .ok (.invokevirtual 65, 3) := by decide +kernel
theorem dX1_emptyTanks_46 : decode cX1_emptyTanks 46 = .ok (.aload_n 2, 1) := by decide +kernel
theorem dX1_emptyTanks_47 : decode cX1_emptyTanks 47 = .ok (.iconst 0, 1) := by decide +kernel
theorem dX1_emptyTanks_48 : decode cX1_emptyTanks 48 = .ok (.putfield 68, 3) := by decide +kernel
theorem dX1_emptyTanks_51 : decode cX1_emptyTanks 51 = .ok (.aload_n 2, 1) := by decide +kernel
theorem dX1_emptyTanks_52 : decode cX1_emptyTanks 52 = .ok (.iconst 0, 1) := by decide +kernel
theorem dX1_emptyTanks_53 : decode cX1_emptyTanks 53 = .ok (.putfield 71, 3) := by decide +kernel
theorem dX1_emptyTanks_56 : decode cX1_emptyTanks 56 = .ok (.iinc 1 1, 3) := by decide +kernel
theorem dX1_emptyTanks_59 : decode cX1_emptyTanks 59 = .ok (.goto (-57), 3) := by decide +kernel
theorem dX1_emptyTanks_62 : decode cX1_emptyTanks 62 = .ok (.return_, 1) := by decide +kernel
theorem dX1_rainAgain_0 : decode cX1_rainAgain 0 = .ok (.iconst 0, 1) := by decide +kernel
theorem dX1_rainAgain_1 : decode cX1_rainAgain 1 = .ok (.istore_n 3, 1) := by decide +kernel
theorem dX1_rainAgain_2 : decode cX1_rainAgain 2 = .ok (.iload_n 3, 1) := by decide +kernel
theorem dX1_rainAgain_3 : decode cX1_rainAgain 3 = .ok (.bipush 10, 2) := by decide +kernel
theorem dX1_rainAgain_5 : decode cX1_rainAgain 5 = .ok (.if_icmp .ge 48, 3) := by decide +kernel
theorem dX1_rainAgain_8 : decode cX1_rainAgain 8 = .ok (.aload_n 0, 1) := by decide +kernel
theorem dX1_rainAgain_9 : decode cX1_rainAgain 9 = .ok (.getfield 11, 3) := by decide +kernel
theorem dX1_rainAgain_12 : decode cX1_rainAgain 12 = .ok (.iload_n 3, 1) := by decide +kernel
theorem dX1_rainAgain_13 : decode cX1_rainAgain 13 = .ok (.aaload, 1) := by decide +kernel
theorem dX1_rainAgain_14 : decode cX1_rainAgain 14 = .ok (.astore 4, 2) := by decide +kernel
theorem dX1_rainAgain_16 : decode cX1_rainAgain 16 = .ok (.iload_n 3, 1) := by decide +kernel
theorem dX1_rainAgain_17 : decode cX1_rainAgain 17 = .ok (.iload_n 2, 1) := by decide +kernel
theorem dX1_rainAgain_18 : decode cX1_rainAgain 18 = .ok (.if_icmp .ne 18, 3) := by decide +kernel
theorem dX1_rainAgain_21 : decode cX1_rainAgain 21 = .ok (.aload 4, 2) := by decide +kernel
theorem dX1_rainAgain_23 : decode cX1_rainAgain 23 = .ok (.aload_n 0, 1) := by decide +kernel
theorem dX1_rainAgain_24 : decode cX1_rainAgain 24 = .ok (.aload 4, 2) := by decide +kernel
theorem dX1_rainAgain_26 : decode cX1_rainAgain 26 = .ok (.getfield 68, 3) := by decide +kernel
theorem dX1_rainAgain_29 : decode cX1_rainAgain 29 = .ok (.iload_n 1, 1) := by decide +kernel
theorem dX1_rainAgain_30 : decode cX1_rainAgain 30 = .ok (.invokevirtual 74, 3) := by decide +kernel
theorem dX1_rainAgain_33 : decode cX1_rainAgain 33 = .ok (.invokevirtual 78, 3) := by decide +kernel
theorem dX1_rainAgain_36 : decode cX1_rainAgain 36 = .ok (.aload 4, 2) := by decide +kernel
theorem dX1_rainAgain_38 : decode cX1_rainAgain 38 = .ok (.dup, 1) := by decide +kernel
theorem dX1_rainAgain_39 : decode cX1_rainAgain 39 = .ok (.getfield 68, 3) := by decide +kernel
theorem dX1_rainAgain_42 : decode cX1_rainAgain 42 = .ok (.iload_n 1, 1) := by decide +kernel
theorem dX1_rainAgain_43 : decode cX1_rainAgain 43 = .ok (.iadd, 1) := by decide +kernel
theorem dX1_rainAgain_44 : decode cX1_rainAgain 44 = .ok (.putfield 68, 3) := by decide +kernel
theorem dX1_rainAgain_47 : decode cX1_rainAgain 47 = .ok (.iinc 3 1, 3) := by decide +kernel
theorem dX1_rainAgain_50 : decode cX1_rainAgain 50 = .ok (.goto (-48), 3) := by decide +kernel
theorem dX1_rainAgain_53 : decode cX1_rainAgain 53 = .ok (.return_, 1) := by decide +kernel
theorem dX1_moveAgain_0 : decode cX1_moveAgain 0 = .ok (.aload_n 0, 1) := by decide +kernel
theorem dX1_moveAgain_1 : decode cX1_moveAgain 1 = .ok (.aload_n 1, 1) := by decide +kernel
theorem dX1_moveAgain_2 : decode cX1_moveAgain 2 = .ok (.getfield 36, 3) := by decide +kernel
theorem dX1_moveAgain_5 : decode cX1_moveAgain 5 = .ok (.invokevirtual 81, 3) := by decide +kernel
theorem dX1_moveAgain_8 : decode cX1_moveAgain 8 = .ok (.astore_n 2, 1) := by decide +kernel
theorem dX1_moveAgain_9 : decode cX1_moveAgain 9 = .ok (.aload_n 0, 1) := by decide +kernel
theorem dX1_moveAgain_10 : decode cX1_moveAgain 10 = .ok (.aload_n 1, 1) := by decide +kernel
theorem dX1_moveAgain_11 : decode cX1_moveAgain 11 = .ok (.getfield 43, 3) := by decide +kernel
theorem dX1_moveAgain_14 : decode cX1_moveAgain 14 = .ok (.invokevirtual 81, 3) := by decide +kernel
theorem dX1_moveAgain_17 : decode cX1_moveAgain 17 = .ok (.astore_n 3, 1) := by decide +kernel
theorem dX1_moveAgain_18 : decode cX1_moveAgain 18 = .ok (.aload_n 2, 1) := by decide +kernel
theorem dX1_moveAgain_19 : decode cX1_moveAgain 19 = .ok (.ifnonnull 5, 3) := by decide +kernel
theorem dX1_moveAgain_22 : decode cX1_moveAgain 22 = .ok (.iconst 0, 1) := by decide +kernel
theorem dX1_moveAgain_23 : decode cX1_moveAgain 23 = .ok (.ireturn, 1) := by decide +kernel
theorem dX1_moveAgain_24 : decode cX1_moveAgain 24 = .ok (.aload_n 2, 1) := by decide +kernel
theorem dX1_moveAgain_25 : decode cX1_moveAgain 25 = .ok (.getfield 71, 3) := by decide +kernel
theorem dX1_moveAgain_28 : decode cX1_moveAgain 28 = .ok (.aload_n 1, 1) := by decide +kernel
theorem dX1_moveAgain_29 : decode cX1_moveAgain 29 = .ok (.getfield 40, 3) := by decide +kernel
theorem dX1_moveAgain_32 : decode cX1_moveAgain 32 = .ok (.iadd, 1) := by decide +kernel
theorem dX1_moveAgain_33 : decode cX1_moveAgain 33 = .ok (.istore 4, 2) := by decide +kernel
theorem dX1_moveAgain_35 : decode cX1_moveAgain 35 = .ok (.iconst 0, 1) := by decide +kernel
theorem dX1_moveAgain_36 : decode cX1_moveAgain 36 = .ok (.istore 5, 2) := by decide +kernel
theorem dX1_moveAgain_38 : decode cX1_moveAgain 38 = .ok (.aload_n 2, 1) := by decide +kernel
theorem dX1_moveAgain_39 : decode cX1_moveAgain 39 = .ok (.getfield 54, 3) := by decide +kernel
theorem dX1_moveAgain_42 : decode cX1_moveAgain 42 = .ok (.astore 6, 2) := by decide +kernel
theorem dX1_moveAgain_44 : decode cX1_moveAgain 44 = .ok (.aload 6, 2) := by decide +kernel
theorem dX1_moveAgain_46 : decode cX1_moveAgain 46 = .ok (.ifnull 78, 3) := by decide +kernel
theorem dX1_moveAgain_49 : decode cX1_moveAgain 49 = .ok (.aload 6, 2) := by decide +kernel
theorem dX1_moveAgain_51 : decode cX1_moveAgain 51 = .ok (.getfield 85, 3) := by decide +kernel
theorem dX1_moveAgain_54 : decode cX1_moveAgain 54 = .ok (.iload 4, 2) := by decide +kernel
theorem dX1_moveAgain_56 : decode cX1_moveAgain 56 = .ok (.if_icmp .ge 68, 3) := by decide +kernel
theorem dX1_moveAgain_59 : decode cX1_moveAgain 59 = .ok (.aload_n 0, 1) := by decide +kernel
theorem dX1_moveAgain_60 : decode cX1_moveAgain 60 = .ok (.aload 6, 2) := by decide +kernel
theorem dX1_moveAgain_62 : decode cX1_moveAgain 62 = .ok (.iload 4, 2) := by decide +kernel
theorem dX1_moveAgain_64 : decode cX1_moveAgain 64 = .ok (.invokevirtual 88, 3) := by decide +kernel
theorem dX1_moveAgain_67 : decode cX1_moveAgain 67 = .ok (.astore 7, 2) := by decide +kernel
theorem dX1_moveAgain_69 : decode cX1_moveAgain 69 = .ok (.iload 5, 2) := by decide +kernel
theorem dX1_moveAgain_71 : decode cX1_moveAgain 71 = .ok (.aload 6, 2) := by decide +kernel
theorem dX1_moveAgain_73 : decode cX1_moveAgain 73 = .ok (.getfield 92, 3) := by decide +kernel
theorem dX1_moveAgain_76 : decode cX1_moveAgain 76 = .ok (.iadd, 1) := by decide +kernel
theorem dX1_moveAgain_77 : decode cX1_moveAgain 77 = .ok (.istore 5, 2) := by decide +kernel
theorem dX1_moveAgain_79 : decode cX1_moveAgain 79 = .ok (.aload_n 3, 1) := by decide +kernel
theorem dX1_moveAgain_80 : decode cX1_moveAgain 80 = .ok (.ifnonnull 12, 3) := by decide +kernel
theorem dX1_moveAgain_83 : decode cX1_moveAgain 83 = .ok (.aload_n 0, 1) := by decide +kernel
theorem dX1_moveAgain_84 : decode cX1_moveAgain 84 = .ok (.aload 6, 2) := by decide +kernel
theorem dX1_moveAgain_86 : decode cX1_moveAgain 86 = .ok (.invokevirtual 61, 3) := by decide +kernel
theorem dX1_moveAgain_89 : decode cX1_moveAgain 89 = .ok (.goto 28, 3) := by decide +kernel
theorem dX1_moveAgain_92 : decode cX1_moveAgain 92 = .ok (.aload 6, 2) := by decide +kernel
theorem dX1_moveAgain_94 : decode cX1_moveAgain 94 = .ok (.dup, 1) := by decide +kernel
theorem dX1_moveAgain_95 : decode cX1_moveAgain 95 = .ok (.getfield 85, 3) := by decide +kernel
theorem dX1_moveAgain_98 : decode cX1_moveAgain 98 = .ok (.aload_n 3, 1) := by decide +kernel
theorem dX1_moveAgain_99 : decode cX1_moveAgain 99 = .ok (.getfield 68, 3) := by decide +kernel
theorem dX1_moveAgain_102 : decode cX1_moveAgain 102 = .ok (.aload_n 2, 1) := by decide +kernel
theorem dX1_moveAgain_103 : decode cX1_moveAgain 103 = .ok (.getfield 71, 3) := by decide +kernel
theorem dX1_moveAgain_106 : decode cX1_moveAgain 106 = .ok (.isub, 1) := by decide +kernel
theorem dX1_moveAgain_107 : decode cX1_moveAgain 107 = .ok (.iadd, 1) := by decide +kernel
theorem dX1_moveAgain_108 : decode cX1_moveAgain 108 = .ok (.putfield 85, 3) := by decide +kernel
theorem dX1_moveAgain_111 : decode cX1_moveAgain 111 = .ok (.aload_n 3, 1) := by decide +kernel
theorem dX1_moveAgain_112 : decode cX1_moveAgain 112 = .ok (.aload 6, 2) := by decide +kernel
theorem dX1_moveAgain_114 : decode cX1_moveAgain 114 = .ok (.invokevirtual 78, 3) := by decide +kernel
theorem dX1_moveAgain_117 : decode cX1_moveAgain 117 = .ok (.aload 7, 2) := by decide +kernel
theorem dX1_moveAgain_119 : decode cX1_moveAgain 119 = .ok (.astore 6, 2) := by decide +kernel
theorem dX1_moveAgain_121 : decode cX1_moveAgain 121 = .ok (.goto (-77), 3) := by decide +kernel
theorem dX1_moveAgain_124 : decode cX1_moveAgain 124 = .ok (.aload_n 2, 1) := by decide +kernel
theorem dX1_moveAgain_125 : decode cX1_moveAgain 125 = .ok (.aload 6, 2) := by decide +kernel
theorem dX1_moveAgain_127 : decode cX1_moveAgain 127 = .ok (.invokevirtual 65, 3) := by decide +kernel
theorem dX1_moveAgain_130 : decode cX1_moveAgain 130 = .ok (.aload_n 2, 1) := by decide +kernel
theorem dX1_moveAgain_131 : decode cX1_moveAgain 131 = .ok (.iload 4, 2) := by decide +kernel
theorem dX1_moveAgain_133 : decode cX1_moveAgain 133 = .ok (.putfield 71, 3) := by decide +kernel
theorem dX1_moveAgain_136 : decode cX1_moveAgain 136 = .ok (.aload_n 3, 1) := by decide +kernel
theorem dX1_moveAgain_137 : decode cX1_moveAgain 137 = .ok (.ifnull 16, 3) := by decide +kernel
theorem dX1_moveAgain_140 : decode cX1_moveAgain 140 = .ok (.aload_n 3, 1) := by decide +kernel
theorem dX1_moveAgain_141 : decode cX1_moveAgain 141 = .ok (.dup, 1) := by decide +kernel
theorem dX1_moveAgain_142 : decode cX1_moveAgain 142 = .ok (.getfield 68, 3) := by decide +kernel
theorem dX1_moveAgain_145 : decode cX1_moveAgain 145 = .ok (.aload_n 1, 1) := by decide +kernel
theorem dX1_moveAgain_146 : decode cX1_moveAgain 146 = .ok (.getfield 40, 3) := by decide +kernel
theorem dX1_moveAgain_149 : decode cX1_moveAgain 149 = .ok (.iadd, 1) := by decide +kernel
theorem dX1_moveAgain_150 : decode cX1_moveAgain 150 = .ok (.putfield 68, 3) := by decide +kernel
theorem dX1_moveAgain_153 : decode cX1_moveAgain 153 = .ok (.iload 5, 2) := by decide +kernel
theorem dX1_moveAgain_155 : decode cX1_moveAgain 155 = .ok (.ireturn, 1) := by decide +kernel
theorem dX1_cut_0 : decode cX1_cut 0 = .ok (.aload_n 1, 1) := by decide +kernel
theorem dX1_cut_1 : decode cX1_cut 1 = .ok (.getfield 85, 3) := by decide +kernel
theorem dX1_cut_4 : decode cX1_cut 4 = .ok (.aload_n 1, 1) := by decide +kernel
theorem dX1_cut_5 : decode cX1_cut 5 = .ok (.getfield 92, 3) := by decide +kernel
theorem dX1_cut_8 : decode cX1_cut 8 = .ok (.iadd, 1) := by decide +kernel
theorem dX1_cut_9 : decode cX1_cut 9 = .ok (.iload_n 2, 1) := by decide +kernel
theorem dX1_cut_10 : decode cX1_cut 10 = .ok (.isub, 1) := by decide +kernel
theorem dX1_cut_11 : decode cX1_cut 11 = .ok (.istore_n 3, 1) := by decide +kernel
theorem dX1_cut_12 : decode cX1_cut 12 = .ok (.iload_n 3, 1) := by decide +kernel
theorem dX1_cut_13 : decode cX1_cut 13 = .ok (.ifCond .gt 8, 3) := by decide +kernel
theorem dX1_cut_16 : decode cX1_cut 16 = .ok (.aload_n 1, 1) := by decide +kernel
theorem dX1_cut_17 : decode cX1_cut 17 = .ok (.getfield 57, 3) := by decide +kernel
theorem dX1_cut_20 : decode cX1_cut 20 = .ok (.areturn, 1) := by decide +kernel
theorem dX1_cut_21 : decode cX1_cut 21 = .ok (.aload_n 0, 1) := by decide +kernel
theorem dX1_cut_22 : decode cX1_cut 22 = .ok (.iload_n 2, 1) := by decide +kernel
theorem dX1_cut_23 : decode cX1_cut 23 = .ok (.iload_n 3, 1) := by decide +kernel
theorem dX1_cut_24 : decode cX1_cut 24 = .ok (.invokevirtual 74, 3) := by decide +kernel
theorem dX1_cut_27 : decode cX1_cut 27 = .ok (.astore 4, 2) := by decide +kernel
theorem dX1_cut_29 : decode cX1_cut 29 = .ok (.aload 4, 2) := by decide +kernel
theorem dX1_cut_31 : decode cX1_cut 31 = .ok (.aload_n 1, 1) := by decide +kernel
theorem dX1_cut_32 : decode cX1_cut 32 = .ok (.getfield 57, 3) := by decide +kernel
theorem dX1_cut_35 : decode cX1_cut 35 = .ok (.putfield 57, 3) := by decide +kernel
theorem dX1_cut_38 : decode cX1_cut 38 = .ok (.aload_n 1, 1) := by decide +kernel
theorem dX1_cut_39 : decode cX1_cut 39 = .ok (.dup, 1) := by decide +kernel
theorem dX1_cut_40 : decode cX1_cut 40 = .ok (.getfield 92, 3) := by decide +kernel
theorem dX1_cut_43 : decode cX1_cut 43 = .ok (.iload_n 3, 1) := by decide +kernel
theorem dX1_cut_44 : decode cX1_cut 44 = .ok (.isub, 1) := by decide +kernel
theorem dX1_cut_45 : decode cX1_cut 45 = .ok (.putfield 92, 3) := by decide +kernel
theorem dX1_cut_48 : decode cX1_cut 48 = .ok (.aload 4, 2) := by decide +kernel
theorem dX1_cut_50 : decode cX1_cut 50 = .ok (.areturn, 1) := by decide +kernel
theorem dX1_tankAt_0 : decode cX1_tankAt 0 = .ok (.iload_n 1, 1) := by decide +kernel
theorem dX1_tankAt_1 : decode cX1_tankAt 1 = .ok (.ifCond .lt 9, 3) := by decide +kernel
theorem dX1_tankAt_4 : decode cX1_tankAt 4 = .ok (.iload_n 1, 1) := by decide +kernel
theorem dX1_tankAt_5 : decode cX1_tankAt 5 = .ok (.bipush 10, 2) := by decide +kernel
theorem dX1_tankAt_7 : decode cX1_tankAt 7 = .ok (.if_icmp .lt 7, 3) := by decide +kernel
theorem dX1_tankAt_10 : decode cX1_tankAt 10 = .ok (.aconst_null, 1) := by decide +kernel
theorem dX1_tankAt_11 : decode cX1_tankAt 11 = .ok (.goto 9, 3) := by decide +kernel
theorem dX1_tankAt_14 : decode cX1_tankAt 14 = .ok (.aload_n 0, 1) := by decide +kernel
theorem dX1_tankAt_15 : decode cX1_tankAt 15 = .ok (.getfield 11, 3) := by decide +kernel
theorem dX1_tankAt_18 : decode cX1_tankAt 18 = .ok (.iload_n 1, 1) := by decide +kernel
theorem dX1_tankAt_19 : decode cX1_tankAt 19 = .ok (.aaload, 1) := by decide +kernel
theorem dX1_tankAt_20 : decode cX1_tankAt 20 = .ok (.areturn, 1) := by decide +kernel
theorem dX1_newPiece_0 : decode cX1_newPiece 0 = .ok (.aload_n 0, 1) := by decide +kernel
theorem dX1_newPiece_1 : decode cX1_newPiece 1 = .ok (.getfield 93, 3) := by decide +kernel
theorem dX1_newPiece_4 : decode cX1_newPiece 4 = .ok (.astore_n 3, 1) := by decide +kernel
theorem dX1_newPiece_5 : decode cX1_newPiece 5 = .ok (.aload_n 3, 1) := by decide +kernel
theorem dX1_newPiece_6 : decode cX1_newPiece 6 = .ok (.ifnonnull 14, 3) := by decide +kernel
theorem dX1_newPiece_9 : decode cX1_newPiece 9 = .ok (.new 58, 3) := by decide +kernel
theorem dX1_newPiece_12 : decode cX1_newPiece 12 = .ok (.dup, 1) := by decide +kernel
theorem dX1_newPiece_13 : decode cX1_newPiece 13 = .ok (.invokespecial 96, 3) := by decide +kernel
theorem dX1_newPiece_16 : decode cX1_newPiece 16 = .ok (.astore_n 3, 1) := by decide +kernel
theorem dX1_newPiece_17 : decode cX1_newPiece 17 = .ok (.goto 11, 3) := by decide +kernel
theorem dX1_newPiece_20 : decode cX1_newPiece 20 = .ok (.aload_n 0, 1) := by decide +kernel
theorem dX1_newPiece_21 : decode cX1_newPiece 21 = .ok (.aload_n 3, 1) := by decide +kernel
theorem dX1_newPiece_22 : decode cX1_newPiece 22 = .ok (.getfield 57, 3) := by decide +kernel
theorem dX1_newPiece_25 : decode cX1_newPiece 25 = .ok (.putfield 93, 3) := by decide +kernel
theorem dX1_newPiece_28 : decode cX1_newPiece 28 = .ok (.aload_n 3, 1) := by decide +kernel
theorem dX1_newPiece_29 : decode cX1_newPiece 29 = .ok (.iload_n 1, 1) := by decide +kernel
theorem dX1_newPiece_30 : decode cX1_newPiece 30 = .ok (.putfield 85, 3) := by decide +kernel
theorem dX1_newPiece_33 : decode cX1_newPiece 33 = .ok (.aload_n 3, 1) := by decide +kernel
theorem dX1_newPiece_34 : decode cX1_newPiece 34 = .ok (.iload_n 2, 1) := by decide +kernel
theorem dX1_newPiece_35 : decode cX1_newPiece 35 = .ok (.putfield 92, 3) := by decide +kernel
theorem dX1_newPiece_38 : decode cX1_newPiece 38 = .ok (.aload_n 3, 1) := by decide +kernel
theorem dX1_newPiece_39 : decode cX1_newPiece 39 = .ok (.areturn, 1) := by decide +kernel
theorem dX1_putAway_0 : decode cX1_putAway 0 = .ok (.aload_n 1, 1) := by decide +kernel
theorem dX1_putAway_1 : decode cX1_putAway 1 = .ok (.aload_n 0, 1) := by decide +kernel
theorem dX1_putAway_2 : decode cX1_putAway 2 = .ok (.getfield 93, 3) := by decide +kernel
theorem dX1_putAway_5 : decode cX1_putAway 5 = .ok (.putfield 57, 3) := by decide +kernel
theorem dX1_putAway_8 : decode cX1_putAway 8 = .ok (.aload_n 0, 1) := by decide +kernel
theorem dX1_putAway_9 : decode cX1_putAway 9 = .ok (.aload_n 1, 1) := by decide +kernel
theorem dX1_putAway_10 : decode cX1_putAway 10 = .ok (.putfield 93, 3) := by decide +kernel
theorem dX1_putAway_13 : decode cX1_putAway 13 = .ok (.return_, 1) := by decide +kernel
theorem dX2_init_0 : decode cX2_init 0 = .ok (.aload_n 0, 1) := by decide +kernel
theorem dX2_init_1 : decode cX2_init 1 = .ok (.invokespecial 3, 3) := by decide +kernel
theorem dX2_init_4 : decode cX2_init 4 = .ok (.aload_n 0, 1) := by decide +kernel
theorem dX2_init_5 : decode cX2_init 5 = .ok (.new 9, 3) := by decide +kernel
theorem dX2_init_8 : decode cX2_init 8 = .ok (.dup, 1) := by decide +kernel
theorem dX2_init_9 : decode cX2_init 9 = .ok (.invokespecial 11, 3) := by decide +kernel
theorem dX2_init_12 : decode cX2_init 12 = .ok (.putfield 12, 3) := by decide +kernel
theorem dX2_init_15 : decode cX2_init 15 = .ok (.aload_n 0, 1) := by decide +kernel
theorem dX2_init_16 : decode cX2_init 16 = .ok (.iconst (-1), 1) := by decide +kernel
theorem dX2_init_17 : decode cX2_init 17 = .ok (.putfield 18, 3) := by decide +kernel
theorem dX2_init_20 : decode cX2_init 20 = .ok (.aload_n 0, 1) := by decide +kernel
theorem dX2_init_21 : decode cX2_init 21 = .ok (.iload_n 1, 1) := by decide +kernel
theorem dX2_init_22 : decode cX2_init 22 = .ok (.putfield 22, 3) := by decide +kernel
theorem dX2_init_25 : decode cX2_init 25 = .ok (.aload_n 0, 1) := by decide +kernel
theorem dX2_init_26 : decode cX2_init 26 = .ok (.iload_n 2, 1) := by decide +kernel
theorem dX2_init_27 : decode cX2_init 27 = .ok (.putfield 25, 3) := by decide +kernel
theorem dX2_init_30 : decode cX2_init 30 = .ok (.aload_n 0, 1) := by decide +kernel
theorem dX2_init_31 : decode cX2_init 31 = .ok (.getfield 12, 3) := by decide +kernel
theorem dX2_init_34 : decode cX2_init 34 = .ok (.aload_n 3, 1) := by decide +kernel
theorem dX2_init_35 : decode cX2_init 35 = .ok (.invokevirtual 28, 3) := by decide +kernel
theorem dX2_init_38 : decode cX2_init 38 = .ok (.return_, 1) := by decide +kernel
theorem dX2_leastAge_0 : decode cX2_leastAge 0 = .ok (.aload_n 0, 1) := by decide +kernel
theorem dX2_leastAge_1 : decode cX2_leastAge 1 = .ok (.getfield 25, 3) := by decide +kernel
theorem dX2_leastAge_4 : decode cX2_leastAge 4 = .ok (.aload_n 0, 1) := by decide +kernel
theorem dX2_leastAge_5 : decode cX2_leastAge 5 = .ok (.getfield 12, 3) := by decide +kernel
theorem dX2_leastAge_8 : decode cX2_leastAge 8 = .ok (.invokevirtual 32, 3) := by decide +kernel
theorem dX2_leastAge_11 : decode cX2_leastAge 11 = .ok (.isub, 1) := by decide +kernel
theorem dX2_leastAge_12 : decode cX2_leastAge 12 = .ok (.ireturn, 1) := by decide +kernel
theorem dX2_greatestAge_0 : decode cX2_greatestAge 0 = .ok (.aload_n 0, 1) := by decide +kernel
theorem dX2_greatestAge_1 : decode cX2_greatestAge 1 = .ok (.getfield 25, 3) := by decide +kernel
theorem dX2_greatestAge_4 : decode cX2_greatestAge 4 = .ok (.aload_n 0, 1) := by decide +kernel
theorem dX2_greatestAge_5 : decode cX2_greatestAge 5 = .ok (.getfield 12, 3) := by decide +kernel
theorem dX2_greatestAge_8 : decode cX2_greatestAge 8 = .ok (.invokevirtual 36, 3) := by decide +kernel
theorem dX2_greatestAge_11 : decode cX2_greatestAge 11 = .ok (.isub, 1) := by decide +kernel
theorem dX2_greatestAge_12 : decode cX2_greatestAge 12 = .ok (.ireturn, 1) := by decide +kernel
theorem dX2_meanAge_0 : decode cX2_meanAge 0 = .ok (.aload_n 0, 1) := by decide +kernel
theorem dX2_meanAge_1 : decode cX2_meanAge 1 = .ok (.getfield 12, 3) := by decide +kernel
theorem dX2_meanAge_4 : decode cX2_meanAge 4 = .ok (.getfield 39, 3) := by decide +kernel
theorem dX2_meanAge_7 : decode cX2_meanAge 7 = .ok (.iconst 1, 1) := by decide +kernel
theorem dX2_meanAge_8 : decode cX2_meanAge 8 = .ok (.if_icmp .ge 5, 3) := by decide +kernel
theorem dX2_meanAge_11 : decode cX2_meanAge 11 = .ok (.fconst 0, 1) := by decide +kernel
theorem dX2_meanAge_12 : decode cX2_meanAge 12 = .ok (.freturn, 1) := by decide +kernel
theorem dX2_meanAge_13 : decode cX2_meanAge 13 = .ok (.aload_n 0, 1) := by decide +kernel
theorem dX2_meanAge_14 : decode cX2_meanAge 14 = .ok (.getfield 12, 3) := by decide +kernel
theorem dX2_meanAge_17 : decode cX2_meanAge 17 = .ok (.aload_n 0, 1) := by decide +kernel
theorem dX2_meanAge_18 : decode cX2_meanAge 18 = .ok (.getfield 25, 3) := by decide +kernel
theorem dX2_meanAge_21 : decode cX2_meanAge 21 = .ok (.invokevirtual 42, 3) := by decide +kernel
theorem dX2_meanAge_24 : decode cX2_meanAge 24 = .ok (.i2f, 1) := by decide +kernel
theorem dX2_meanAge_25 : decode cX2_meanAge 25 = .ok (.aload_n 0, 1) := by decide +kernel
theorem dX2_meanAge_26 : decode cX2_meanAge 26 = .ok (.getfield 12, 3) := by decide +kernel
theorem dX2_meanAge_29 : decode cX2_meanAge 29 = .ok (.getfield 39, 3) := by decide +kernel
theorem dX2_meanAge_32 : decode cX2_meanAge 32 = .ok (.i2f, 1) := by decide +kernel
theorem dX2_meanAge_33 : decode cX2_meanAge 33 = .ok (.fdiv, 1) := by decide +kernel
theorem dX2_meanAge_34 : decode cX2_meanAge 34 = .ok (.freturn, 1) := by decide +kernel
theorem dX2_truth_0 : decode cX2_truth 0 = .ok (.aload_n 0, 1) := by decide +kernel
theorem dX2_truth_1 : decode cX2_truth 1 = .ok (.getfield 18, 3) := by decide +kernel
theorem dX2_truth_4 : decode cX2_truth 4 = .ok (.iconst (-1), 1) := by decide +kernel
theorem dX2_truth_5 : decode cX2_truth 5 = .ok (.if_icmp .ne 5, 3) := by decide +kernel
theorem dX2_truth_8 : decode cX2_truth 8 = .ok (.iconst (-1), 1) := by decide +kernel
theorem dX2_truth_9 : decode cX2_truth 9 = .ok (.ireturn, 1) := by decide +kernel
theorem dX2_truth_10 : decode cX2_truth 10 = .ok (.aload_n 0, 1) := by decide +kernel
theorem dX2_truth_11 : decode cX2_truth 11 = .ok (.getfield 46, 3) := by decide +kernel
theorem dX2_truth_14 : decode cX2_truth 14 = .ok (.ifCond .eq 7, 3) := by decide +kernel
theorem dX2_truth_17 : decode cX2_truth 17 = .ok (.iconst 1, 1) := by decide +kernel
theorem dX2_truth_18 : decode cX2_truth 18 = .ok (.goto 4, 3) := by decide +kernel
theorem dX2_truth_21 : decode cX2_truth 21 = .ok (.iconst 0, 1) := by decide +kernel
theorem dX2_truth_22 : decode cX2_truth 22 = .ok (.ireturn, 1) := by decide +kernel
theorem dX2_isOfKind_0 : decode cX2_isOfKind 0 = .ok (.iload_n 1, 1) := by decide +kernel
theorem dX2_isOfKind_1 : decode cX2_isOfKind 1 = .ok (.lookupswitch 77 #[(0, 27), (1, 65)], 27) := by decide +kernel
theorem dX2_isOfKind_28 : decode cX2_isOfKind 28 = .ok (.aload_n 0, 1) := by decide +kernel
theorem dX2_isOfKind_29 : decode cX2_isOfKind 29 = .ok (.iconst 1, 1) := by decide +kernel
theorem dX2_isOfKind_30 : decode cX2_isOfKind 30 = .ok (.iload_n 2, 1) := by decide +kernel
theorem dX2_isOfKind_31 : decode cX2_isOfKind 31 = .ok (.iconst (-1), 1) := by decide +kernel
theorem dX2_isOfKind_32 : decode cX2_isOfKind 32 = .ok (.ixor, 1) := by decide +kernel
theorem dX2_isOfKind_33 : decode cX2_isOfKind 33 = .ok (.iand, 1) := by decide +kernel
theorem dX2_isOfKind_34 : decode cX2_isOfKind 34 = .ok (.iconst 5, 1) := by decide +kernel
theorem dX2_isOfKind_35 : decode cX2_isOfKind 35 = .ok (.invokevirtual 50, 3) := by decide +kernel
theorem dX2_isOfKind_38 : decode cX2_isOfKind 38 = .ok (.ifCond .eq 26, 3) := by decide +kernel
theorem dX2_isOfKind_41 : decode cX2_isOfKind 41 = .ok (.aload_n 0, 1) := by decide +kernel
theorem dX2_isOfKind_42 : decode cX2_isOfKind 42 = .ok (.getfield 12, 3) := by decide +kernel
theorem dX2_isOfKind_45 : decode cX2_isOfKind 45 = .ok (.invokevirtual 54, 3) := by decide +kernel
theorem dX2_isOfKind_48 : decode cX2_isOfKind 48 = .ok (.ifCond .ne 16, 3) := by decide +kernel
theorem dX2_isOfKind_51 : decode cX2_isOfKind 51 = .ok (.aload_n 0, 1) := by decide +kernel
theorem dX2_isOfKind_52 : decode cX2_isOfKind 52 = .ok (.invokevirtual 57, 3) := by decide +kernel
theorem dX2_isOfKind_55 : decode cX2_isOfKind 55 = .ok (.bipush 10, 2) := by decide +kernel
theorem dX2_isOfKind_57 : decode cX2_isOfKind 57 = .ok (.if_icmp .lt 7, 3) := by decide +kernel
theorem dX2_isOfKind_60 : decode cX2_isOfKind 60 = .ok (.iconst 1, 1) := by decide +kernel
theorem dX2_isOfKind_61 : decode cX2_isOfKind 61 = .ok (.goto 4, 3) := by decide +kernel
theorem dX2_isOfKind_64 : decode cX2_isOfKind 64 = .ok (.iconst 0, 1) := by decide +kernel
theorem dX2_isOfKind_65 : decode cX2_isOfKind 65 = .ok (.ireturn, 1) := by decide +kernel
theorem dX2_isOfKind_66 : decode cX2_isOfKind 66 = .ok (.aload_n 0, 1) := by decide +kernel
theorem dX2_isOfKind_67 : decode cX2_isOfKind 67 = .ok (.iconst 3, 1) := by decide +kernel
theorem dX2_isOfKind_68 : decode cX2_isOfKind 68 = .ok (.iload_n 2, 1) := by decide +kernel
theorem dX2_isOfKind_69 : decode cX2_isOfKind 69 = .ok (.iconst (-1), 1) := by decide +kernel
theorem dX2_isOfKind_70 : decode cX2_isOfKind 70 = .ok (.ixor, 1) := by decide +kernel
theorem dX2_isOfKind_71 : decode cX2_isOfKind 71 = .ok (.iand, 1) := by decide +kernel
theorem dX2_isOfKind_72 : decode cX2_isOfKind 72 = .ok (.bipush 8, 2) := by decide +kernel
theorem dX2_isOfKind_74 : decode cX2_isOfKind 74 = .ok (.invokevirtual 50, 3) := by decide +kernel
theorem dX2_isOfKind_77 : decode cX2_isOfKind 77 = .ok (.ireturn, 1) := by decide +kernel
theorem dX2_isOfKind_78 : decode cX2_isOfKind 78 = .ok (.iconst 1, 1) := by decide +kernel
theorem dX2_isOfKind_79 : decode cX2_isOfKind 79 = .ok (.ireturn, 1) := by decide +kernel
theorem dX2_hasAtMost_0 : decode cX2_hasAtMost 0 = .ok (.aload_n 0, 1) := by decide +kernel
theorem dX2_hasAtMost_1 : decode cX2_hasAtMost 1 = .ok (.getfield 60, 3) := by decide +kernel
theorem dX2_hasAtMost_4 : decode cX2_hasAtMost 4 = .ok (.iload_n 1, 1) := by decide +kernel
theorem dX2_hasAtMost_5 : decode cX2_hasAtMost 5 = .ok (.iconst (-1), 1) := by decide +kernel
theorem dX2_hasAtMost_6 : decode cX2_hasAtMost 6 = .ok (.ixor, 1) := by decide +kernel
theorem dX2_hasAtMost_7 : decode cX2_hasAtMost 7 = .ok (.iand, 1) := by decide +kernel
theorem dX2_hasAtMost_8 : decode cX2_hasAtMost 8 = .ok (.ifCond .ne 26, 3) := by decide +kernel
theorem dX2_hasAtMost_11 : decode cX2_hasAtMost 11 = .ok (.aload_n 0, 1) := by decide +kernel
theorem dX2_hasAtMost_12 : decode cX2_hasAtMost 12 = .ok (.getfield 12, 3) := by decide +kernel
theorem dX2_hasAtMost_15 : decode cX2_hasAtMost 15 = .ok (.invokevirtual 63, 3) := by decide +kernel
theorem dX2_hasAtMost_18 : decode cX2_hasAtMost 18 = .ok (.iload_n 2, 1) := by decide +kernel
theorem dX2_hasAtMost_19 : decode cX2_hasAtMost 19 = .ok (.aload_n 0, 1) := by decide +kernel
theorem dX2_hasAtMost_20 : decode cX2_hasAtMost 20 = .ok (.getfield 12, 3) := by decide +kernel
theorem dX2_hasAtMost_23 : decode cX2_hasAtMost 23 = .ok (.getfield 39, 3) := by decide +kernel
theorem dX2_hasAtMost_26 : decode cX2_hasAtMost 26 = .ok (.imul, 1) := by decide +kernel
theorem dX2_hasAtMost_27 : decode cX2_hasAtMost 27 = .ok (.if_icmp .gt 7, 3) := by decide +kernel
theorem dX2_hasAtMost_30 : decode cX2_hasAtMost 30 = .ok (.iconst 1, 1) := by decide +kernel
theorem dX2_hasAtMost_31 : decode cX2_hasAtMost 31 = .ok (.goto 4, 3) := by decide +kernel
theorem dX2_hasAtMost_34 : decode cX2_hasAtMost 34 = .ok (.iconst 0, 1) := by decide +kernel
theorem dX2_hasAtMost_35 : decode cX2_hasAtMost 35 = .ok (.ireturn, 1) := by decide +kernel
theorem dX2_isRecalledBy_0 : decode cX2_isRecalledBy 0 = .ok (.aload_n 0, 1) := by decide +kernel
theorem dX2_isRecalledBy_1 : decode cX2_isRecalledBy 1 = .ok (.getfield 18, 3) := by decide +kernel
theorem dX2_isRecalledBy_4 : decode cX2_isRecalledBy 4 = .ok (.ifCond .eq 11, 3) := by decide +kernel
theorem dX2_isRecalledBy_7 : decode cX2_isRecalledBy 7 = .ok (.aload_n 0, 1) := by decide +kernel
theorem dX2_isRecalledBy_8 : decode cX2_isRecalledBy 8 = .ok (.getfield 18, 3) := by decide +kernel
theorem dX2_isRecalledBy_11 : decode cX2_isRecalledBy 11 = .ok (.iconst 1, 1) := by decide +kernel
theorem dX2_isRecalledBy_12 : decode cX2_isRecalledBy 12 = .ok (.if_icmp .ne 7, 3) := by decide +kernel
theorem dX2_isRecalledBy_15 : decode cX2_isRecalledBy 15 = .ok (.iconst 1, 1) := by decide +kernel
theorem dX2_isRecalledBy_16 : decode cX2_isRecalledBy 16 = .ok (.goto 4, 3) := by decide +kernel
theorem dX2_isRecalledBy_19 : decode cX2_isRecalledBy 19 = .ok (.iconst 0, 1) := by decide +kernel
theorem dX2_isRecalledBy_20 : decode cX2_isRecalledBy 20 = .ok (.istore_n 2, 1) := by decide +kernel
theorem dX2_isRecalledBy_21 : decode cX2_isRecalledBy 21 = .ok (.iload_n 2, 1) := by decide +kernel
theorem dX2_isRecalledBy_22 : decode cX2_isRecalledBy 22 = .ok (.ifCond .eq 23, 3) := by decide +kernel
theorem dX2_isRecalledBy_25 : decode cX2_isRecalledBy 25 = .ok (.aload_n 0, 1) := by decide +kernel
theorem dX2_isRecalledBy_26 : decode cX2_isRecalledBy 26 = .ok (.getfield 66, 3) := by decide +kernel
theorem dX2_isRecalledBy_29 : decode cX2_isRecalledBy 29 = .ok (.ifCond .ne 16, 3) := by decide +kernel
theorem dX2_isRecalledBy_32 : decode cX2_isRecalledBy 32 = .ok (.aload_n 0, 1) := by decide +kernel
theorem dX2_isRecalledBy_33 : decode cX2_isRecalledBy 33 = .ok (.getfield 60, 3) := by decide +kernel
theorem dX2_isRecalledBy_36 : decode cX2_isRecalledBy 36 = .ok (.iload_n 1, 1) := by decide +kernel
theorem dX2_isRecalledBy_37 : decode cX2_isRecalledBy 37 = .ok (.iand, 1) := by decide +kernel
theorem dX2_isRecalledBy_38 : decode cX2_isRecalledBy 38 = .ok (.ifCond .eq 7, 3) := by decide +kernel
theorem dX2_isRecalledBy_41 : decode cX2_isRecalledBy 41 = .ok (.iconst 1, 1) := by decide +kernel
theorem dX2_isRecalledBy_42 : decode cX2_isRecalledBy 42 = .ok (.goto 4, 3) := by decide +kernel
theorem dX2_isRecalledBy_45 : decode cX2_isRecalledBy 45 = .ok (.iconst 0, 1) := by decide +kernel
theorem dX2_isRecalledBy_46 : decode cX2_isRecalledBy 46 = .ok (.ireturn, 1) := by decide +kernel
theorem dX3_init_0 : decode cX3_init 0 = .ok (.aload_n 0, 1) := by decide +kernel
theorem dX3_init_1 : decode cX3_init 1 = .ok (.invokespecial 1, 3) := by decide +kernel
theorem dX3_init_4 : decode cX3_init 4 = .ok (.aload_n 0, 1) := by decide +kernel
theorem dX3_init_5 : decode cX3_init 5 = .ok (.iload_n 1, 1) := by decide +kernel
theorem dX3_init_6 : decode cX3_init 6 = .ok (.putfield 7, 3) := by decide +kernel
theorem dX3_init_9 : decode cX3_init 9 = .ok (.aload_n 0, 1) := by decide +kernel
theorem dX3_init_10 : decode cX3_init 10 = .ok (.iload_n 2, 1) := by decide +kernel
theorem dX3_init_11 : decode cX3_init 11 = .ok (.putfield 13, 3) := by decide +kernel
theorem dX3_init_14 : decode cX3_init 14 = .ok (.aload_n 0, 1) := by decide +kernel
theorem dX3_init_15 : decode cX3_init 15 = .ok (.iload_n 3, 1) := by decide +kernel
theorem dX3_init_16 : decode cX3_init 16 = .ok (.putfield 16, 3) := by decide +kernel
theorem dX3_init_19 : decode cX3_init 19 = .ok (.return_, 1) := by decide +kernel
theorem dX4_init_0 : decode cX4_init 0 = .ok (.aload_n 0, 1) := by decide +kernel
theorem dX4_init_1 : decode cX4_init 1 = .ok (.invokespecial 1, 3) := by decide +kernel
theorem dX4_init_4 : decode cX4_init 4 = .ok (.return_, 1) := by decide +kernel
theorem dX5_init_0 : decode cX5_init 0 = .ok (.aload_n 0, 1) := by decide +kernel
theorem dX5_init_1 : decode cX5_init 1 = .ok (.invokespecial 1, 3) := by decide +kernel
theorem dX5_init_4 : decode cX5_init 4 = .ok (.aload_n 0, 1) := by decide +kernel
theorem dX5_init_5 : decode cX5_init 5 = .ok (.iload_n 1, 1) := by decide +kernel
theorem dX5_init_6 : decode cX5_init 6 = .ok (.putfield 7, 3) := by decide +kernel
theorem dX5_init_9 : decode cX5_init 9 = .ok (.aload_n 0, 1) := by decide +kernel
theorem dX5_init_10 : decode cX5_init 10 = .ok (.iload_n 2, 1) := by decide +kernel
theorem dX5_init_11 : decode cX5_init 11 = .ok (.putfield 13, 3) := by decide +kernel
theorem dX5_init_14 : decode cX5_init 14 = .ok (.aload_n 0, 1) := by decide +kernel
theorem dX5_init_15 : decode cX5_init 15 = .ok (.iload_n 3, 1) := by decide +kernel
theorem dX5_init_16 : decode cX5_init 16 = .ok (.putfield 16, 3) := by decide +kernel
theorem dX5_init_19 : decode cX5_init 19 = .ok (.aload_n 0, 1) := by decide +kernel
theorem dX5_init_20 : decode cX5_init 20 = .ok (.iload 4, 2) := by decide +kernel
theorem dX5_init_22 : decode cX5_init 22 = .ok (.putfield 19, 3) := by decide +kernel
theorem dX5_init_25 : decode cX5_init 25 = .ok (.aload_n 0, 1) := by decide +kernel
theorem dX5_init_26 : decode cX5_init 26 = .ok (.iload 5, 2) := by decide +kernel
theorem dX5_init_28 : decode cX5_init 28 = .ok (.putfield 22, 3) := by decide +kernel
theorem dX5_init_31 : decode cX5_init 31 = .ok (.return_, 1) := by decide +kernel
theorem dX5_splitOff_0 : decode cX5_splitOff 0 = .ok (.aload_n 0, 1) := by decide +kernel
theorem dX5_splitOff_1 : decode cX5_splitOff 1 = .ok (.dup, 1) := by decide +kernel
theorem dX5_splitOff_2 : decode cX5_splitOff 2 = .ok (.getfield 22, 3) := by decide +kernel
theorem dX5_splitOff_5 : decode cX5_splitOff 5 = .ok (.iload_n 1, 1) := by decide +kernel
theorem dX5_splitOff_6 : decode cX5_splitOff 6 = .ok (.isub, 1) := by decide +kernel
theorem dX5_splitOff_7 : decode cX5_splitOff 7 = .ok (.putfield 22, 3) := by decide +kernel
theorem dX5_splitOff_10 : decode cX5_splitOff 10 = .ok (.new 8, 3) := by decide +kernel
theorem dX5_splitOff_13 : decode cX5_splitOff 13 = .ok (.dup, 1) := by decide +kernel
theorem dX5_splitOff_14 : decode cX5_splitOff 14 = .ok (.aload_n 0, 1) := by decide +kernel
theorem dX5_splitOff_15 : decode cX5_splitOff 15 = .ok (.getfield 7, 3) := by decide +kernel
theorem dX5_splitOff_18 : decode cX5_splitOff 18 = .ok (.aload_n 0, 1) := by decide +kernel
theorem dX5_splitOff_19 : decode cX5_splitOff 19 = .ok (.getfield 13, 3) := by decide +kernel
theorem dX5_splitOff_22 : decode cX5_splitOff 22 = .ok (.aload_n 0, 1) := by decide +kernel
theorem dX5_splitOff_23 : decode cX5_splitOff 23 = .ok (.getfield 16, 3) := by decide +kernel
theorem dX5_splitOff_26 : decode cX5_splitOff 26 = .ok (.aload_n 0, 1) := by decide +kernel
theorem dX5_splitOff_27 : decode cX5_splitOff 27 = .ok (.getfield 19, 3) := by decide +kernel
theorem dX5_splitOff_30 : decode cX5_splitOff 30 = .ok (.iload_n 1, 1) := by decide +kernel
theorem dX5_splitOff_31 : decode cX5_splitOff 31 = .ok (.invokespecial 25, 3) := by decide +kernel
theorem dX5_splitOff_34 : decode cX5_splitOff 34 = .ok (.areturn, 1) := by decide +kernel
theorem dX6_init_0 : decode cX6_init 0 = .ok (.aload_n 0, 1) := by decide +kernel
theorem dX6_init_1 : decode cX6_init 1 = .ok (.invokespecial 3, 3) := by decide +kernel
theorem dX6_init_4 : decode cX6_init 4 = .ok (.return_, 1) := by decide +kernel
theorem dX6_clear_0 : decode cX6_clear 0 = .ok (.aload_n 0, 1) := by decide +kernel
theorem dX6_clear_1 : decode cX6_clear 1 = .ok (.iconst 0, 1) := by decide +kernel
theorem dX6_clear_2 : decode cX6_clear 2 = .ok (.putfield 9, 3) := by decide +kernel
theorem dX6_clear_5 : decode cX6_clear 5 = .ok (.aload_n 0, 1) := by decide +kernel
theorem dX6_clear_6 : decode cX6_clear 6 = .ok (.aconst_null, 1) := by decide +kernel
theorem dX6_clear_7 : decode cX6_clear 7 = .ok (.putfield 15, 3) := by decide +kernel
theorem dX6_clear_10 : decode cX6_clear 10 = .ok (.aload_n 0, 1) := by decide +kernel
theorem dX6_clear_11 : decode cX6_clear 11 = .ok (.aconst_null, 1) := by decide +kernel
theorem dX6_clear_12 : decode cX6_clear 12 = .ok (.putfield 19, 3) := by decide +kernel
theorem dX6_clear_15 : decode cX6_clear 15 = .ok (.return_, 1) := by decide +kernel
theorem dX6_append_0 : decode cX6_append 0 = .ok (.aload_n 1, 1) := by decide +kernel
theorem dX6_append_1 : decode cX6_append 1 = .ok (.ifnonnull 4, 3) := by decide +kernel
theorem dX6_append_4 : decode cX6_append 4 = .ok (.return_, 1) := by decide +kernel
theorem dX6_append_5 : decode cX6_append 5 = .ok (.aload_n 0, 1) := by decide +kernel
theorem dX6_append_6 : decode cX6_append 6 = .ok (.getfield 19, 3) := by decide +kernel
theorem dX6_append_9 : decode cX6_append 9 = .ok (.ifnonnull 11, 3) := by decide +kernel
theorem dX6_append_12 : decode cX6_append 12 = .ok (.aload_n 0, 1) := by decide +kernel
theorem dX6_append_13 : decode cX6_append 13 = .ok (.aload_n 1, 1) := by decide +kernel
theorem dX6_append_14 : decode cX6_append 14 = .ok (.putfield 15, 3) := by decide +kernel
theorem dX6_append_17 : decode cX6_append 17 = .ok (.goto 11, 3) := by decide +kernel
theorem dX6_append_20 : decode cX6_append 20 = .ok (.aload_n 0, 1) := by decide +kernel
theorem dX6_append_21 : decode cX6_append 21 = .ok (.getfield 19, 3) := by decide +kernel
theorem dX6_append_24 : decode cX6_append 24 = .ok (.aload_n 1, 1) := by decide +kernel
theorem dX6_append_25 : decode cX6_append 25 = .ok (.putfield 22, 3) := by decide +kernel
theorem dX6_append_28 : decode cX6_append 28 = .ok (.aload_n 1, 1) := by decide +kernel
theorem dX6_append_29 : decode cX6_append 29 = .ok (.astore_n 2, 1) := by decide +kernel
theorem dX6_append_30 : decode cX6_append 30 = .ok (.aload_n 2, 1) := by decide +kernel
theorem dX6_append_31 : decode cX6_append 31 = .ok (.ifnull 29, 3) := by decide +kernel
theorem dX6_append_34 : decode cX6_append 34 = .ok (.aload_n 0, 1) := by decide +kernel
theorem dX6_append_35 : decode cX6_append 35 = .ok (.dup, 1) := by decide +kernel
theorem dX6_append_36 : decode cX6_append 36 = .ok (.getfield 9, 3) := by decide +kernel
theorem dX6_append_39 : decode cX6_append 39 = .ok (.aload_n 2, 1) := by decide +kernel
theorem dX6_append_40 : decode cX6_append 40 = .ok (.getfield 27, 3) := by decide +kernel
theorem dX6_append_43 : decode cX6_append 43 = .ok (.iadd, 1) := by decide +kernel
theorem dX6_append_44 : decode cX6_append 44 = .ok (.putfield 9, 3) := by decide +kernel
theorem dX6_append_47 : decode cX6_append 47 = .ok (.aload_n 0, 1) := by decide +kernel
theorem dX6_append_48 : decode cX6_append 48 = .ok (.aload_n 2, 1) := by decide +kernel
theorem dX6_append_49 : decode cX6_append 49 = .ok (.putfield 19, 3) := by decide +kernel
theorem dX6_append_52 : decode cX6_append 52 = .ok (.aload_n 2, 1) := by decide +kernel
theorem dX6_append_53 : decode cX6_append 53 = .ok (.getfield 22, 3) := by decide +kernel
theorem dX6_append_56 : decode cX6_append 56 = .ok (.astore_n 2, 1) := by decide +kernel
theorem dX6_append_57 : decode cX6_append 57 = .ok (.goto (-27), 3) := by decide +kernel
theorem dX6_append_60 : decode cX6_append 60 = .ok (.return_, 1) := by decide +kernel
theorem dX6_take_0 : decode cX6_take 0 = .ok (.aload_n 0, 1) := by decide +kernel
theorem dX6_take_1 : decode cX6_take 1 = .ok (.getfield 15, 3) := by decide +kernel
theorem dX6_take_4 : decode cX6_take 4 = .ok (.astore_n 2, 1) := by decide +kernel
theorem dX6_take_5 : decode cX6_take 5 = .ok (.aconst_null, 1) := by decide +kernel
theorem dX6_take_6 : decode cX6_take 6 = .ok (.astore_n 3, 1) := by decide +kernel
theorem dX6_take_7 : decode cX6_take 7 = .ok (.aload_n 0, 1) := by decide +kernel
theorem dX6_take_8 : decode cX6_take 8 = .ok (.getfield 15, 3) := by decide +kernel
theorem dX6_take_11 : decode cX6_take 11 = .ok (.astore 4, 2) := by decide +kernel
theorem dX6_take_13 : decode cX6_take 13 = .ok (.iload_n 1, 1) := by decide +kernel
theorem dX6_take_14 : decode cX6_take 14 = .ok (.istore 5, 2) := by decide +kernel
theorem dX6_take_16 : decode cX6_take 16 = .ok (.aload 4, 2) := by decide +kernel
theorem dX6_take_18 : decode cX6_take 18 = .ok (.ifnull 36, 3) := by decide +kernel
theorem dX6_take_21 : decode cX6_take 21 = .ok (.aload 4, 2) := by decide +kernel
theorem dX6_take_23 : decode cX6_take 23 = .ok (.getfield 27, 3) := by decide +kernel
theorem dX6_take_26 : decode cX6_take 26 = .ok (.iload 5, 2) := by decide +kernel
theorem dX6_take_28 : decode cX6_take 28 = .ok (.if_icmp .gt 26, 3) := by decide +kernel
theorem dX6_take_31 : decode cX6_take 31 = .ok (.iload 5, 2) := by decide +kernel
theorem dX6_take_33 : decode cX6_take 33 = .ok (.aload 4, 2) := by decide +kernel
theorem dX6_take_35 : decode cX6_take 35 = .ok (.getfield 27, 3) := by decide +kernel
theorem dX6_take_38 : decode cX6_take 38 = .ok (.isub, 1) := by decide +kernel
theorem dX6_take_39 : decode cX6_take 39 = .ok (.istore 5, 2) := by decide +kernel
theorem dX6_take_41 : decode cX6_take 41 = .ok (.aload 4, 2) := by decide +kernel
theorem dX6_take_43 : decode cX6_take 43 = .ok (.astore_n 3, 1) := by decide +kernel
theorem dX6_take_44 : decode cX6_take 44 = .ok (.aload 4, 2) := by decide +kernel
theorem dX6_take_46 : decode cX6_take 46 = .ok (.getfield 22, 3) := by decide +kernel
theorem dX6_take_49 : decode cX6_take 49 = .ok (.astore 4, 2) := by decide +kernel
theorem dX6_take_51 : decode cX6_take 51 = .ok (.goto (-35), 3) := by decide +kernel
theorem dX6_take_54 : decode cX6_take 54 = .ok (.aload 4, 2) := by decide +kernel
theorem dX6_take_56 : decode cX6_take 56 = .ok (.ifnull 39, 3) := by decide +kernel
theorem dX6_take_59 : decode cX6_take 59 = .ok (.iload 5, 2) := by decide +kernel
theorem dX6_take_61 : decode cX6_take 61 = .ok (.ifCond .le 34, 3) := by decide +kernel
theorem dX6_take_64 : decode cX6_take 64 = .ok (.aload 4, 2) := by decide +kernel
theorem dX6_take_66 : decode cX6_take 66 = .ok (.iload 5, 2) := by decide +kernel
theorem dX6_take_68 : decode cX6_take 68 = .ok (.invokevirtual 28, 3) := by decide +kernel
theorem dX6_take_71 : decode cX6_take 71 = .ok (.astore 6, 2) := by decide +kernel
theorem dX6_take_73 : decode cX6_take 73 = .ok (.iconst 0, 1) := by decide +kernel
theorem dX6_take_74 : decode cX6_take 74 = .ok (.istore 5, 2) := by decide +kernel
theorem dX6_take_76 : decode cX6_take 76 = .ok (.aload_n 3, 1) := by decide +kernel
theorem dX6_take_77 : decode cX6_take 77 = .ok (.ifnonnull 9, 3) := by decide +kernel
theorem dX6_take_80 : decode cX6_take 80 = .ok (.aload 6, 2) := by decide +kernel
theorem dX6_take_82 : decode cX6_take 82 = .ok (.astore_n 2, 1) := by decide +kernel
theorem dX6_take_83 : decode cX6_take 83 = .ok (.goto 9, 3) := by decide +kernel
theorem dX6_take_86 : decode cX6_take 86 = .ok (.aload_n 3, 1) := by decide +kernel
theorem dX6_take_87 : decode cX6_take 87 = .ok (.aload 6, 2) := by decide +kernel
theorem dX6_take_89 : decode cX6_take 89 = .ok (.putfield 22, 3) := by decide +kernel
theorem dX6_take_92 : decode cX6_take 92 = .ok (.aload 6, 2) := by decide +kernel
theorem dX6_take_94 : decode cX6_take 94 = .ok (.astore_n 3, 1) := by decide +kernel
theorem dX6_take_95 : decode cX6_take 95 = .ok (.aload_n 3, 1) := by decide +kernel
theorem dX6_take_96 : decode cX6_take 96 = .ok (.ifnonnull 5, 3) := by decide +kernel
theorem dX6_take_99 : decode cX6_take 99 = .ok (.aconst_null, 1) := by decide +kernel
theorem dX6_take_100 : decode cX6_take 100 = .ok (.areturn, 1) := by decide +kernel
theorem dX6_take_101 : decode cX6_take 101 = .ok (.aload_n 3, 1) := by decide +kernel
theorem dX6_take_102 : decode cX6_take 102 = .ok (.aconst_null, 1) := by decide +kernel
theorem dX6_take_103 : decode cX6_take 103 = .ok (.putfield 22, 3) := by decide +kernel
theorem dX6_take_106 : decode cX6_take 106 = .ok (.aload_n 0, 1) := by decide +kernel
theorem dX6_take_107 : decode cX6_take 107 = .ok (.dup, 1) := by decide +kernel
theorem dX6_take_108 : decode cX6_take 108 = .ok (.getfield 9, 3) := by decide +kernel
theorem dX6_take_111 : decode cX6_take 111 = .ok (.iload_n 1, 1) := by decide +kernel
theorem dX6_take_112 : decode cX6_take 112 = .ok (.iload 5, 2) := by decide +kernel
theorem dX6_take_114 : decode cX6_take 114 = .ok (.isub, 1) := by decide +kernel
theorem dX6_take_115 : decode cX6_take 115 = .ok (.isub, 1) := by decide +kernel
theorem dX6_take_116 : decode cX6_take 116 = .ok (.putfield 9, 3) := by decide +kernel
theorem dX6_take_119 : decode cX6_take 119 = .ok (.aload_n 0, 1) := by decide +kernel
theorem dX6_take_120 : decode cX6_take 120 = .ok (.aload 4, 2) := by decide +kernel
theorem dX6_take_122 : decode cX6_take 122 = .ok (.putfield 15, 3) := by decide +kernel
theorem dX6_take_125 : decode cX6_take 125 = .ok (.aload_n 0, 1) := by decide +kernel
theorem dX6_take_126 : decode cX6_take 126 = .ok (.aload 4, 2) := by decide +kernel
theorem dX6_take_128 : decode cX6_take 128 = .ok (.ifnonnull 7, 3) := by decide +kernel
theorem dX6_take_131 : decode cX6_take 131 = .ok (.aconst_null, 1) := by decide +kernel
theorem dX6_take_132 : decode cX6_take 132 = .ok (.goto 7, 3) := by decide +kernel
theorem dX6_take_135 : decode cX6_take 135 = .ok (.aload_n 0, 1) := by decide +kernel
theorem dX6_take_136 : decode cX6_take 136 = .ok (.getfield 19, 3) := by decide +kernel
theorem dX6_take_139 : decode cX6_take 139 = .ok (.putfield 19, 3) := by decide +kernel
theorem dX6_take_142 : decode cX6_take 142 = .ok (.aload_n 2, 1) := by decide +kernel
theorem dX6_take_143 : decode cX6_take 143 = .ok (.areturn, 1) := by decide +kernel
theorem dX6_frontYear_0 : decode cX6_frontYear 0 = .ok (.aload_n 0, 1) := by decide +kernel
theorem dX6_frontYear_1 : decode cX6_frontYear 1 = .ok (.getfield 15, 3) := by decide +kernel
theorem dX6_frontYear_4 : decode cX6_frontYear 4 = .ok (.ifnonnull 7, 3) := by decide +kernel
theorem dX6_frontYear_7 : decode cX6_frontYear 7 = .ok (.iconst (-1), 1) := by decide +kernel
theorem dX6_frontYear_8 : decode cX6_frontYear 8 = .ok (.goto 10, 3) := by decide +kernel
theorem dX6_frontYear_11 : decode cX6_frontYear 11 = .ok (.aload_n 0, 1) := by decide +kernel
theorem dX6_frontYear_12 : decode cX6_frontYear 12 = .ok (.getfield 15, 3) := by decide +kernel
theorem dX6_frontYear_15 : decode cX6_frontYear 15 = .ok (.getfield 32, 3) := by decide +kernel
theorem dX6_frontYear_18 : decode cX6_frontYear 18 = .ok (.ireturn, 1) := by decide +kernel
theorem dX6_nitrate_0 : decode cX6_nitrate 0 = .ok (.iconst 0, 1) := by decide +kernel
theorem dX6_nitrate_1 : decode cX6_nitrate 1 = .ok (.istore_n 1, 1) := by decide +kernel
theorem dX6_nitrate_2 : decode cX6_nitrate 2 = .ok (.aload_n 0, 1) := by decide +kernel
theorem dX6_nitrate_3 : decode cX6_nitrate 3 = .ok (.getfield 15, 3) := by decide +kernel
theorem dX6_nitrate_6 : decode cX6_nitrate 6 = .ok (.astore_n 2, 1) := by decide +kernel
theorem dX6_nitrate_7 : decode cX6_nitrate 7 = .ok (.aload_n 2, 1) := by decide +kernel
theorem dX6_nitrate_8 : decode cX6_nitrate 8 = .ok (.ifnull 23, 3) := by decide +kernel
theorem dX6_nitrate_11 : decode cX6_nitrate 11 = .ok (.iload_n 1, 1) := by decide +kernel
theorem dX6_nitrate_12 : decode cX6_nitrate 12 = .ok (.aload_n 2, 1) := by decide +kernel
theorem dX6_nitrate_13 : decode cX6_nitrate 13 = .ok (.getfield 27, 3) := by decide +kernel
theorem dX6_nitrate_16 : decode cX6_nitrate 16 = .ok (.aload_n 2, 1) := by decide +kernel
theorem dX6_nitrate_17 : decode cX6_nitrate 17 = .ok (.getfield 35, 3) := by decide +kernel
theorem dX6_nitrate_20 : decode cX6_nitrate 20 = .ok (.imul, 1) := by decide +kernel
theorem dX6_nitrate_21 : decode cX6_nitrate 21 = .ok (.iadd, 1) := by decide +kernel
theorem dX6_nitrate_22 : decode cX6_nitrate 22 = .ok (.istore_n 1, 1) := by decide +kernel
theorem dX6_nitrate_23 : decode cX6_nitrate 23 = .ok (.aload_n 2, 1) := by decide +kernel
theorem dX6_nitrate_24 : decode cX6_nitrate 24 = .ok (.getfield 22, 3) := by decide +kernel
theorem dX6_nitrate_27 : decode cX6_nitrate 27 = .ok (.astore_n 2, 1) := by decide +kernel
theorem dX6_nitrate_28 : decode cX6_nitrate 28 = .ok (.goto (-21), 3) := by decide +kernel
theorem dX6_nitrate_31 : decode cX6_nitrate 31 = .ok (.iload_n 1, 1) := by decide +kernel
theorem dX6_nitrate_32 : decode cX6_nitrate 32 = .ok (.ireturn, 1) := by decide +kernel
theorem dX6_compounds_0 : decode cX6_compounds 0 = .ok (.iconst 0, 1) := by decide +kernel
theorem dX6_compounds_1 : decode cX6_compounds 1 = .ok (.istore_n 1, 1) := by decide +kernel
theorem dX6_compounds_2 : decode cX6_compounds 2 = .ok (.aload_n 0, 1) := by decide +kernel
theorem dX6_compounds_3 : decode cX6_compounds 3 = .ok (.getfield 15, 3) := by decide +kernel
theorem dX6_compounds_6 : decode cX6_compounds 6 = .ok (.astore_n 2, 1) := by decide +kernel
theorem dX6_compounds_7 : decode cX6_compounds 7 = .ok (.aload_n 2, 1) := by decide +kernel
theorem dX6_compounds_8 : decode cX6_compounds 8 = .ok (.ifnull 18, 3) := by decide +kernel
theorem dX6_compounds_11 : decode cX6_compounds 11 = .ok (.iload_n 1, 1) := by decide +kernel
theorem dX6_compounds_12 : decode cX6_compounds 12 = .ok (.aload_n 2, 1) := by decide +kernel
theorem dX6_compounds_13 : decode cX6_compounds 13 = .ok (.getfield 38, 3) := by decide +kernel
theorem dX6_compounds_16 : decode cX6_compounds 16 = .ok (.ior, 1) := by decide +kernel
theorem dX6_compounds_17 : decode cX6_compounds 17 = .ok (.istore_n 1, 1) := by decide +kernel
theorem dX6_compounds_18 : decode cX6_compounds 18 = .ok (.aload_n 2, 1) := by decide +kernel
theorem dX6_compounds_19 : decode cX6_compounds 19 = .ok (.getfield 22, 3) := by decide +kernel
theorem dX6_compounds_22 : decode cX6_compounds 22 = .ok (.astore_n 2, 1) := by decide +kernel
theorem dX6_compounds_23 : decode cX6_compounds 23 = .ok (.goto (-16), 3) := by decide +kernel
theorem dX6_compounds_26 : decode cX6_compounds 26 = .ok (.iload_n 1, 1) := by decide +kernel
theorem dX6_compounds_27 : decode cX6_compounds 27 = .ok (.ireturn, 1) := by decide +kernel
theorem dX6_oldest_0 : decode cX6_oldest 0 = .ok (.aload_n 0, 1) := by decide +kernel
theorem dX6_oldest_1 : decode cX6_oldest 1 = .ok (.invokevirtual 41, 3) := by decide +kernel
theorem dX6_oldest_4 : decode cX6_oldest 4 = .ok (.istore_n 1, 1) := by decide +kernel
theorem dX6_oldest_5 : decode cX6_oldest 5 = .ok (.aload_n 0, 1) := by decide +kernel
theorem dX6_oldest_6 : decode cX6_oldest 6 = .ok (.getfield 15, 3) := by decide +kernel
theorem dX6_oldest_9 : decode cX6_oldest 9 = .ok (.astore_n 2, 1) := by decide +kernel
theorem dX6_oldest_10 : decode cX6_oldest 10 = .ok (.aload_n 2, 1) := by decide +kernel
theorem dX6_oldest_11 : decode cX6_oldest 11 = .ok (.ifnull 20, 3) := by decide +kernel
theorem dX6_oldest_14 : decode cX6_oldest 14 = .ok (.iload_n 1, 1) := by decide +kernel
theorem dX6_oldest_15 : decode cX6_oldest 15 = .ok (.aload_n 2, 1) := by decide +kernel
theorem dX6_oldest_16 : decode cX6_oldest 16 = .ok (.getfield 32, 3) := by decide +kernel
theorem dX6_oldest_19 : decode cX6_oldest 19 = .ok (.invokestatic 45, 3) := by decide +kernel
theorem dX6_oldest_22 : decode cX6_oldest 22 = .ok (.istore_n 1, 1) := by decide +kernel
theorem dX6_oldest_23 : decode cX6_oldest 23 = .ok (.aload_n 2, 1) := by decide +kernel
theorem dX6_oldest_24 : decode cX6_oldest 24 = .ok (.getfield 22, 3) := by decide +kernel
theorem dX6_oldest_27 : decode cX6_oldest 27 = .ok (.astore_n 2, 1) := by decide +kernel
theorem dX6_oldest_28 : decode cX6_oldest 28 = .ok (.goto (-18), 3) := by decide +kernel
theorem dX6_oldest_31 : decode cX6_oldest 31 = .ok (.iload_n 1, 1) := by decide +kernel
theorem dX6_oldest_32 : decode cX6_oldest 32 = .ok (.ireturn, 1) := by decide +kernel
theorem dX6_youngest_0 : decode cX6_youngest 0 = .ok (.aload_n 0, 1) := by decide +kernel
theorem dX6_youngest_1 : decode cX6_youngest 1 = .ok (.invokevirtual 41, 3) := by decide +kernel
theorem dX6_youngest_4 : decode cX6_youngest 4 = .ok (.istore_n 1, 1) := by decide +kernel
theorem dX6_youngest_5 : decode cX6_youngest 5 = .ok (.aload_n 0, 1) := by decide +kernel
theorem dX6_youngest_6 : decode cX6_youngest 6 = .ok (.getfield 15, 3) := by decide +kernel
theorem dX6_youngest_9 : decode cX6_youngest 9 = .ok (.astore_n 2, 1) := by decide +kernel
theorem dX6_youngest_10 : decode cX6_youngest 10 = .ok (.aload_n 2, 1) := by decide +kernel
theorem dX6_youngest_11 : decode cX6_youngest 11 = .ok (.ifnull 20, 3) := by decide +kernel
theorem dX6_youngest_14 : decode cX6_youngest 14 = .ok (.iload_n 1, 1) := by decide +kernel
theorem dX6_youngest_15 : decode cX6_youngest 15 = .ok (.aload_n 2, 1) := by decide +kernel
theorem dX6_youngest_16 : decode cX6_youngest 16 = .ok (.getfield 32, 3) := by decide +kernel
theorem dX6_youngest_19 : decode cX6_youngest 19 = .ok (.invokestatic 51, 3) := by decide +kernel
theorem dX6_youngest_22 : decode cX6_youngest 22 = .ok (.istore_n 1, 1) := by decide +kernel
theorem dX6_youngest_23 : decode cX6_youngest 23 = .ok (.aload_n 2, 1) := by decide +kernel
theorem dX6_youngest_24 : decode cX6_youngest 24 = .ok (.getfield 22, 3) := by decide +kernel
theorem dX6_youngest_27 : decode cX6_youngest 27 = .ok (.astore_n 2, 1) := by decide +kernel
theorem dX6_youngest_28 : decode cX6_youngest 28 = .ok (.goto (-18), 3) := by decide +kernel
theorem dX6_youngest_31 : decode cX6_youngest 31 = .ok (.iload_n 1, 1) := by decide +kernel
theorem dX6_youngest_32 : decode cX6_youngest 32 = .ok (.ireturn, 1) := by decide +kernel
theorem dX6_agesIn_0 : decode cX6_agesIn 0 = .ok (.iconst 0, 1) := by decide +kernel
theorem dX6_agesIn_1 : decode cX6_agesIn 1 = .ok (.istore_n 2, 1) := by decide +kernel
theorem dX6_agesIn_2 : decode cX6_agesIn 2 = .ok (.aload_n 0, 1) := by decide +kernel
theorem dX6_agesIn_3 : decode cX6_agesIn 3 = .ok (.getfield 15, 3) := by decide +kernel
theorem dX6_agesIn_6 : decode cX6_agesIn 6 = .ok (.astore_n 3, 1) := by decide +kernel
theorem dX6_agesIn_7 : decode cX6_agesIn 7 = .ok (.aload_n 3, 1) := by decide +kernel
theorem dX6_agesIn_8 : decode cX6_agesIn 8 = .ok (.ifnull 25, 3) := by decide +kernel
theorem dX6_agesIn_11 : decode cX6_agesIn 11 = .ok (.iload_n 2, 1) := by decide +kernel
theorem dX6_agesIn_12 : decode cX6_agesIn 12 = .ok (.aload_n 3, 1) := by decide +kernel
theorem dX6_agesIn_13 : decode cX6_agesIn 13 = .ok (.getfield 27, 3) := by decide +kernel
theorem dX6_agesIn_16 : decode cX6_agesIn 16 = .ok (.iload_n 1, 1) := by decide +kernel
theorem dX6_agesIn_17 : decode cX6_agesIn 17 = .ok (.aload_n 3, 1) := by decide +kernel
theorem dX6_agesIn_18 : decode cX6_agesIn 18 = .ok (.getfield 32, 3) := by decide +kernel
theorem dX6_agesIn_21 : decode cX6_agesIn 21 = .ok (.isub, 1) := by decide +kernel
theorem dX6_agesIn_22 : decode cX6_agesIn 22 = .ok (.imul, 1) := by decide +kernel
theorem dX6_agesIn_23 : decode cX6_agesIn 23 = .ok (.iadd, 1) := by decide +kernel
theorem dX6_agesIn_24 : decode cX6_agesIn 24 = .ok (.istore_n 2, 1) := by decide +kernel
theorem dX6_agesIn_25 : decode cX6_agesIn 25 = .ok (.aload_n 3, 1) := by decide +kernel
theorem dX6_agesIn_26 : decode cX6_agesIn 26 = .ok (.getfield 22, 3) := by decide +kernel
theorem dX6_agesIn_29 : decode cX6_agesIn 29 = .ok (.astore_n 3, 1) := by decide +kernel
theorem dX6_agesIn_30 : decode cX6_agesIn 30 = .ok (.goto (-23), 3) := by decide +kernel
theorem dX6_agesIn_33 : decode cX6_agesIn 33 = .ok (.iload_n 2, 1) := by decide +kernel
theorem dX6_agesIn_34 : decode cX6_agesIn 34 = .ok (.ireturn, 1) := by decide +kernel
theorem dX6_unitsThatFell_0 : decode cX6_unitsThatFell 0 = .ok (.iconst 0, 1) := by decide +kernel
theorem dX6_unitsThatFell_1 : decode cX6_unitsThatFell 1 = .ok (.istore_n 3, 1) := by decide +kernel
theorem dX6_unitsThatFell_2 : decode cX6_unitsThatFell 2 = .ok (.aload_n 0, 1) := by decide +kernel
theorem dX6_unitsThatFell_3 : decode cX6_unitsThatFell 3 = .ok (.getfield 15, 3) := by decide +kernel
theorem dX6_unitsThatFell_6 : decode cX6_unitsThatFell 6 = .ok (.astore 4, 2) := by decide +kernel
theorem dX6_unitsThatFell_8 : decode cX6_unitsThatFell 8 = .ok (.aload 4, 2) := by decide +kernel
theorem dX6_unitsThatFell_10 : decode cX6_unitsThatFell 10 = .ok (.ifnull 39, 3) := by decide +kernel
theorem dX6_unitsThatFell_13 : decode cX6_unitsThatFell 13 = .ok (.aload 4, 2) := by decide +kernel
theorem dX6_unitsThatFell_15 : decode cX6_unitsThatFell 15 = .ok (.getfield 54, 3) := by decide +kernel
theorem dX6_unitsThatFell_18 : decode cX6_unitsThatFell 18 = .ok (.iload_n 1, 1) := by decide +kernel
theorem dX6_unitsThatFell_19 : decode cX6_unitsThatFell 19 = .ok (.if_icmp .ne 20, 3) := by decide +kernel
theorem dX6_unitsThatFell_22 : decode cX6_unitsThatFell 22 = .ok (.aload 4, 2) := by decide +kernel
theorem dX6_unitsThatFell_24 : decode cX6_unitsThatFell 24 = .ok (.getfield 32, 3) := by decide +kernel
theorem dX6_unitsThatFell_27 : decode cX6_unitsThatFell 27 = .ok (.iload_n 2, 1) := by decide +kernel
theorem dX6_unitsThatFell_28 : decode cX6_unitsThatFell 28 = .ok (.if_icmp .ne 11, 3) := by decide +kernel
theorem dX6_unitsThatFell_31 : decode cX6_unitsThatFell 31 = .ok (.iload_n 3, 1) := by decide +kernel
theorem dX6_unitsThatFell_32 : decode cX6_unitsThatFell 32 = .ok (.aload 4, 2) := by decide +kernel
theorem dX6_unitsThatFell_34 : decode cX6_unitsThatFell 34 = .ok (.getfield 27, 3) := by decide +kernel
theorem dX6_unitsThatFell_37 : decode cX6_unitsThatFell 37 = .ok (.iadd, 1) := by decide +kernel
theorem dX6_unitsThatFell_38 : decode cX6_unitsThatFell 38 = .ok (.istore_n 3, 1) := by decide +kernel
theorem dX6_unitsThatFell_39 : decode cX6_unitsThatFell 39 = .ok (.aload 4, 2) := by decide +kernel
theorem dX6_unitsThatFell_41 : decode cX6_unitsThatFell 41 = .ok (.getfield 22, 3) := by decide +kernel
theorem dX6_unitsThatFell_44 : decode cX6_unitsThatFell 44 = .ok (.astore 4, 2) := by decide +kernel
theorem dX6_unitsThatFell_46 : decode cX6_unitsThatFell 46 = .ok (.goto (-38), 3) := by decide +kernel
theorem dX6_unitsThatFell_49 : decode cX6_unitsThatFell 49 = .ok (.iload_n 3, 1) := by decide +kernel
theorem dX6_unitsThatFell_50 : decode cX6_unitsThatFell 50 = .ok (.ireturn, 1) := by decide +kernel
theorem dX6_earliestWith_0 : decode cX6_earliestWith 0 = .ok (.aconst_null, 1) := by decide +kernel
theorem dX6_earliestWith_1 : decode cX6_earliestWith 1 = .ok (.astore_n 2, 1) := by decide +kernel
theorem dX6_earliestWith_2 : decode cX6_earliestWith 2 = .ok (.aload_n 0, 1) := by decide +kernel
theorem dX6_earliestWith_3 : decode cX6_earliestWith 3 = .ok (.getfield 15, 3) := by decide +kernel
theorem dX6_earliestWith_6 : decode cX6_earliestWith 6 = .ok (.astore_n 3, 1) := by decide +kernel
theorem dX6_earliestWith_7 : decode cX6_earliestWith 7 = .ok (.aload_n 3, 1) := by decide +kernel
theorem dX6_earliestWith_8 : decode cX6_earliestWith 8 = .ok (.ifnull 34, 3) := by decide +kernel
theorem dX6_earliestWith_11 : decode cX6_earliestWith 11 = .ok (.aload_n 3, 1) := by decide +kernel
theorem dX6_earliestWith_12 : decode cX6_earliestWith 12 = .ok (.getfield 38, 3) := by decide +kernel
theorem dX6_earliestWith_15 : decode cX6_earliestWith 15 = .ok (.iload_n 1, 1) := by decide +kernel
theorem dX6_earliestWith_16 : decode cX6_earliestWith 16 = .ok (.iand, 1) := by decide +kernel
theorem dX6_earliestWith_17 : decode cX6_earliestWith 17 = .ok (.ifCond .eq 17, 3) := by decide +kernel
theorem dX6_earliestWith_20 : decode cX6_earliestWith 20 = .ok (.aload_n 2, 1) := by decide +kernel
theorem dX6_earliestWith_21 : decode cX6_earliestWith 21 = .ok (.ifnull 11, 3) := by decide +kernel
theorem dX6_earliestWith_24 : decode cX6_earliestWith 24 = .ok (.aload_n 3, 1) := by decide +kernel
theorem dX6_earliestWith_25 : decode cX6_earliestWith 25 = .ok (.aload_n 2, 1) := by decide +kernel
theorem dX6_earliestWith_26 : decode cX6_earliestWith 26 = .ok (.invokestatic 57, 3) := by decide +kernel
theorem dX6_earliestWith_29 : decode cX6_earliestWith 29 = .ok (.ifCond .eq 5, 3) := by decide +kernel
theorem dX6_earliestWith_32 : decode cX6_earliestWith 32 = .ok (.aload_n 3, 1) := by decide +kernel
theorem dX6_earliestWith_33 : decode cX6_earliestWith 33 = .ok (.astore_n 2, 1) := by decide +kernel
theorem dX6_earliestWith_34 : decode cX6_earliestWith 34 = .ok (.aload_n 3, 1) := by decide +kernel
theorem dX6_earliestWith_35 : decode cX6_earliestWith 35 = .ok (.getfield 22, 3) := by decide +kernel
theorem dX6_earliestWith_38 : decode cX6_earliestWith 38 = .ok (.astore_n 3, 1) := by decide +kernel
theorem dX6_earliestWith_39 : decode cX6_earliestWith 39 = .ok (.goto (-32), 3) := by decide +kernel
theorem dX6_earliestWith_42 : decode cX6_earliestWith 42 = .ok (.aload_n 2, 1) := by decide +kernel
theorem dX6_earliestWith_43 : decode cX6_earliestWith 43 = .ok (.areturn, 1) := by decide +kernel
theorem dX6_isEarlier_0 : decode cX6_isEarlier 0 = .ok (.aload_n 0, 1) := by decide +kernel
theorem dX6_isEarlier_1 : decode cX6_isEarlier 1 = .ok (.getfield 32, 3) := by decide +kernel
theorem dX6_isEarlier_4 : decode cX6_isEarlier 4 = .ok (.aload_n 1, 1) := by decide +kernel
theorem dX6_isEarlier_5 : decode cX6_isEarlier 5 = .ok (.getfield 32, 3) := by decide +kernel
theorem dX6_isEarlier_8 : decode cX6_isEarlier 8 = .ok (.if_icmp .lt 25, 3) := by decide +kernel
theorem dX6_isEarlier_11 : decode cX6_isEarlier 11 = .ok (.aload_n 0, 1) := by decide +kernel
theorem dX6_isEarlier_12 : decode cX6_isEarlier 12 = .ok (.getfield 32, 3) := by decide +kernel
theorem dX6_isEarlier_15 : decode cX6_isEarlier 15 = .ok (.aload_n 1, 1) := by decide +kernel
theorem dX6_isEarlier_16 : decode cX6_isEarlier 16 = .ok (.getfield 32, 3) := by decide +kernel
theorem dX6_isEarlier_19 : decode cX6_isEarlier 19 = .ok (.if_icmp .ne 18, 3) := by decide +kernel
theorem dX6_isEarlier_22 : decode cX6_isEarlier 22 = .ok (.aload_n 0, 1) := by decide +kernel
theorem dX6_isEarlier_23 : decode cX6_isEarlier 23 = .ok (.getfield 54, 3) := by decide +kernel
theorem dX6_isEarlier_26 : decode cX6_isEarlier 26 = .ok (.aload_n 1, 1) := by decide +kernel
theorem dX6_isEarlier_27 : decode cX6_isEarlier 27 = .ok (.getfield 54, 3) := by decide +kernel
theorem dX6_isEarlier_30 : decode cX6_isEarlier 30 = .ok (.if_icmp .ge 7, 3) := by decide +kernel
theorem dX6_isEarlier_33 : decode cX6_isEarlier 33 = .ok (.iconst 1, 1) := by decide +kernel
theorem dX6_isEarlier_34 : decode cX6_isEarlier 34 = .ok (.goto 4, 3) := by decide +kernel
theorem dX6_isEarlier_37 : decode cX6_isEarlier 37 = .ok (.iconst 0, 1) := by decide +kernel
theorem dX6_isEarlier_38 : decode cX6_isEarlier 38 = .ok (.ireturn, 1) := by decide +kernel
theorem dX7_init_0 : decode cX7_init 0 = .ok (.aload_n 0, 1) := by decide +kernel
theorem dX7_init_1 : decode cX7_init 1 = .ok (.invokespecial 1, 3) := by decide +kernel
theorem dX7_init_4 : decode cX7_init 4 = .ok (.return_, 1) := by decide +kernel
theorem dX7_add_0 : decode cX7_add 0 = .ok (.aload_n 1, 1) := by decide +kernel
theorem dX7_add_1 : decode cX7_add 1 = .ok (.aconst_null, 1) := by decide +kernel
theorem dX7_add_2 : decode cX7_add 2 = .ok (.putfield 7, 3) := by decide +kernel
theorem dX7_add_5 : decode cX7_add 5 = .ok (.aload_n 0, 1) := by decide +kernel
theorem dX7_add_6 : decode cX7_add 6 = .ok (.getfield 13, 3) := by decide +kernel
theorem dX7_add_9 : decode cX7_add 9 = .ok (.ifnonnull 11, 3) := by decide +kernel
theorem dX7_add_12 : decode cX7_add 12 = .ok (.aload_n 0, 1) := by decide +kernel
theorem dX7_add_13 : decode cX7_add 13 = .ok (.aload_n 1, 1) := by decide +kernel
theorem dX7_add_14 : decode cX7_add 14 = .ok (.putfield 18, 3) := by decide +kernel
theorem dX7_add_17 : decode cX7_add 17 = .ok (.goto 11, 3) := by decide +kernel
theorem dX7_add_20 : decode cX7_add 20 = .ok (.aload_n 0, 1) := by decide +kernel
theorem dX7_add_21 : decode cX7_add 21 = .ok (.getfield 13, 3) := by decide +kernel
theorem dX7_add_24 : decode cX7_add 24 = .ok (.aload_n 1, 1) := by decide +kernel
theorem dX7_add_25 : decode cX7_add 25 = .ok (.putfield 7, 3) := by decide +kernel
theorem dX7_add_28 : decode cX7_add 28 = .ok (.aload_n 0, 1) := by decide +kernel
theorem dX7_add_29 : decode cX7_add 29 = .ok (.aload_n 1, 1) := by decide +kernel
theorem dX7_add_30 : decode cX7_add 30 = .ok (.putfield 13, 3) := by decide +kernel
theorem dX7_add_33 : decode cX7_add 33 = .ok (.return_, 1) := by decide +kernel
theorem dX7_startAt_0 : decode cX7_startAt 0 = .ok (.aload_n 0, 1) := by decide +kernel
theorem dX7_startAt_1 : decode cX7_startAt 1 = .ok (.aload_n 1, 1) := by decide +kernel
theorem dX7_startAt_2 : decode cX7_startAt 2 = .ok (.putfield 18, 3) := by decide +kernel
theorem dX7_startAt_5 : decode cX7_startAt 5 = .ok (.aload_n 1, 1) := by decide +kernel
theorem dX7_startAt_6 : decode cX7_startAt 6 = .ok (.ifnonnull 11, 3) := by decide +kernel
theorem dX7_startAt_9 : decode cX7_startAt 9 = .ok (.aload_n 0, 1) := by decide +kernel
theorem dX7_startAt_10 : decode cX7_startAt 10 = .ok (.aconst_null, 1) := by decide +kernel
theorem dX7_startAt_11 : decode cX7_startAt 11 = .ok (.putfield 13, 3) := by decide +kernel
theorem dX7_startAt_14 : decode cX7_startAt 14 = .ok (.goto 15, 3) := by decide +kernel
theorem dX7_startAt_17 : decode cX7_startAt 17 = .ok (.aload_n 1, 1) := by decide +kernel
theorem dX7_startAt_18 : decode cX7_startAt 18 = .ok (.getfield 7, 3) := by decide +kernel
theorem dX7_startAt_21 : decode cX7_startAt 21 = .ok (.ifnonnull 8, 3) := by decide +kernel
theorem dX7_startAt_24 : decode cX7_startAt 24 = .ok (.aload_n 0, 1) := by decide +kernel
theorem dX7_startAt_25 : decode cX7_startAt 25 = .ok (.aload_n 1, 1) := by decide +kernel
theorem dX7_startAt_26 : decode cX7_startAt 26 = .ok (.putfield 13, 3) := by decide +kernel
theorem dX7_startAt_29 : decode cX7_startAt 29 = .ok (.return_, 1) := by decide +kernel
theorem dX8_init_0 : decode cX8_init 0 = .ok (.aload_n 0, 1) := by decide +kernel
theorem dX8_init_1 : decode cX8_init 1 = .ok (.invokespecial 1, 3) := by decide +kernel
theorem dX8_init_4 : decode cX8_init 4 = .ok (.aload_n 0, 1) := by decide +kernel
theorem dX8_init_5 : decode cX8_init 5 = .ok (.aload_n 1, 1) := by decide +kernel
theorem dX8_init_6 : decode cX8_init 6 = .ok (.putfield 7, 3) := by decide +kernel
theorem dX8_init_9 : decode cX8_init 9 = .ok (.aload_n 0, 1) := by decide +kernel
theorem dX8_init_10 : decode cX8_init 10 = .ok (.iload_n 2, 1) := by decide +kernel
theorem dX8_init_11 : decode cX8_init 11 = .ok (.putfield 13, 3) := by decide +kernel
theorem dX8_init_14 : decode cX8_init 14 = .ok (.return_, 1) := by decide +kernel
theorem dX9_init_0 : decode cX9_init 0 = .ok (.aload_n 0, 1) := by decide +kernel
theorem dX9_init_1 : decode cX9_init 1 = .ok (.invokespecial 1, 3) := by decide +kernel
theorem dX9_init_4 : decode cX9_init 4 = .ok (.aload_n 0, 1) := by decide +kernel
theorem dX9_init_5 : decode cX9_init 5 = .ok (.bipush 10, 2) := by decide +kernel
theorem dX9_init_7 : decode cX9_init 7 = .ok (.anewarray 9, 3) := by decide +kernel
theorem dX9_init_10 : decode cX9_init 10 = .ok (.putfield 11, 3) := by decide +kernel
theorem dX9_init_13 : decode cX9_init 13 = .ok (.aconst_null, 1) := by decide +kernel
theorem dX9_init_14 : decode cX9_init 14 = .ok (.astore_n 1, 1) := by decide +kernel
theorem dX9_init_15 : decode cX9_init 15 = .ok (.iconst 0, 1) := by decide +kernel
theorem dX9_init_16 : decode cX9_init 16 = .ok (.istore_n 2, 1) := by decide +kernel
theorem dX9_init_17 : decode cX9_init 17 = .ok (.iload_n 2, 1) := by decide +kernel
theorem dX9_init_18 : decode cX9_init 18 = .ok (.bipush 10, 2) := by decide +kernel
theorem dX9_init_20 : decode cX9_init 20 = .ok (.if_icmp .ge 26, 3) := by decide +kernel
theorem dX9_init_23 : decode cX9_init 23 = .ok (.new 9, 3) := by decide +kernel
theorem dX9_init_26 : decode cX9_init 26 = .ok (.dup, 1) := by decide +kernel
theorem dX9_init_27 : decode cX9_init 27 = .ok (.iload_n 2, 1) := by decide +kernel
theorem dX9_init_28 : decode cX9_init 28 = .ok (.aload_n 1, 1) := by decide +kernel
theorem dX9_init_29 : decode cX9_init 29 = .ok (.invokespecial 15, 3) := by decide +kernel
theorem dX9_init_32 : decode cX9_init 32 = .ok (.astore_n 1, 1) := by decide +kernel
theorem dX9_init_33 : decode cX9_init 33 = .ok (.aload_n 0, 1) := by decide +kernel
theorem dX9_init_34 : decode cX9_init 34 = .ok (.getfield 11, 3) := by decide +kernel
theorem dX9_init_37 : decode cX9_init 37 = .ok (.iload_n 2, 1) := by decide +kernel
theorem dX9_init_38 : decode cX9_init 38 = .ok (.aload_n 1, 1) := by decide +kernel
theorem dX9_init_39 : decode cX9_init 39 = .ok (.aastore, 1) := by decide +kernel
theorem dX9_init_40 : decode cX9_init 40 = .ok (.iinc 2 1, 3) := by decide +kernel
theorem dX9_init_43 : decode cX9_init 43 = .ok (.goto (-26), 3) := by decide +kernel
theorem dX9_init_46 : decode cX9_init 46 = .ok (.aload_n 0, 1) := by decide +kernel
theorem dX9_init_47 : decode cX9_init 47 = .ok (.aload_n 0, 1) := by decide +kernel
theorem dX9_init_48 : decode cX9_init 48 = .ok (.getfield 11, 3) := by decide +kernel
theorem dX9_init_51 : decode cX9_init 51 = .ok (.iconst 0, 1) := by decide +kernel
theorem dX9_init_52 : decode cX9_init 52 = .ok (.aaload, 1) := by decide +kernel
theorem dX9_init_53 : decode cX9_init 53 = .ok (.putfield 18, 3) := by decide +kernel
theorem dX9_init_56 : decode cX9_init 56 = .ok (.aload_n 0, 1) := by decide +kernel
theorem dX9_init_57 : decode cX9_init 57 = .ok (.bipush 6, 2) := by decide +kernel
theorem dX9_init_59 : decode cX9_init 59 = .ok (.anewarray 22, 3) := by decide +kernel
theorem dX9_init_62 : decode cX9_init 62 = .ok (.putfield 24, 3) := by decide +kernel
theorem dX9_init_65 : decode cX9_init 65 = .ok (.aload_n 0, 1) := by decide +kernel
theorem dX9_init_66 : decode cX9_init 66 = .ok (.bipush 40, 2) := by decide +kernel
theorem dX9_init_68 : decode cX9_init 68 = .ok (.anewarray 28, 3) := by decide +kernel
theorem dX9_init_71 : decode cX9_init 71 = .ok (.putfield 30, 3) := by decide +kernel
theorem dX9_init_74 : decode cX9_init 74 = .ok (.aload_n 0, 1) := by decide +kernel
theorem dX9_init_75 : decode cX9_init 75 = .ok (.new 34, 3) := by decide +kernel
theorem dX9_init_78 : decode cX9_init 78 = .ok (.dup, 1) := by decide +kernel
theorem dX9_init_79 : decode cX9_init 79 = .ok (.invokespecial 36, 3) := by decide +kernel
theorem dX9_init_82 : decode cX9_init 82 = .ok (.putfield 37, 3) := by decide +kernel
theorem dX9_init_85 : decode cX9_init 85 = .ok (.aload_n 0, 1) := by decide +kernel
theorem dX9_init_86 : decode cX9_init 86 = .ok (.new 41, 3) := by decide +kernel
theorem dX9_init_89 : decode cX9_init 89 = .ok (.dup, 1) := by decide +kernel
theorem dX9_init_90 : decode cX9_init 90 = .ok (.invokespecial 43, 3) := by decide +kernel
theorem dX9_init_93 : decode cX9_init 93 = .ok (.putfield 44, 3) := by decide +kernel
theorem dX9_init_96 : decode cX9_init 96 = .ok (.aload_n 0, 1) := by decide +kernel
theorem dX9_init_97 : decode cX9_init 97 = .ok (.iconst 1, 1) := by decide +kernel
theorem dX9_init_98 : decode cX9_init 98 = .ok (.putfield 48, 3) := by decide +kernel
theorem dX9_init_101 : decode cX9_init 101 = .ok (.return_, 1) := by decide +kernel
theorem dX9_rock_0 : decode cX9_rock 0 = .ok (.aload_n 0, 1) := by decide +kernel
theorem dX9_rock_1 : decode cX9_rock 1 = .ok (.iload_n 1, 1) := by decide +kernel
theorem dX9_rock_2 : decode cX9_rock 2 = .ok (.invokevirtual 52, 3) := by decide +kernel
theorem dX9_rock_5 : decode cX9_rock 5 = .ok (.astore_n 3, 1) := by decide +kernel
theorem dX9_rock_6 : decode cX9_rock 6 = .ok (.iload_n 2, 1) := by decide +kernel
theorem dX9_rock_7 : decode cX9_rock 7 = .ok (.iconst 1, 1) := by decide +kernel
theorem dX9_rock_8 : decode cX9_rock 8 = .ok (.bipush 40, 2) := by decide +kernel
theorem dX9_rock_10 : decode cX9_rock 10 = .ok (.invokestatic 56, 3) := by decide +kernel
theorem dX9_rock_13 : decode cX9_rock 13 = .ok (.aload_n 3, 1) := by decide +kernel
theorem dX9_rock_14 : decode cX9_rock 14 = .ok (.getfield 60, 3) := by decide +kernel
theorem dX9_rock_17 : decode cX9_rock 17 = .ok (.istore 4, 2) := by decide +kernel
theorem dX9_rock_19 : decode cX9_rock 19 = .ok (.aload_n 3, 1) := by decide +kernel
theorem dX9_rock_20 : decode cX9_rock 20 = .ok (.iload_n 2, 1) := by decide +kernel
theorem dX9_rock_21 : decode cX9_rock 21 = .ok (.putfield 60, 3) := by decide +kernel
theorem dX9_rock_24 : decode cX9_rock 24 = .ok (.iload 4, 2) := by decide +kernel
theorem dX9_rock_26 : decode cX9_rock 26 = .ok (.ireturn, 1) := by decide +kernel
theorem dX9_land_0 : decode cX9_land 0 = .ok (.aload_n 0, 1) := by decide +kernel
theorem dX9_land_1 : decode cX9_land 1 = .ok (.iload_n 1, 1) := by decide +kernel
theorem dX9_land_2 : decode cX9_land 2 = .ok (.invokevirtual 52, 3) := by decide +kernel
theorem dX9_land_5 : decode cX9_land 5 = .ok (.astore_n 3, 1) := by decide +kernel
theorem dX9_land_6 : decode cX9_land 6 = .ok (.iload_n 2, 1) := by decide +kernel
theorem dX9_land_7 : decode cX9_land 7 = .ok (.iconst 0, 1) := by decide +kernel
theorem dX9_land_8 : decode cX9_land 8 = .ok (.iconst 2, 1) := by decide +kernel
theorem dX9_land_9 : decode cX9_land 9 = .ok (.invokestatic 56, 3) := by decide +kernel
theorem dX9_land_12 : decode cX9_land 12 = .ok (.aload_n 3, 1) := by decide +kernel
theorem dX9_land_13 : decode cX9_land 13 = .ok (.getfield 63, 3) := by decide +kernel
theorem dX9_land_16 : decode cX9_land 16 = .ok (.ifCond .ne 7, 3) := by decide +kernel
theorem dX9_land_19 : decode cX9_land 19 = .ok (.iconst 1, 1) := by decide +kernel
theorem dX9_land_20 : decode cX9_land 20 = .ok (.goto 4, 3) := by decide +kernel
theorem dX9_land_23 : decode cX9_land 23 = .ok (.iconst 0, 1) := by decide +kernel
theorem dX9_land_24 : decode cX9_land 24 = .ok (.invokestatic 66, 3) := by decide +kernel
theorem dX9_land_27 : decode cX9_land 27 = .ok (.aload_n 3, 1) := by decide +kernel
theorem dX9_land_28 : decode cX9_land 28 = .ok (.getfield 70, 3) := by decide +kernel
theorem dX9_land_31 : decode cX9_land 31 = .ok (.istore 4, 2) := by decide +kernel
theorem dX9_land_33 : decode cX9_land 33 = .ok (.aload_n 3, 1) := by decide +kernel
theorem dX9_land_34 : decode cX9_land 34 = .ok (.iload_n 2, 1) := by decide +kernel
theorem dX9_land_35 : decode cX9_land 35 = .ok (.putfield 70, 3) := by decide +kernel
theorem dX9_land_38 : decode cX9_land 38 = .ok (.iload 4, 2) := by decide +kernel
theorem dX9_land_40 : decode cX9_land 40 = .ok (.ireturn, 1) := by decide +kernel
theorem dX9_lead_0 : decode cX9_lead 0 = .ok (.aload_n 0, 1) := by decide +kernel
theorem dX9_lead_1 : decode cX9_lead 1 = .ok (.iload_n 1, 1) := by decide +kernel
theorem dX9_lead_2 : decode cX9_lead 2 = .ok (.invokevirtual 52, 3) := by decide +kernel
theorem dX9_lead_5 : decode cX9_lead 5 = .ok (.astore_n 3, 1) := by decide +kernel
theorem dX9_lead_6 : decode cX9_lead 6 = .ok (.iload_n 2, 1) := by decide +kernel
theorem dX9_lead_7 : decode cX9_lead 7 = .ok (.iconst (-1), 1) := by decide +kernel
theorem dX9_lead_8 : decode cX9_lead 8 = .ok (.if_icmp .ne 7, 3) := by decide +kernel
theorem dX9_lead_11 : decode cX9_lead 11 = .ok (.aconst_null, 1) := by decide +kernel
theorem dX9_lead_12 : decode cX9_lead 12 = .ok (.goto 8, 3) := by decide +kernel
theorem dX9_lead_15 : decode cX9_lead 15 = .ok (.aload_n 0, 1) := by decide +kernel
theorem dX9_lead_16 : decode cX9_lead 16 = .ok (.iload_n 2, 1) := by decide +kernel
theorem dX9_lead_17 : decode cX9_lead 17 = .ok (.invokevirtual 52, 3) := by decide +kernel
theorem dX9_lead_20 : decode cX9_lead 20 = .ok (.astore 4, 2) := by decide +kernel
theorem dX9_lead_22 : decode cX9_lead 22 = .ok (.iload_n 2, 1) := by decide +kernel
theorem dX9_lead_23 : decode cX9_lead 23 = .ok (.iload_n 1, 1) := by decide +kernel
theorem dX9_lead_24 : decode cX9_lead 24 = .ok (.if_icmp .ge 7, 3) := by decide +kernel
theorem dX9_lead_27 : decode cX9_lead 27 = .ok (.iconst 1, 1) := by decide +kernel
theorem dX9_lead_28 : decode cX9_lead 28 = .ok (.goto 4, 3) := by decide +kernel
theorem dX9_lead_31 : decode cX9_lead 31 = .ok (.iconst 0, 1) := by decide +kernel
theorem dX9_lead_32 : decode cX9_lead 32 = .ok (.invokestatic 73, 3) := by decide +kernel
theorem dX9_lead_35 : decode cX9_lead 35 = .ok (.aload_n 3, 1) := by decide +kernel
theorem dX9_lead_36 : decode cX9_lead 36 = .ok (.invokevirtual 76, 3) := by decide +kernel
theorem dX9_lead_39 : decode cX9_lead 39 = .ok (.istore 5, 2) := by decide +kernel
theorem dX9_lead_41 : decode cX9_lead 41 = .ok (.aload_n 3, 1) := by decide +kernel
theorem dX9_lead_42 : decode cX9_lead 42 = .ok (.aload 4, 2) := by decide +kernel
theorem dX9_lead_44 : decode cX9_lead 44 = .ok (.putfield 80, 3) := by decide +kernel
theorem dX9_lead_47 : decode cX9_lead 47 = .ok (.iload 5, 2) := by decide +kernel
theorem dX9_lead_49 : decode cX9_lead 49 = .ok (.ireturn, 1) := by decide +kernel
theorem dX9_spill_0 : decode cX9_spill 0 = .ok (.aload_n 0, 1) := by decide +kernel
theorem dX9_spill_1 : decode cX9_spill 1 = .ok (.iload_n 1, 1) := by decide +kernel
theorem dX9_spill_2 : decode cX9_spill 2 = .ok (.invokevirtual 52, 3) := by decide +kernel
theorem dX9_spill_5 : decode cX9_spill 5 = .ok (.astore_n 3, 1) := by decide +kernel
theorem dX9_spill_6 : decode cX9_spill 6 = .ok (.iload_n 2, 1) := by decide +kernel
theorem dX9_spill_7 : decode cX9_spill 7 = .ok (.bipush 8, 2) := by decide +kernel
theorem dX9_spill_9 : decode cX9_spill 9 = .ok (.invokestatic 83, 3) := by decide +kernel
theorem dX9_spill_12 : decode cX9_spill 12 = .ok (.aload_n 3, 1) := by decide +kernel
theorem dX9_spill_13 : decode cX9_spill 13 = .ok (.invokevirtual 87, 3) := by decide +kernel
theorem dX9_spill_16 : decode cX9_spill 16 = .ok (.iconst 5, 1) := by decide +kernel
theorem dX9_spill_17 : decode cX9_spill 17 = .ok (.if_icmp .le 7, 3) := by decide +kernel
theorem dX9_spill_20 : decode cX9_spill 20 = .ok (.iconst 1, 1) := by decide +kernel
theorem dX9_spill_21 : decode cX9_spill 21 = .ok (.goto 4, 3) := by decide +kernel
theorem dX9_spill_24 : decode cX9_spill 24 = .ok (.iconst 0, 1) := by decide +kernel
theorem dX9_spill_25 : decode cX9_spill 25 = .ok (.invokestatic 66, 3) := by decide +kernel
theorem dX9_spill_28 : decode cX9_spill 28 = .ok (.aload_n 3, 1) := by decide +kernel
theorem dX9_spill_29 : decode cX9_spill 29 = .ok (.dup, 1) := by decide +kernel
theorem dX9_spill_30 : decode cX9_spill 30 = .ok (.getfield 90, 3) := by decide +kernel
theorem dX9_spill_33 : decode cX9_spill 33 = .ok (.iconst 1, 1) := by decide +kernel
theorem dX9_spill_34 : decode cX9_spill 34 = .ok (.iload_n 2, 1) := by decide +kernel
theorem dX9_spill_35 : decode cX9_spill 35 = .ok (.ishl, 1) := by decide +kernel
theorem dX9_spill_36 : decode cX9_spill 36 = .ok (.ior, 1) := by decide +kernel
theorem dX9_spill_37 : decode cX9_spill 37 = .ok (.putfield 90, 3) := by decide +kernel
theorem dX9_spill_40 : decode cX9_spill 40 = .ok (.aload_n 3, 1) := by decide +kernel
theorem dX9_spill_41 : decode cX9_spill 41 = .ok (.getfield 90, 3) := by decide +kernel
theorem dX9_spill_44 : decode cX9_spill 44 = .ok (.ireturn, 1) := by decide +kernel
theorem dX9_contract_0 : decode cX9_contract 0 = .ok (.aload_n 0, 1) := by decide +kernel
theorem dX9_contract_1 : decode cX9_contract 1 = .ok (.iload_n 1, 1) := by decide +kernel
theorem dX9_contract_2 : decode cX9_contract 2 = .ok (.invokevirtual 52, 3) := by decide +kernel
theorem dX9_contract_5 : decode cX9_contract 5 = .ok (.astore 4, 2) := by decide +kernel
theorem dX9_contract_7 : decode cX9_contract 7 = .ok (.iload_n 2, 1) := by decide +kernel
theorem dX9_contract_8 : decode cX9_contract 8 = .ok (.iconst 1, 1) := by decide +kernel
theorem dX9_contract_9 : decode cX9_contract 9 = .ok (.bipush 30, 2) := by decide +kernel
theorem dX9_contract_11 : decode cX9_contract 11 = .ok (.invokestatic 56, 3) := by decide +kernel
theorem dX9_contract_14 : decode cX9_contract 14 = .ok (.iload_n 3, 1) := by decide +kernel
theorem dX9_contract_15 : decode cX9_contract 15 = .ok (.iconst 0, 1) := by decide +kernel
theorem dX9_contract_16 : decode cX9_contract 16 = .ok (.sipush 1000, 3) := by decide +kernel
theorem dX9_contract_19 : decode cX9_contract 19 = .ok (.invokestatic 56, 3) := by decide +kernel
theorem dX9_contract_22 : decode cX9_contract 22 = .ok (.aload 4, 2) := by decide +kernel
theorem dX9_contract_24 : decode cX9_contract 24 = .ok (.getfield 70, 3) := by decide +kernel
theorem dX9_contract_27 : decode cX9_contract 27 = .ok (.iconst 2, 1) := by decide +kernel
theorem dX9_contract_28 : decode cX9_contract 28 = .ok (.if_icmp .ne 15, 3) := by decide +kernel
theorem dX9_contract_31 : decode cX9_contract 31 = .ok (.aload 4, 2) := by decide +kernel
theorem dX9_contract_33 : decode cX9_contract 33 = .ok (.getfield 63, 3) := by decide +kernel
theorem dX9_contract_36 : decode cX9_contract 36 = .ok (.ifCond .ne 7, 3) := by decide +kernel
theorem dX9_contract_39 : decode cX9_contract 39 = .ok (.iconst 1, 1) := by decide +kernel
theorem dX9_contract_40 : decode cX9_contract 40 = .ok (.goto 4, 3) := by decide +kernel
theorem dX9_contract_43 : decode cX9_contract 43 = .ok (.iconst 0, 1) := by decide +kernel
theorem dX9_contract_44 : decode cX9_contract 44 = .ok (.invokestatic 66, 3) := by decide +kernel
theorem dX9_contract_47 : decode cX9_contract 47 = .ok (.aload 4, 2) := by decide +kernel
theorem dX9_contract_49 : decode cX9_contract 49 = .ok (.iload_n 2, 1) := by decide +kernel
theorem dX9_contract_50 : decode cX9_contract 50 = .ok (.putfield 63, 3) := by decide +kernel
theorem dX9_contract_53 : decode cX9_contract 53 = .ok (.aload 4, 2) := by decide +kernel
theorem dX9_contract_55 : decode cX9_contract 55 = .ok (.iload_n 3, 1) := by decide +kernel
theorem dX9_contract_56 : decode cX9_contract 56 = .ok (.putfield 93, 3) := by decide +kernel
theorem dX9_contract_59 : decode cX9_contract 59 = .ok (.return_, 1) := by decide +kernel
theorem dX9_pass_0 : decode cX9_pass 0 = .ok (.iload_n 1, 1) := by decide +kernel
theorem dX9_pass_1 : decode cX9_pass 1 = .ok (.iconst 1, 1) := by decide +kernel
theorem dX9_pass_2 : decode cX9_pass 2 = .ok (.bipush 20, 2) := by decide +kernel
theorem dX9_pass_4 : decode cX9_pass 4 = .ok (.invokestatic 56, 3) := by decide +kernel
theorem dX9_pass_7 : decode cX9_pass 7 = .ok (.iload_n 2, 1) := by decide +kernel
theorem dX9_pass_8 : decode cX9_pass 8 = .ok (.iconst 0, 1) := by decide +kernel
theorem dX9_pass_9 : decode cX9_pass 9 = .ok (.sipush 1000, 3) := by decide +kernel
theorem dX9_pass_12 : decode cX9_pass 12 = .ok (.invokestatic 56, 3) := by decide +kernel
theorem dX9_pass_15 : decode cX9_pass 15 = .ok (.aload_n 0, 1) := by decide +kernel
theorem dX9_pass_16 : decode cX9_pass 16 = .ok (.getfield 96, 3) := by decide +kernel
theorem dX9_pass_19 : decode cX9_pass 19 = .ok (.iload_n 1, 1) := by decide +kernel
theorem dX9_pass_20 : decode cX9_pass 20 = .ok (.iadd, 1) := by decide +kernel
theorem dX9_pass_21 : decode cX9_pass 21 = .ok (.sipush 300, 3) := by decide +kernel
theorem dX9_pass_24 : decode cX9_pass 24 = .ok (.if_icmp .gt 7, 3) := by decide +kernel
theorem dX9_pass_27 : decode cX9_pass 27 = .ok (.iconst 1, 1) := by decide +kernel
theorem dX9_pass_28 : decode cX9_pass 28 = .ok (.goto 4, 3) := by decide +kernel
theorem dX9_pass_31 : decode cX9_pass 31 = .ok (.iconst 0, 1) := by decide +kernel
theorem dX9_pass_32 : decode cX9_pass 32 = .ok (.invokestatic 66, 3) := by decide +kernel
theorem dX9_pass_35 : decode cX9_pass 35 = .ok (.iconst 0, 1) := by decide +kernel
theorem dX9_pass_36 : decode cX9_pass 36 = .ok (.istore_n 3, 1) := by decide +kernel
theorem dX9_pass_37 : decode cX9_pass 37 = .ok (.iload_n 3, 1) := by decide +kernel
theorem dX9_pass_38 : decode cX9_pass 38 = .ok (.iload_n 1, 1) := by decide +kernel
theorem dX9_pass_39 : decode cX9_pass 39 = .ok (.if_icmp .ge 14, 3) := by decide +kernel
theorem dX9_pass_42 : decode cX9_pass 42 = .ok (.aload_n 0, 1) := by decide +kernel
theorem dX9_pass_43 : decode cX9_pass 43 = .ok (.iload_n 2, 1) := by decide +kernel
theorem dX9_pass_44 : decode cX9_pass 44 = .ok (.invokevirtual 99, 3) := by decide +kernel
theorem dX9_pass_47 : decode cX9_pass 47 = .ok (.iinc 3 1, 3) := by decide +kernel
theorem dX9_pass_50 : decode cX9_pass 50 = .ok (.goto (-13), 3) := by decide +kernel
theorem dX9_pass_53 : decode cX9_pass 53 = .ok (.aload_n 0, 1) := by decide +kernel
theorem dX9_pass_54 : decode cX9_pass 54 = .ok (.getfield 96, 3) := by decide +kernel
theorem dX9_pass_57 : decode cX9_pass 57 = .ok (.ireturn, 1) := by decide +kernel
theorem dX9_passOne_0 : decode cX9_passOne 0 = .ok (.aload_n 0, 1) := by decide +kernel
theorem dX9_passOne_1 : decode cX9_passOne 1 = .ok (.invokevirtual 103, 3) := by decide +kernel
theorem dX9_passOne_4 : decode cX9_passOne 4 = .ok (.iload_n 1, 1) := by decide +kernel
theorem dX9_passOne_5 : decode cX9_passOne 5 = .ok (.ifCond .le 8, 3) := by decide +kernel
theorem dX9_passOne_8 : decode cX9_passOne 8 = .ok (.aload_n 0, 1) := by decide +kernel
theorem dX9_passOne_9 : decode cX9_passOne 9 = .ok (.iload_n 1, 1) := by decide +kernel
theorem dX9_passOne_10 : decode cX9_passOne 10 = .ok (.invokevirtual 106, 3) := by decide +kernel
theorem dX9_passOne_13 : decode cX9_passOne 13 = .ok (.aload_n 0, 1) := by decide +kernel
theorem dX9_passOne_14 : decode cX9_passOne 14 = .ok (.invokevirtual 109, 3) := by decide +kernel
theorem dX9_passOne_17 : decode cX9_passOne 17 = .ok (.aload_n 0, 1) := by decide +kernel
theorem dX9_passOne_18 : decode cX9_passOne 18 = .ok (.dup, 1) := by decide +kernel
theorem dX9_passOne_19 : decode cX9_passOne 19 = .ok (.getfield 96, 3) := by decide +kernel
theorem dX9_passOne_22 : decode cX9_passOne 22 = .ok (.iconst 1, 1) := by decide +kernel
theorem dX9_passOne_23 : decode cX9_passOne 23 = .ok (.iadd, 1) := by decide +kernel
theorem dX9_passOne_24 : decode cX9_passOne 24 = .ok (.putfield 96, 3) := by decide +kernel
theorem dX9_passOne_27 : decode cX9_passOne 27 = .ok (.iconst 0, 1) := by decide +kernel
theorem dX9_passOne_28 : decode cX9_passOne 28 = .ok (.istore_n 2, 1) := by decide +kernel
theorem dX9_passOne_29 : decode cX9_passOne 29 = .ok (.iload_n 2, 1) := by decide +kernel
theorem dX9_passOne_30 : decode cX9_passOne 30 = .ok (.aload_n 0, 1) := by decide +kernel
theorem dX9_passOne_31 : decode cX9_passOne 31 = .ok (.getfield 112, 3) := by decide +kernel
theorem dX9_passOne_34 : decode cX9_passOne 34 = .ok (.if_icmp .ge 19, 3) := by decide +kernel
theorem dX9_passOne_37 : decode cX9_passOne 37 = .ok (.aload_n 0, 1) := by decide +kernel
theorem dX9_passOne_38 : decode cX9_passOne 38 = .ok (.getfield 24, 3) := by decide +kernel
theorem dX9_passOne_41 : decode cX9_passOne 41 = .ok (.iload_n 2, 1) := by decide +kernel
theorem dX9_passOne_42 : decode cX9_passOne 42 = .ok (.aaload, 1) := by decide +kernel
theorem dX9_passOne_43 : decode cX9_passOne 43 = .ok (.iconst 0, 1) := by decide +kernel
theorem dX9_passOne_44 : decode cX9_passOne 44 = .ok (.putfield 115, 3) := by decide +kernel
theorem dX9_passOne_47 : decode cX9_passOne 47 = .ok (.iinc 2 1, 3) := by decide +kernel
theorem dX9_passOne_50 : decode cX9_passOne 50 = .ok (.goto (-21), 3) := by decide +kernel
theorem dX9_passOne_53 : decode cX9_passOne 53 = .ok (.return_, 1) := by decide +kernel
theorem dX9_leadOn_0 : decode cX9_leadOn 0 = .ok (.aload_n 0, 1) := by decide +kernel
theorem dX9_leadOn_1 : decode cX9_leadOn 1 = .ok (.getfield 37, 3) := by decide +kernel
theorem dX9_leadOn_4 : decode cX9_leadOn 4 = .ok (.invokevirtual 118, 3) := by decide +kernel
theorem dX9_leadOn_7 : decode cX9_leadOn 7 = .ok (.iconst 0, 1) := by decide +kernel
theorem dX9_leadOn_8 : decode cX9_leadOn 8 = .ok (.istore_n 1, 1) := by decide +kernel
theorem dX9_leadOn_9 : decode cX9_leadOn 9 = .ok (.iload_n 1, 1) := by decide +kernel
theorem dX9_leadOn_10 : decode cX9_leadOn 10 = .ok (.bipush 10, 2) := by decide +kernel
theorem dX9_leadOn_12 : decode cX9_leadOn 12 = .ok (.if_icmp .ge 70, 3) := by decide +kernel
theorem dX9_leadOn_15 : decode cX9_leadOn 15 = .ok (.aload_n 0, 1) := by decide +kernel
theorem dX9_leadOn_16 : decode cX9_leadOn 16 = .ok (.getfield 11, 3) := by decide +kernel
theorem dX9_leadOn_19 : decode cX9_leadOn 19 = .ok (.iload_n 1, 1) := by decide +kernel
theorem dX9_leadOn_20 : decode cX9_leadOn 20 = .ok (.aaload, 1) := by decide +kernel
theorem dX9_leadOn_21 : decode cX9_leadOn 21 = .ok (.astore_n 2, 1) := by decide +kernel
theorem dX9_leadOn_22 : decode cX9_leadOn 22 = .ok (.aload_n 2, 1) := by decide +kernel
theorem dX9_leadOn_23 : decode cX9_leadOn 23 = .ok (.invokevirtual 121, 3) := by decide +kernel
theorem dX9_leadOn_26 : decode cX9_leadOn 26 = .ok (.istore_n 3, 1) := by decide +kernel
theorem dX9_leadOn_27 : decode cX9_leadOn 27 = .ok (.aload_n 2, 1) := by decide +kernel
theorem dX9_leadOn_28 : decode cX9_leadOn 28 = .ok (.getfield 80, 3) := by decide +kernel
theorem dX9_leadOn_31 : decode cX9_leadOn 31 = .ok (.ifnonnull 10, 3) := by decide +kernel
theorem dX9_leadOn_34 : decode cX9_leadOn 34 = .ok (.aload_n 0, 1) := by decide +kernel
theorem dX9_leadOn_35 : decode cX9_leadOn 35 = .ok (.getfield 37, 3) := by decide +kernel
theorem dX9_leadOn_38 : decode cX9_leadOn 38 = .ok (.goto 10, 3) := by decide +kernel
theorem dX9_leadOn_41 : decode cX9_leadOn 41 = .ok (.aload_n 2, 1) := by decide +kernel
theorem dX9_leadOn_42 : decode cX9_leadOn 42 = .ok (.getfield 80, 3) := by decide +kernel
theorem dX9_leadOn_45 : decode cX9_leadOn 45 = .ok (.getfield 124, 3) := by decide +kernel
theorem dX9_leadOn_48 : decode cX9_leadOn 48 = .ok (.astore 4, 2) := by decide +kernel
theorem dX9_leadOn_50 : decode cX9_leadOn 50 = .ok (.aload 4, 2) := by decide +kernel
theorem dX9_leadOn_52 : decode cX9_leadOn 52 = .ok (.aload_n 2, 1) := by decide +kernel
theorem dX9_leadOn_53 : decode cX9_leadOn 53 = .ok (.getfield 124, 3) := by decide +kernel
theorem dX9_leadOn_56 : decode cX9_leadOn 56 = .ok (.iload_n 3, 1) := by decide +kernel
theorem dX9_leadOn_57 : decode cX9_leadOn 57 = .ok (.invokevirtual 127, 3) := by decide +kernel
theorem dX9_leadOn_60 : decode cX9_leadOn 60 = .ok (.invokevirtual 131, 3) := by decide +kernel
theorem dX9_leadOn_63 : decode cX9_leadOn 63 = .ok (.aload_n 0, 1) := by decide +kernel
theorem dX9_leadOn_64 : decode cX9_leadOn 64 = .ok (.getfield 44, 3) := by decide +kernel
theorem dX9_leadOn_67 : decode cX9_leadOn 67 = .ok (.iload_n 1, 1) := by decide +kernel
theorem dX9_leadOn_68 : decode cX9_leadOn 68 = .ok (.aload_n 2, 1) := by decide +kernel
theorem dX9_leadOn_69 : decode cX9_leadOn 69 = .ok (.invokevirtual 76, 3) := by decide +kernel
theorem dX9_leadOn_72 : decode cX9_leadOn 72 = .ok (.iload_n 3, 1) := by decide +kernel
theorem dX9_leadOn_73 : decode cX9_leadOn 73 = .ok (.invokevirtual 135, 3) := by decide +kernel
theorem dX9_leadOn_76 : decode cX9_leadOn 76 = .ok (.iinc 1 1, 3) := by decide +kernel
theorem dX9_leadOn_79 : decode cX9_leadOn 79 = .ok (.goto (-70), 3) := by decide +kernel
theorem dX9_leadOn_82 : decode cX9_leadOn 82 = .ok (.aload_n 0, 1) := by decide +kernel
theorem dX9_leadOn_83 : decode cX9_leadOn 83 = .ok (.dup, 1) := by decide +kernel
theorem dX9_leadOn_84 : decode cX9_leadOn 84 = .ok (.getfield 138, 3) := by decide +kernel
theorem dX9_leadOn_87 : decode cX9_leadOn 87 = .ok (.aload_n 0, 1) := by decide +kernel
theorem dX9_leadOn_88 : decode cX9_leadOn 88 = .ok (.getfield 37, 3) := by decide +kernel
theorem dX9_leadOn_91 : decode cX9_leadOn 91 = .ok (.getfield 142, 3) := by decide +kernel
theorem dX9_leadOn_94 : decode cX9_leadOn 94 = .ok (.i2l, 1) := by decide +kernel
theorem dX9_leadOn_95 : decode cX9_leadOn 95 = .ok (.ladd, 1) := by decide +kernel
theorem dX9_leadOn_96 : decode cX9_leadOn 96 = .ok (.putfield 138, 3) := by decide +kernel
theorem dX9_leadOn_99 : decode cX9_leadOn 99 = .ok (.return_, 1) := by decide +kernel
theorem dX9_rainOn_0 : decode cX9_rainOn 0 = .ok (.iconst 0, 1) := by decide +kernel
theorem dX9_rainOn_1 : decode cX9_rainOn 1 = .ok (.istore_n 2, 1) := by decide +kernel
theorem dX9_rainOn_2 : decode cX9_rainOn 2 = .ok (.iload_n 2, 1) := by decide +kernel
theorem dX9_rainOn_3 : decode cX9_rainOn 3 = .ok (.bipush 10, 2) := by decide +kernel
theorem dX9_rainOn_5 : decode cX9_rainOn 5 = .ok (.if_icmp .ge 23, 3) := by decide +kernel
theorem dX9_rainOn_8 : decode cX9_rainOn 8 = .ok (.aload_n 0, 1) := by decide +kernel
theorem dX9_rainOn_9 : decode cX9_rainOn 9 = .ok (.getfield 11, 3) := by decide +kernel
theorem dX9_rainOn_12 : decode cX9_rainOn 12 = .ok (.iload_n 2, 1) := by decide +kernel
theorem dX9_rainOn_13 : decode cX9_rainOn 13 = .ok (.aaload, 1) := by decide +kernel
theorem dX9_rainOn_14 : decode cX9_rainOn 14 = .ok (.aload_n 0, 1) := by decide +kernel
theorem dX9_rainOn_15 : decode cX9_rainOn 15 = .ok (.getfield 96, 3) := by decide +kernel
theorem dX9_rainOn_18 : decode cX9_rainOn 18 = .ok (.iload_n 1, 1) := by decide +kernel
theorem dX9_rainOn_19 : decode cX9_rainOn 19 = .ok (.invokevirtual 145, 3) := by decide +kernel
theorem dX9_rainOn_22 : decode cX9_rainOn 22 = .ok (.iinc 2 1, 3) := by decide +kernel
theorem dX9_rainOn_25 : decode cX9_rainOn 25 = .ok (.goto (-23), 3) := by decide +kernel
theorem dX9_rainOn_28 : decode cX9_rainOn 28 = .ok (.aload_n 0, 1) := by decide +kernel
theorem dX9_rainOn_29 : decode cX9_rainOn 29 = .ok (.getfield 44, 3) := by decide +kernel
theorem dX9_rainOn_32 : decode cX9_rainOn 32 = .ok (.bipush (-2), 2) := by decide +kernel
theorem dX9_rainOn_34 : decode cX9_rainOn 34 = .ok (.aload_n 0, 1) := by decide +kernel
theorem dX9_rainOn_35 : decode cX9_rainOn 35 = .ok (.getfield 96, 3) := by decide +kernel
theorem dX9_rainOn_38 : decode cX9_rainOn 38 = .ok (.iload_n 1, 1) := by decide +kernel
theorem dX9_rainOn_39 : decode cX9_rainOn 39 = .ok (.invokevirtual 135, 3) := by decide +kernel
theorem dX9_rainOn_42 : decode cX9_rainOn 42 = .ok (.aload_n 0, 1) := by decide +kernel
theorem dX9_rainOn_43 : decode cX9_rainOn 43 = .ok (.dup, 1) := by decide +kernel
theorem dX9_rainOn_44 : decode cX9_rainOn 44 = .ok (.getfield 148, 3) := by decide +kernel
theorem dX9_rainOn_47 : decode cX9_rainOn 47 = .ok (.iload_n 1, 1) := by decide +kernel
theorem dX9_rainOn_48 : decode cX9_rainOn 48 = .ok (.i2l, 1) := by decide +kernel
theorem dX9_rainOn_49 : decode cX9_rainOn 49 = .ok (.ldc2_w 151, 3) := by decide +kernel
theorem dX9_rainOn_52 : decode cX9_rainOn 52 = .ok (.lmul, 1) := by decide +kernel
theorem dX9_rainOn_53 : decode cX9_rainOn 53 = .ok (.ladd, 1) := by decide +kernel
theorem dX9_rainOn_54 : decode cX9_rainOn 54 = .ok (.putfield 148, 3) := by decide +kernel
theorem dX9_rainOn_57 : decode cX9_rainOn 57 = .ok (.return_, 1) := by decide +kernel
theorem dX9_payContracts_0 : decode cX9_payContracts 0 = .ok (.iconst 0, 1) := by decide +kernel
theorem dX9_payContracts_1 : decode cX9_payContracts 1 = .ok (.istore_n 1, 1) := by decide +kernel
theorem dX9_payContracts_2 : decode cX9_payContracts 2 = .ok (.iload_n 1, 1) := by decide +kernel
theorem dX9_payContracts_3 : decode cX9_payContracts 3 = .ok (.bipush 10, 2) := by decide +kernel
theorem dX9_payContracts_5 : decode cX9_payContracts 5 = .ok (.if_icmp .ge 47, 3) := by decide +kernel
theorem dX9_payContracts_8 : decode cX9_payContracts 8 = .ok (.aload_n 0, 1) := by decide +kernel
theorem dX9_payContracts_9 : decode cX9_payContracts 9 = .ok (.getfield 11, 3) := by decide +kernel
theorem dX9_payContracts_12 : decode cX9_payContracts 12 = .ok (.iload_n 1, 1) := by decide +kernel
theorem dX9_payContracts_13 : decode cX9_payContracts 13 = .ok (.aaload, 1) := by decide +kernel
theorem dX9_payContracts_14 : decode cX9_payContracts 14 = .ok (.astore_n 2, 1) := by decide +kernel
theorem dX9_payContracts_15 : decode cX9_payContracts 15 = .ok (.aload_n 2, 1) := by decide +kernel
theorem dX9_payContracts_16 : decode cX9_payContracts 16 = .ok (.getfield 63, 3) := by decide +kernel
theorem dX9_payContracts_19 : decode cX9_payContracts 19 = .ok (.ifCond .le 27, 3) := by decide +kernel
theorem dX9_payContracts_22 : decode cX9_payContracts 22 = .ok (.aload_n 0, 1) := by decide +kernel
theorem dX9_payContracts_23 : decode cX9_payContracts 23 = .ok (.dup, 1) := by decide +kernel
theorem dX9_payContracts_24 : decode cX9_payContracts 24 = .ok (.getfield 153, 3) := by decide +kernel
theorem dX9_payContracts_27 : decode cX9_payContracts 27 = .ok (.aload_n 2, 1) := by decide +kernel
theorem dX9_payContracts_28 : decode cX9_payContracts 28 = .ok (.getfield 93, 3) := by decide +kernel
theorem dX9_payContracts_31 : decode cX9_payContracts 31 = .ok (.i2l, 1) := by decide +kernel
theorem dX9_payContracts_32 : decode cX9_payContracts 32 = .ok (.ladd, 1) := by decide +kernel
theorem dX9_payContracts_33 : decode cX9_payContracts 33 = .ok (.putfield 153, 3) := by decide +kernel
theorem dX9_payContracts_36 : decode cX9_payContracts 36 = .ok (.aload_n 2, 1) := by decide +kernel
theorem dX9_payContracts_37 : decode cX9_payContracts 37 = .ok (.dup, 1) := by decide +kernel
theorem dX9_payContracts_38 : decode cX9_payContracts 38 = .ok (.getfield 63, 3) := by decide +kernel
theorem dX9_payContracts_41 : decode cX9_payContracts 41 = .ok (.iconst 1, 1) := by decide +kernel
theorem dX9_payContracts_42 : decode cX9_payContracts 42 = .ok (.isub, 1) := by decide +kernel
theorem dX9_payContracts_43 : decode cX9_payContracts 43 = .ok (.putfield 63, 3) := by decide +kernel
theorem dX9_payContracts_46 : decode cX9_payContracts 46 = .ok (.iinc 1 1, 3) := by decide +kernel
theorem dX9_payContracts_49 : decode cX9_payContracts 49 = .ok (.goto (-47), 3) := by decide +kernel
theorem dX9_payContracts_52 : decode cX9_payContracts 52 = .ok (.return_, 1) := by decide +kernel
theorem dX9_well_0 : decode cX9_well 0 = .ok (.aload_n 0, 1) := by decide +kernel
theorem dX9_well_1 : decode cX9_well 1 = .ok (.iload_n 1, 1) := by decide +kernel
theorem dX9_well_2 : decode cX9_well 2 = .ok (.invokevirtual 52, 3) := by decide +kernel
theorem dX9_well_5 : decode cX9_well 5 = .ok (.astore_n 3, 1) := by decide +kernel
theorem dX9_well_6 : decode cX9_well 6 = .ok (.iload_n 2, 1) := by decide +kernel
theorem dX9_well_7 : decode cX9_well 7 = .ok (.iconst 0, 1) := by decide +kernel
theorem dX9_well_8 : decode cX9_well 8 = .ok (.sipush 10000, 3) := by decide +kernel
theorem dX9_well_11 : decode cX9_well 11 = .ok (.invokestatic 56, 3) := by decide +kernel
theorem dX9_well_14 : decode cX9_well 14 = .ok (.aload_n 0, 1) := by decide +kernel
theorem dX9_well_15 : decode cX9_well 15 = .ok (.getfield 112, 3) := by decide +kernel
theorem dX9_well_18 : decode cX9_well 18 = .ok (.bipush 6, 2) := by decide +kernel
theorem dX9_well_20 : decode cX9_well 20 = .ok (.if_icmp .ge 7, 3) := by decide +kernel
theorem dX9_well_23 : decode cX9_well 23 = .ok (.iconst 1, 1) := by decide +kernel
theorem dX9_well_24 : decode cX9_well 24 = .ok (.goto 4, 3) := by decide +kernel
theorem dX9_well_27 : decode cX9_well 27 = .ok (.iconst 0, 1) := by decide +kernel
theorem dX9_well_28 : decode cX9_well 28 = .ok (.invokestatic 66, 3) := by decide +kernel
theorem dX9_well_31 : decode cX9_well 31 = .ok (.aload_n 0, 1) := by decide +kernel
theorem dX9_well_32 : decode cX9_well 32 = .ok (.getfield 112, 3) := by decide +kernel
theorem dX9_well_35 : decode cX9_well 35 = .ok (.istore 4, 2) := by decide +kernel
theorem dX9_well_37 : decode cX9_well 37 = .ok (.aload_n 0, 1) := by decide +kernel
theorem dX9_well_38 : decode cX9_well 38 = .ok (.getfield 24, 3) := by decide +kernel
theorem dX9_well_41 : decode cX9_well 41 = .ok (.iload 4, 2) := by decide +kernel
theorem dX9_well_43 : decode cX9_well 43 = .ok (.new 22, 3) := by decide +kernel
theorem dX9_well_46 : decode cX9_well 46 = .ok (.dup, 1) := by decide +kernel
theorem dX9_well_47 : decode cX9_well 47 = .ok (.aload_n 3, 1) := by decide +kernel
theorem dX9_well_48 : decode cX9_well 48 = .ok (.iload_n 2, 1) := by decide +kernel
theorem dX9_well_49 : decode cX9_well 49 = .ok (.invokespecial 156, 3) := by decide +kernel
theorem dX9_well_52 : decode cX9_well 52 = .ok (.aastore, 1) := by decide +kernel
theorem dX9_well_53 : decode cX9_well 53 = .ok (.aload_n 0, 1) := by decide +kernel
theorem dX9_well_54 : decode cX9_well 54 = .ok (.dup, 1) := by decide +kernel
theorem dX9_well_55 : decode cX9_well 55 = .ok (.getfield 112, 3) := by decide +kernel
theorem dX9_well_58 : decode cX9_well 58 = .ok (.iconst 1, 1) := by decide +kernel
theorem dX9_well_59 : decode cX9_well 59 = .ok (.iadd, 1) := by decide +kernel
theorem dX9_well_60 : decode cX9_well 60 = .ok (.putfield 112, 3) := by decide +kernel
theorem dX9_well_63 : decode cX9_well 63 = .ok (.iload 4, 2) := by decide +kernel
theorem dX9_well_65 : decode cX9_well 65 = .ok (.ireturn, 1) := by decide +kernel
theorem dX9_drought_0 : decode cX9_drought 0 = .ok (.aload_n 0, 1) := by decide +kernel
theorem dX9_drought_1 : decode cX9_drought 1 = .ok (.iload_n 1, 1) := by decide +kernel
theorem dX9_drought_2 : decode cX9_drought 2 = .ok (.invokevirtual 52, 3) := by decide +kernel
theorem dX9_drought_5 : decode cX9_drought 5 = .ok (.astore 4, 2) := by decide +kernel
theorem dX9_drought_7 : decode cX9_drought 7 = .ok (.iload_n 2, 1) := by decide +kernel
theorem dX9_drought_8 : decode cX9_drought 8 = .ok (.iconst 0, 1) := by decide +kernel
theorem dX9_drought_9 : decode cX9_drought 9 = .ok (.ldc 159, 2) := by decide +kernel
theorem dX9_drought_11 : decode cX9_drought 11 = .ok (.invokestatic 56, 3) := by decide +kernel
theorem dX9_drought_14 : decode cX9_drought 14 = .ok (.iload_n 3, 1) := by decide +kernel
theorem dX9_drought_15 : decode cX9_drought 15 = .ok (.iconst 0, 1) := by decide +kernel
theorem dX9_drought_16 : decode cX9_drought 16 = .ok (.iload_n 2, 1) := by decide +kernel
theorem dX9_drought_17 : decode cX9_drought 17 = .ok (.invokestatic 56, 3) := by decide +kernel
theorem dX9_drought_20 : decode cX9_drought 20 = .ok (.aload_n 0, 1) := by decide +kernel
theorem dX9_drought_21 : decode cX9_drought 21 = .ok (.aload 4, 2) := by decide +kernel
theorem dX9_drought_23 : decode cX9_drought 23 = .ok (.putfield 18, 3) := by decide +kernel
theorem dX9_drought_26 : decode cX9_drought 26 = .ok (.aload_n 0, 1) := by decide +kernel
theorem dX9_drought_27 : decode cX9_drought 27 = .ok (.iload_n 2, 1) := by decide +kernel
theorem dX9_drought_28 : decode cX9_drought 28 = .ok (.putfield 160, 3) := by decide +kernel
theorem dX9_drought_31 : decode cX9_drought 31 = .ok (.aload_n 0, 1) := by decide +kernel
theorem dX9_drought_32 : decode cX9_drought 32 = .ok (.iload_n 3, 1) := by decide +kernel
theorem dX9_drought_33 : decode cX9_drought 33 = .ok (.putfield 163, 3) := by decide +kernel
theorem dX9_drought_36 : decode cX9_drought 36 = .ok (.return_, 1) := by decide +kernel
theorem dX9_share_0 : decode cX9_share 0 = .ok (.iload_n 1, 1) := by decide +kernel
theorem dX9_share_1 : decode cX9_share 1 = .ok (.iconst 0, 1) := by decide +kernel
theorem dX9_share_2 : decode cX9_share 2 = .ok (.bipush 100, 2) := by decide +kernel
theorem dX9_share_4 : decode cX9_share 4 = .ok (.invokestatic 56, 3) := by decide +kernel
theorem dX9_share_7 : decode cX9_share 7 = .ok (.aload_n 0, 1) := by decide +kernel
theorem dX9_share_8 : decode cX9_share 8 = .ok (.getfield 48, 3) := by decide +kernel
theorem dX9_share_11 : decode cX9_share 11 = .ok (.istore_n 2, 1) := by decide +kernel
theorem dX9_share_12 : decode cX9_share 12 = .ok (.aload_n 0, 1) := by decide +kernel
theorem dX9_share_13 : decode cX9_share 13 = .ok (.iload_n 1, 1) := by decide +kernel
theorem dX9_share_14 : decode cX9_share 14 = .ok (.putfield 48, 3) := by decide +kernel
theorem dX9_share_17 : decode cX9_share 17 = .ok (.iload_n 2, 1) := by decide +kernel
theorem dX9_share_18 : decode cX9_share 18 = .ok (.ireturn, 1) := by decide +kernel
theorem dX9_bottle_0 : decode cX9_bottle 0 = .ok (.aload_n 0, 1) := by decide +kernel
theorem dX9_bottle_1 : decode cX9_bottle 1 = .ok (.iload_n 1, 1) := by decide +kernel
theorem dX9_bottle_2 : decode cX9_bottle 2 = .ok (.invokevirtual 166, 3) := by decide +kernel
theorem dX9_bottle_5 : decode cX9_bottle 5 = .ok (.astore_n 3, 1) := by decide +kernel
theorem dX9_bottle_6 : decode cX9_bottle 6 = .ok (.iload_n 2, 1) := by decide +kernel
theorem dX9_bottle_7 : decode cX9_bottle 7 = .ok (.iconst 1, 1) := by decide +kernel
theorem dX9_bottle_8 : decode cX9_bottle 8 = .ok (.sipush 1000, 3) := by decide +kernel
theorem dX9_bottle_11 : decode cX9_bottle 11 = .ok (.invokestatic 56, 3) := by decide +kernel
theorem dX9_bottle_14 : decode cX9_bottle 14 = .ok (.aload_n 3, 1) := by decide +kernel
theorem dX9_bottle_15 : decode cX9_bottle 15 = .ok (.getfield 170, 3) := by decide +kernel
theorem dX9_bottle_18 : decode cX9_bottle 18 = .ok (.getfield 124, 3) := by decide +kernel
theorem dX9_bottle_21 : decode cX9_bottle 21 = .ok (.astore 4, 2) := by decide +kernel
theorem dX9_bottle_23 : decode cX9_bottle 23 = .ok (.iload_n 2, 1) := by decide +kernel
theorem dX9_bottle_24 : decode cX9_bottle 24 = .ok (.aload_n 0, 1) := by decide +kernel
theorem dX9_bottle_25 : decode cX9_bottle 25 = .ok (.aload_n 3, 1) := by decide +kernel
theorem dX9_bottle_26 : decode cX9_bottle 26 = .ok (.invokevirtual 173, 3) := by decide +kernel
theorem dX9_bottle_29 : decode cX9_bottle 29 = .ok (.if_icmp .gt 25, 3) := by decide +kernel
theorem dX9_bottle_32 : decode cX9_bottle 32 = .ok (.iload_n 2, 1) := by decide +kernel
theorem dX9_bottle_33 : decode cX9_bottle 33 = .ok (.aload 4, 2) := by decide +kernel
theorem dX9_bottle_35 : decode cX9_bottle 35 = .ok (.getfield 142, 3) := by decide +kernel
theorem dX9_bottle_38 : decode cX9_bottle 38 = .ok (.if_icmp .gt 16, 3) := by decide +kernel
theorem dX9_bottle_41 : decode cX9_bottle 41 = .ok (.aload_n 0, 1) := by decide +kernel
theorem dX9_bottle_42 : decode cX9_bottle 42 = .ok (.getfield 177, 3) := by decide +kernel
theorem dX9_bottle_45 : decode cX9_bottle 45 = .ok (.bipush 40, 2) := by decide +kernel
theorem dX9_bottle_47 : decode cX9_bottle 47 = .ok (.if_icmp .ge 7, 3) := by decide +kernel
theorem dX9_bottle_50 : decode cX9_bottle 50 = .ok (.iconst 1, 1) := by decide +kernel
theorem dX9_bottle_51 : decode cX9_bottle 51 = .ok (.goto 4, 3) := by decide +kernel
theorem dX9_bottle_54 : decode cX9_bottle 54 = .ok (.iconst 0, 1) := by decide +kernel
theorem dX9_bottle_55 : decode cX9_bottle 55 = .ok (.invokestatic 66, 3) := by decide +kernel
theorem dX9_bottle_58 : decode cX9_bottle 58 = .ok (.aload_n 0, 1) := by decide +kernel
theorem dX9_bottle_59 : decode cX9_bottle 59 = .ok (.getfield 177, 3) := by decide +kernel
theorem dX9_bottle_62 : decode cX9_bottle 62 = .ok (.istore 5, 2) := by decide +kernel
theorem dX9_bottle_64 : decode cX9_bottle 64 = .ok (.aload_n 0, 1) := by decide +kernel
theorem dX9_bottle_65 : decode cX9_bottle 65 = .ok (.getfield 30, 3) := by decide +kernel
theorem dX9_bottle_68 : decode cX9_bottle 68 = .ok (.iload 5, 2) := by decide +kernel
theorem dX9_bottle_70 : decode cX9_bottle 70 = .ok (.new 28, 3) := by decide +kernel
theorem dX9_bottle_73 : decode cX9_bottle 73 = .ok (.dup, 1) := by decide +kernel
theorem dX9_bottle_74 : decode cX9_bottle 74 = .ok (.iload_n 1, 1) := by decide +kernel
theorem dX9_bottle_75 : decode cX9_bottle 75 = .ok (.aload_n 0, 1) := by decide +kernel
theorem dX9_bottle_76 : decode cX9_bottle 76 = .ok (.getfield 96, 3) := by decide +kernel
theorem dX9_bottle_79 : decode cX9_bottle 79 = .ok (.aload 4, 2) := by decide +kernel
theorem dX9_bottle_81 : decode cX9_bottle 81 = .ok (.iload_n 2, 1) := by decide +kernel
theorem dX9_bottle_82 : decode cX9_bottle 82 = .ok (.invokevirtual 127, 3) := by decide +kernel
theorem dX9_bottle_85 : decode cX9_bottle 85 = .ok (.invokespecial 180, 3) := by decide +kernel
theorem dX9_bottle_88 : decode cX9_bottle 88 = .ok (.aastore, 1) := by decide +kernel
theorem dX9_bottle_89 : decode cX9_bottle 89 = .ok (.aload_n 0, 1) := by decide +kernel
theorem dX9_bottle_90 : decode cX9_bottle 90 = .ok (.dup, 1) := by decide +kernel
theorem dX9_bottle_91 : decode cX9_bottle 91 = .ok (.getfield 177, 3) := by decide +kernel
theorem dX9_bottle_94 : decode cX9_bottle 94 = .ok (.iconst 1, 1) := by decide +kernel
theorem dX9_bottle_95 : decode cX9_bottle 95 = .ok (.iadd, 1) := by decide +kernel
theorem dX9_bottle_96 : decode cX9_bottle 96 = .ok (.putfield 177, 3) := by decide +kernel
theorem dX9_bottle_99 : decode cX9_bottle 99 = .ok (.aload_n 3, 1) := by decide +kernel
theorem dX9_bottle_100 : decode cX9_bottle 100 = .ok (.dup, 1) := by decide +kernel
theorem dX9_bottle_101 : decode cX9_bottle 101 = .ok (.getfield 115, 3) := by decide +kernel
theorem dX9_bottle_104 : decode cX9_bottle 104 = .ok (.iload_n 2, 1) := by decide +kernel
theorem dX9_bottle_105 : decode cX9_bottle 105 = .ok (.iadd, 1) := by decide +kernel
theorem dX9_bottle_106 : decode cX9_bottle 106 = .ok (.putfield 115, 3) := by decide +kernel
theorem dX9_bottle_109 : decode cX9_bottle 109 = .ok (.aload_n 0, 1) := by decide +kernel
theorem dX9_bottle_110 : decode cX9_bottle 110 = .ok (.dup, 1) := by decide +kernel
theorem dX9_bottle_111 : decode cX9_bottle 111 = .ok (.getfield 183, 3) := by decide +kernel
theorem dX9_bottle_114 : decode cX9_bottle 114 = .ok (.iload_n 2, 1) := by decide +kernel
theorem dX9_bottle_115 : decode cX9_bottle 115 = .ok (.i2l, 1) := by decide +kernel
theorem dX9_bottle_116 : decode cX9_bottle 116 = .ok (.aload_n 0, 1) := by decide +kernel
theorem dX9_bottle_117 : decode cX9_bottle 117 = .ok (.getfield 48, 3) := by decide +kernel
theorem dX9_bottle_120 : decode cX9_bottle 120 = .ok (.i2l, 1) := by decide +kernel
theorem dX9_bottle_121 : decode cX9_bottle 121 = .ok (.lmul, 1) := by decide +kernel
theorem dX9_bottle_122 : decode cX9_bottle 122 = .ok (.ladd, 1) := by decide +kernel
theorem dX9_bottle_123 : decode cX9_bottle 123 = .ok (.putfield 183, 3) := by decide +kernel
theorem dX9_bottle_126 : decode cX9_bottle 126 = .ok (.aload_n 0, 1) := by decide +kernel
theorem dX9_bottle_127 : decode cX9_bottle 127 = .ok (.getfield 44, 3) := by decide +kernel
theorem dX9_bottle_130 : decode cX9_bottle 130 = .ok (.aload_n 3, 1) := by decide +kernel
theorem dX9_bottle_131 : decode cX9_bottle 131 = .ok (.getfield 170, 3) := by decide +kernel
theorem dX9_bottle_134 : decode cX9_bottle 134 = .ok (.getfield 186, 3) := by decide +kernel
theorem dX9_bottle_137 : decode cX9_bottle 137 = .ok (.bipush 10, 2) := by decide +kernel
theorem dX9_bottle_139 : decode cX9_bottle 139 = .ok (.iload 5, 2) := by decide +kernel
theorem dX9_bottle_141 : decode cX9_bottle 141 = .ok (.iadd, 1) := by decide +kernel
theorem dX9_bottle_142 : decode cX9_bottle 142 = .ok (.iload_n 2, 1) := by decide +kernel
theorem dX9_bottle_143 : decode cX9_bottle 143 = .ok (.invokevirtual 135, 3) := by decide +kernel
theorem dX9_bottle_146 : decode cX9_bottle 146 = .ok (.iload 5, 2) := by decide +kernel
theorem dX9_bottle_148 : decode cX9_bottle 148 = .ok (.ireturn, 1) := by decide +kernel
theorem dX9_mayTakeStill_0 : decode cX9_mayTakeStill 0 = .ok (.aload_n 0, 1) := by decide +kernel
theorem dX9_mayTakeStill_1 : decode cX9_mayTakeStill 1 = .ok (.getfield 18, 3) := by decide +kernel
theorem dX9_mayTakeStill_4 : decode cX9_mayTakeStill 4 = .ok (.getfield 124, 3) := by decide +kernel
theorem dX9_mayTakeStill_7 : decode cX9_mayTakeStill 7 = .ok (.getfield 142, 3) := by decide +kernel
theorem dX9_mayTakeStill_10 : decode cX9_mayTakeStill 10 = .ok (.istore_n 2, 1) := by decide +kernel
theorem dX9_mayTakeStill_11 : decode cX9_mayTakeStill 11 = .ok (.aload_n 1, 1) := by decide +kernel
theorem dX9_mayTakeStill_12 : decode cX9_mayTakeStill 12 = .ok (.getfield 189, 3) := by decide +kernel
theorem dX9_mayTakeStill_15 : decode cX9_mayTakeStill 15 = .ok (.istore_n 3, 1) := by decide +kernel
theorem dX9_mayTakeStill_16 : decode cX9_mayTakeStill 16 = .ok (.iload_n 2, 1) := by decide +kernel
theorem dX9_mayTakeStill_17 : decode cX9_mayTakeStill 17 = .ok (.aload_n 0, 1) := by decide +kernel
theorem dX9_mayTakeStill_18 : decode cX9_mayTakeStill 18 = .ok (.getfield 163, 3) := by decide +kernel
theorem dX9_mayTakeStill_21 : decode cX9_mayTakeStill 21 = .ok (.if_icmp .ge 8, 3) := by decide +kernel
theorem dX9_mayTakeStill_24 : decode cX9_mayTakeStill 24 = .ok (.iconst 0, 1) := by decide +kernel
theorem dX9_mayTakeStill_25 : decode cX9_mayTakeStill 25 = .ok (.istore_n 3, 1) := by decide +kernel
theorem dX9_mayTakeStill_26 : decode cX9_mayTakeStill 26 = .ok (.goto 18, 3) := by decide +kernel
theorem dX9_mayTakeStill_29 : decode cX9_mayTakeStill 29 = .ok (.iload_n 2, 1) := by decide +kernel
theorem dX9_mayTakeStill_30 : decode cX9_mayTakeStill 30 = .ok (.aload_n 0, 1) := by decide +kernel
theorem dX9_mayTakeStill_31 : decode cX9_mayTakeStill 31 = .ok (.getfield 160, 3) := by decide +kernel
theorem dX9_mayTakeStill_34 : decode cX9_mayTakeStill 34 = .ok (.if_icmp .ge 10, 3) := by decide +kernel
theorem dX9_mayTakeStill_37 : decode cX9_mayTakeStill 37 = .ok (.aload_n 1, 1) := by decide +kernel
theorem dX9_mayTakeStill_38 : decode cX9_mayTakeStill 38 = .ok (.getfield 189, 3) := by decide +kernel
theorem dX9_mayTakeStill_41 : decode cX9_mayTakeStill 41 = .ok (.iconst 2, 1) := by decide +kernel
theorem dX9_mayTakeStill_42 : decode cX9_mayTakeStill 42 = .ok (.idiv, 1) := by decide +kernel
theorem dX9_mayTakeStill_43 : decode cX9_mayTakeStill 43 = .ok (.istore_n 3, 1) := by decide +kernel
theorem dX9_mayTakeStill_44 : decode cX9_mayTakeStill 44 = .ok (.iconst 0, 1) := by decide +kernel
theorem dX9_mayTakeStill_45 : decode cX9_mayTakeStill 45 = .ok (.iload_n 3, 1) := by decide +kernel
theorem dX9_mayTakeStill_46 : decode cX9_mayTakeStill 46 = .ok (.aload_n 1, 1) := by decide +kernel
theorem dX9_mayTakeStill_47 : decode cX9_mayTakeStill 47 = .ok (.getfield 115, 3) := by decide +kernel
theorem dX9_mayTakeStill_50 : decode cX9_mayTakeStill 50 = .ok (.isub, 1) := by decide +kernel
theorem dX9_mayTakeStill_51 : decode cX9_mayTakeStill 51 = .ok (.invokestatic 192, 3) := by decide +kernel
theorem dX9_mayTakeStill_54 : decode cX9_mayTakeStill 54 = .ok (.ireturn, 1) := by decide +kernel
theorem dX9_treat_0 : decode cX9_treat 0 = .ok (.aload_n 0, 1) := by decide +kernel
theorem dX9_treat_1 : decode cX9_treat 1 = .ok (.iload_n 1, 1) := by decide +kernel
theorem dX9_treat_2 : decode cX9_treat 2 = .ok (.invokevirtual 198, 3) := by decide +kernel
theorem dX9_treat_5 : decode cX9_treat 5 = .ok (.astore_n 3, 1) := by decide +kernel
theorem dX9_treat_6 : decode cX9_treat 6 = .ok (.iload_n 2, 1) := by decide +kernel
theorem dX9_treat_7 : decode cX9_treat 7 = .ok (.bipush 6, 2) := by decide +kernel
theorem dX9_treat_9 : decode cX9_treat 9 = .ok (.invokestatic 83, 3) := by decide +kernel
theorem dX9_treat_12 : decode cX9_treat 12 = .ok (.aload_n 3, 1) := by decide +kernel
theorem dX9_treat_13 : decode cX9_treat 13 = .ok (.getfield 202, 3) := by decide +kernel
theorem dX9_treat_16 : decode cX9_treat 16 = .ok (.iconst (-1), 1) := by decide +kernel
theorem dX9_treat_17 : decode cX9_treat 17 = .ok (.if_icmp .ne 7, 3) := by decide +kernel
theorem dX9_treat_20 : decode cX9_treat 20 = .ok (.iconst 1, 1) := by decide +kernel
theorem dX9_treat_21 : decode cX9_treat 21 = .ok (.goto 4, 3) := by decide +kernel
theorem dX9_treat_24 : decode cX9_treat 24 = .ok (.iconst 0, 1) := by decide +kernel
theorem dX9_treat_25 : decode cX9_treat 25 = .ok (.invokestatic 66, 3) := by decide +kernel
theorem dX9_treat_28 : decode cX9_treat 28 = .ok (.aload_n 3, 1) := by decide +kernel
theorem dX9_treat_29 : decode cX9_treat 29 = .ok (.dup, 1) := by decide +kernel
theorem dX9_treat_30 : decode cX9_treat 30 = .ok (.getfield 205, 3) := by decide +kernel
theorem dX9_treat_33 : decode cX9_treat 33 = .ok (.iconst 1, 1) := by decide +kernel
theorem dX9_treat_34 : decode cX9_treat 34 = .ok (.iload_n 2, 1) := by decide +kernel
theorem dX9_treat_35 : decode cX9_treat 35 = .ok (.ishl, 1) := by decide +kernel
theorem dX9_treat_36 : decode cX9_treat 36 = .ok (.ior, 1) := by decide +kernel
theorem dX9_treat_37 : decode cX9_treat 37 = .ok (.putfield 205, 3) := by decide +kernel
theorem dX9_treat_40 : decode cX9_treat 40 = .ok (.aload_n 3, 1) := by decide +kernel
theorem dX9_treat_41 : decode cX9_treat 41 = .ok (.getfield 205, 3) := by decide +kernel
theorem dX9_treat_44 : decode cX9_treat 44 = .ok (.ireturn, 1) := by decide +kernel
theorem dX9_label_0 : decode cX9_label 0 = .ok (.aload_n 0, 1) := by decide +kernel
theorem dX9_label_1 : decode cX9_label 1 = .ok (.iload_n 1, 1) := by decide +kernel
theorem dX9_label_2 : decode cX9_label 2 = .ok (.invokevirtual 198, 3) := by decide +kernel
theorem dX9_label_5 : decode cX9_label 5 = .ok (.astore_n 3, 1) := by decide +kernel
theorem dX9_label_6 : decode cX9_label 6 = .ok (.iload_n 2, 1) := by decide +kernel
theorem dX9_label_7 : decode cX9_label 7 = .ok (.iconst 0, 1) := by decide +kernel
theorem dX9_label_8 : decode cX9_label 8 = .ok (.iconst 2, 1) := by decide +kernel
theorem dX9_label_9 : decode cX9_label 9 = .ok (.invokestatic 56, 3) := by decide +kernel
theorem dX9_label_12 : decode cX9_label 12 = .ok (.aload_n 3, 1) := by decide +kernel
theorem dX9_label_13 : decode cX9_label 13 = .ok (.getfield 202, 3) := by decide +kernel
theorem dX9_label_16 : decode cX9_label 16 = .ok (.iconst (-1), 1) := by decide +kernel
theorem dX9_label_17 : decode cX9_label 17 = .ok (.if_icmp .ne 7, 3) := by decide +kernel
theorem dX9_label_20 : decode cX9_label 20 = .ok (.iconst 1, 1) := by decide +kernel
theorem dX9_label_21 : decode cX9_label 21 = .ok (.goto 4, 3) := by decide +kernel
theorem dX9_label_24 : decode cX9_label 24 = .ok (.iconst 0, 1) := by decide +kernel
theorem dX9_label_25 : decode cX9_label 25 = .ok (.invokestatic 66, 3) := by decide +kernel
theorem dX9_label_28 : decode cX9_label 28 = .ok (.aload_n 3, 1) := by decide +kernel
theorem dX9_label_29 : decode cX9_label 29 = .ok (.iload_n 2, 1) := by decide +kernel
theorem dX9_label_30 : decode cX9_label 30 = .ok (.putfield 202, 3) := by decide +kernel
theorem dX9_label_33 : decode cX9_label 33 = .ok (.aload_n 3, 1) := by decide +kernel
theorem dX9_label_34 : decode cX9_label 34 = .ok (.aload_n 3, 1) := by decide +kernel
theorem dX9_label_35 : decode cX9_label 35 = .ok (.iload_n 2, 1) := by decide +kernel
theorem dX9_label_36 : decode cX9_label 36 = .ok (.aload_n 0, 1) := by decide +kernel
theorem dX9_label_37 : decode cX9_label 37 = .ok (.getfield 208, 3) := by decide +kernel
theorem dX9_label_40 : decode cX9_label 40 = .ok (.invokevirtual 211, 3) := by decide +kernel
theorem dX9_label_43 : decode cX9_label 43 = .ok (.putfield 215, 3) := by decide +kernel
theorem dX9_label_46 : decode cX9_label 46 = .ok (.aload_n 3, 1) := by decide +kernel
theorem dX9_label_47 : decode cX9_label 47 = .ok (.getfield 215, 3) := by decide +kernel
theorem dX9_label_50 : decode cX9_label 50 = .ok (.ireturn, 1) := by decide +kernel
theorem dX9_forbid_0 : decode cX9_forbid 0 = .ok (.iload_n 1, 1) := by decide +kernel
theorem dX9_forbid_1 : decode cX9_forbid 1 = .ok (.bipush 6, 2) := by decide +kernel
theorem dX9_forbid_3 : decode cX9_forbid 3 = .ok (.invokestatic 83, 3) := by decide +kernel
theorem dX9_forbid_6 : decode cX9_forbid 6 = .ok (.iconst 1, 1) := by decide +kernel
theorem dX9_forbid_7 : decode cX9_forbid 7 = .ok (.iload_n 1, 1) := by decide +kernel
theorem dX9_forbid_8 : decode cX9_forbid 8 = .ok (.ishl, 1) := by decide +kernel
theorem dX9_forbid_9 : decode cX9_forbid 9 = .ok (.istore_n 2, 1) := by decide +kernel
theorem dX9_forbid_10 : decode cX9_forbid 10 = .ok (.aload_n 0, 1) := by decide +kernel
theorem dX9_forbid_11 : decode cX9_forbid 11 = .ok (.getfield 208, 3) := by decide +kernel
theorem dX9_forbid_14 : decode cX9_forbid 14 = .ok (.iload_n 2, 1) := by decide +kernel
theorem dX9_forbid_15 : decode cX9_forbid 15 = .ok (.iand, 1) := by decide +kernel
theorem dX9_forbid_16 : decode cX9_forbid 16 = .ok (.ifCond .ne 7, 3) := by decide +kernel
theorem dX9_forbid_19 : decode cX9_forbid 19 = .ok (.iconst 1, 1) := by decide +kernel
theorem dX9_forbid_20 : decode cX9_forbid 20 = .ok (.goto 4, 3) := by decide +kernel
theorem dX9_forbid_23 : decode cX9_forbid 23 = .ok (.iconst 0, 1) := by decide +kernel
theorem dX9_forbid_24 : decode cX9_forbid 24 = .ok (.invokestatic 66, 3) := by decide +kernel
theorem dX9_forbid_27 : decode cX9_forbid 27 = .ok (.aload_n 0, 1) := by decide +kernel
theorem dX9_forbid_28 : decode cX9_forbid 28 = .ok (.dup, 1) := by decide +kernel
theorem dX9_forbid_29 : decode cX9_forbid 29 = .ok (.getfield 208, 3) := by decide +kernel
theorem dX9_forbid_32 : decode cX9_forbid 32 = .ok (.iload_n 2, 1) := by decide +kernel
theorem dX9_forbid_33 : decode cX9_forbid 33 = .ok (.ior, 1) := by decide +kernel
theorem dX9_forbid_34 : decode cX9_forbid 34 = .ok (.putfield 208, 3) := by decide +kernel
theorem dX9_forbid_37 : decode cX9_forbid 37 = .ok (.iconst 0, 1) := by decide +kernel
theorem dX9_forbid_38 : decode cX9_forbid 38 = .ok (.istore_n 3, 1) := by decide +kernel
theorem dX9_forbid_39 : decode cX9_forbid 39 = .ok (.iconst 0, 1) := by decide +kernel
theorem dX9_forbid_40 : decode cX9_forbid 40 = .ok (.istore 4, 2) := by decide +kernel
theorem dX9_forbid_42 : decode cX9_forbid 42 = .ok (.iload 4, 2) := by decide +kernel
theorem dX9_forbid_44 : decode cX9_forbid 44 = .ok (.aload_n 0, 1) := by decide +kernel
theorem dX9_forbid_45 : decode cX9_forbid 45 = .ok (.getfield 177, 3) := by decide +kernel
theorem dX9_forbid_48 : decode cX9_forbid 48 = .ok (.if_icmp .ge 37, 3) := by decide +kernel
theorem dX9_forbid_51 : decode cX9_forbid 51 = .ok (.aload_n 0, 1) := by decide +kernel
theorem dX9_forbid_52 : decode cX9_forbid 52 = .ok (.getfield 30, 3) := by decide +kernel
theorem dX9_forbid_55 : decode cX9_forbid 55 = .ok (.iload 4, 2) := by decide +kernel
theorem dX9_forbid_57 : decode cX9_forbid 57 = .ok (.aaload, 1) := by decide +kernel
theorem dX9_forbid_58 : decode cX9_forbid 58 = .ok (.iload_n 2, 1) := by decide +kernel
theorem dX9_forbid_59 : decode cX9_forbid 59 = .ok (.invokevirtual 219, 3) := by decide +kernel
theorem dX9_forbid_62 : decode cX9_forbid 62 = .ok (.ifCond .eq 17, 3) := by decide +kernel
theorem dX9_forbid_65 : decode cX9_forbid 65 = .ok (.aload_n 0, 1) := by decide +kernel
theorem dX9_forbid_66 : decode cX9_forbid 66 = .ok (.getfield 30, 3) := by decide +kernel
theorem dX9_forbid_69 : decode cX9_forbid 69 = .ok (.iload 4, 2) := by decide +kernel
theorem dX9_forbid_71 : decode cX9_forbid 71 = .ok (.aaload, 1) := by decide +kernel
theorem dX9_forbid_72 : decode cX9_forbid 72 = .ok (.iconst 1, 1) := by decide +kernel
theorem dX9_forbid_73 : decode cX9_forbid 73 = .ok (.putfield 223, 3) := by decide +kernel
theorem dX9_forbid_76 : decode cX9_forbid 76 = .ok (.iinc 3 1, 3) := by decide +kernel
theorem dX9_forbid_79 : decode cX9_forbid 79 = .ok (.iinc 4 1, 3) := by decide +kernel
theorem dX9_forbid_82 : decode cX9_forbid 82 = .ok (.goto (-40), 3) := by decide +kernel
theorem dX9_forbid_85 : decode cX9_forbid 85 = .ok (.iload_n 3, 1) := by decide +kernel
theorem dX9_forbid_86 : decode cX9_forbid 86 = .ok (.ireturn, 1) := by decide +kernel
theorem dX9_year_0 : decode cX9_year 0 = .ok (.aload_n 0, 1) := by decide +kernel
theorem dX9_year_1 : decode cX9_year 1 = .ok (.getfield 96, 3) := by decide +kernel
theorem dX9_year_4 : decode cX9_year 4 = .ok (.ireturn, 1) := by decide +kernel
theorem dX9_cellOf_0 : decode cX9_cellOf 0 = .ok (.aload_n 0, 1) := by decide +kernel
theorem dX9_cellOf_1 : decode cX9_cellOf 1 = .ok (.iload_n 1, 1) := by decide +kernel
theorem dX9_cellOf_2 : decode cX9_cellOf 2 = .ok (.invokevirtual 52, 3) := by decide +kernel
theorem dX9_cellOf_5 : decode cX9_cellOf 5 = .ok (.astore_n 3, 1) := by decide +kernel
theorem dX9_cellOf_6 : decode cX9_cellOf 6 = .ok (.iload_n 2, 1) := by decide +kernel
theorem dX9_cellOf_7 : decode cX9_cellOf 7 = .ok (.iconst 0, 1) := by decide +kernel
theorem dX9_cellOf_8 : decode cX9_cellOf 8 = .ok (.bipush 6, 2) := by decide +kernel
theorem dX9_cellOf_10 : decode cX9_cellOf 10 = .ok (.invokestatic 56, 3) := by decide +kernel
theorem dX9_cellOf_13 : decode cX9_cellOf 13 = .ok (.iload_n 2, 1) := by decide +kernel
theorem dX9_cellOf_14 : decode cX9_cellOf 14 = .ok (.tableswitch 71 0 5 #[38, 46, 51, 56, 61, 66], 38) := by decide +kernel
theorem dX9_cellOf_52 : decode cX9_cellOf 52 = .ok (.aload_n 3, 1) := by decide +kernel
theorem dX9_cellOf_53 : decode cX9_cellOf 53 = .ok (.getfield 124, 3) := by decide +kernel
theorem dX9_cellOf_56 : decode cX9_cellOf 56 = .ok (.getfield 142, 3) := by decide +kernel
theorem dX9_cellOf_59 : decode cX9_cellOf 59 = .ok (.ireturn, 1) := by decide +kernel
theorem dX9_cellOf_60 : decode cX9_cellOf 60 = .ok (.aload_n 3, 1) := by decide +kernel
theorem dX9_cellOf_61 : decode cX9_cellOf 61 = .ok (.getfield 60, 3) := by decide +kernel
theorem dX9_cellOf_64 : decode cX9_cellOf 64 = .ok (.ireturn, 1) := by decide +kernel
theorem dX9_cellOf_65 : decode cX9_cellOf 65 = .ok (.aload_n 3, 1) := by decide +kernel
theorem dX9_cellOf_66 : decode cX9_cellOf 66 = .ok (.getfield 70, 3) := by decide +kernel
theorem dX9_cellOf_69 : decode cX9_cellOf 69 = .ok (.ireturn, 1) := by decide +kernel
theorem dX9_cellOf_70 : decode cX9_cellOf 70 = .ok (.aload_n 3, 1) := by decide +kernel
theorem dX9_cellOf_71 : decode cX9_cellOf 71 = .ok (.invokevirtual 76, 3) := by decide +kernel
theorem dX9_cellOf_74 : decode cX9_cellOf 74 = .ok (.ireturn, 1) := by decide +kernel
theorem dX9_cellOf_75 : decode cX9_cellOf 75 = .ok (.aload_n 3, 1) := by decide +kernel
theorem dX9_cellOf_76 : decode cX9_cellOf 76 = .ok (.invokevirtual 87, 3) := by decide +kernel
theorem dX9_cellOf_79 : decode cX9_cellOf 79 = .ok (.ireturn, 1) := by decide +kernel
theorem dX9_cellOf_80 : decode cX9_cellOf 80 = .ok (.aload_n 3, 1) := by decide +kernel
theorem dX9_cellOf_81 : decode cX9_cellOf 81 = .ok (.getfield 63, 3) := by decide +kernel
theorem dX9_cellOf_84 : decode cX9_cellOf 84 = .ok (.ireturn, 1) := by decide +kernel
theorem dX9_cellOf_85 : decode cX9_cellOf 85 = .ok (.aload_n 3, 1) := by decide +kernel
theorem dX9_cellOf_86 : decode cX9_cellOf 86 = .ok (.getfield 124, 3) := by decide +kernel
theorem dX9_cellOf_89 : decode cX9_cellOf 89 = .ok (.invokevirtual 226, 3) := by decide +kernel
theorem dX9_cellOf_92 : decode cX9_cellOf 92 = .ok (.ireturn, 1) := by decide +kernel
theorem dX9_flow_0 : decode cX9_flow 0 = .ok (.iload_n 1, 1) := by decide +kernel
theorem dX9_flow_1 : decode cX9_flow 1 = .ok (.iconst 0, 1) := by decide +kernel
theorem dX9_flow_2 : decode cX9_flow 2 = .ok (.iconst 3, 1) := by decide +kernel
theorem dX9_flow_3 : decode cX9_flow 3 = .ok (.invokestatic 56, 3) := by decide +kernel
theorem dX9_flow_6 : decode cX9_flow 6 = .ok (.iload_n 1, 1) := by decide +kernel
theorem dX9_flow_7 : decode cX9_flow 7 = .ok (.tableswitch 49 0 2 #[25, 33, 41], 25) := by decide +kernel
theorem dX9_flow_32 : decode cX9_flow 32 = .ok (.aload_n 0, 1) := by decide +kernel
theorem dX9_flow_33 : decode cX9_flow 33 = .ok (.getfield 37, 3) := by decide +kernel
theorem dX9_flow_36 : decode cX9_flow 36 = .ok (.getfield 142, 3) := by decide +kernel
theorem dX9_flow_39 : decode cX9_flow 39 = .ok (.ireturn, 1) := by decide +kernel
theorem dX9_flow_40 : decode cX9_flow 40 = .ok (.aload_n 0, 1) := by decide +kernel
theorem dX9_flow_41 : decode cX9_flow 41 = .ok (.getfield 37, 3) := by decide +kernel
theorem dX9_flow_44 : decode cX9_flow 44 = .ok (.invokevirtual 229, 3) := by decide +kernel
theorem dX9_flow_47 : decode cX9_flow 47 = .ok (.ireturn, 1) := by decide +kernel
theorem dX9_flow_48 : decode cX9_flow 48 = .ok (.aload_n 0, 1) := by decide +kernel
theorem dX9_flow_49 : decode cX9_flow 49 = .ok (.getfield 37, 3) := by decide +kernel
theorem dX9_flow_52 : decode cX9_flow 52 = .ok (.invokevirtual 232, 3) := by decide +kernel
theorem dX9_flow_55 : decode cX9_flow 55 = .ok (.ireturn, 1) := by decide +kernel
theorem dX9_flow_56 : decode cX9_flow 56 = .ok (.aload_n 0, 1) := by decide +kernel
theorem dX9_flow_57 : decode cX9_flow 57 = .ok (.getfield 37, 3) := by decide +kernel
theorem dX9_flow_60 : decode cX9_flow 60 = .ok (.invokevirtual 235, 3) := by decide +kernel
theorem dX9_flow_63 : decode cX9_flow 63 = .ok (.ireturn, 1) := by decide +kernel
theorem dX9_wellOf_0 : decode cX9_wellOf 0 = .ok (.aload_n 0, 1) := by decide +kernel
theorem dX9_wellOf_1 : decode cX9_wellOf 1 = .ok (.iload_n 1, 1) := by decide +kernel
theorem dX9_wellOf_2 : decode cX9_wellOf 2 = .ok (.invokevirtual 166, 3) := by decide +kernel
theorem dX9_wellOf_5 : decode cX9_wellOf 5 = .ok (.astore_n 3, 1) := by decide +kernel
theorem dX9_wellOf_6 : decode cX9_wellOf 6 = .ok (.iload_n 2, 1) := by decide +kernel
theorem dX9_wellOf_7 : decode cX9_wellOf 7 = .ok (.iconst 0, 1) := by decide +kernel
theorem dX9_wellOf_8 : decode cX9_wellOf 8 = .ok (.iconst 3, 1) := by decide +kernel
theorem dX9_wellOf_9 : decode cX9_wellOf 9 = .ok (.invokestatic 56, 3) := by decide +kernel
theorem dX9_wellOf_12 : decode cX9_wellOf 12 = .ok (.iload_n 2, 1) := by decide +kernel
theorem dX9_wellOf_13 : decode cX9_wellOf 13 = .ok (.tableswitch 45 0 2 #[27, 35, 40], 27) := by decide +kernel
theorem dX9_wellOf_40 : decode cX9_wellOf 40 = .ok (.aload_n 3, 1) := by decide +kernel
theorem dX9_wellOf_41 : decode cX9_wellOf 41 = .ok (.getfield 170, 3) := by decide +kernel
theorem dX9_wellOf_44 : decode cX9_wellOf 44 = .ok (.getfield 186, 3) := by decide +kernel
theorem dX9_wellOf_47 : decode cX9_wellOf 47 = .ok (.ireturn, 1) := by decide +kernel
theorem dX9_wellOf_48 : decode cX9_wellOf 48 = .ok (.aload_n 3, 1) := by decide +kernel
theorem dX9_wellOf_49 : decode cX9_wellOf 49 = .ok (.getfield 189, 3) := by decide +kernel
theorem dX9_wellOf_52 : decode cX9_wellOf 52 = .ok (.ireturn, 1) := by decide +kernel
theorem dX9_wellOf_53 : decode cX9_wellOf 53 = .ok (.aload_n 3, 1) := by decide +kernel
theorem dX9_wellOf_54 : decode cX9_wellOf 54 = .ok (.getfield 115, 3) := by decide +kernel
theorem dX9_wellOf_57 : decode cX9_wellOf 57 = .ok (.ireturn, 1) := by decide +kernel
theorem dX9_wellOf_58 : decode cX9_wellOf 58 = .ok (.aload_n 0, 1) := by decide +kernel
theorem dX9_wellOf_59 : decode cX9_wellOf 59 = .ok (.aload_n 3, 1) := by decide +kernel
theorem dX9_wellOf_60 : decode cX9_wellOf 60 = .ok (.invokevirtual 173, 3) := by decide +kernel
theorem dX9_wellOf_63 : decode cX9_wellOf 63 = .ok (.ireturn, 1) := by decide +kernel
theorem dX9_lotOf_0 : decode cX9_lotOf 0 = .ok (.aload_n 0, 1) := by decide +kernel
theorem dX9_lotOf_1 : decode cX9_lotOf 1 = .ok (.iload_n 1, 1) := by decide +kernel
theorem dX9_lotOf_2 : decode cX9_lotOf 2 = .ok (.invokevirtual 198, 3) := by decide +kernel
theorem dX9_lotOf_5 : decode cX9_lotOf 5 = .ok (.astore_n 3, 1) := by decide +kernel
theorem dX9_lotOf_6 : decode cX9_lotOf 6 = .ok (.iload_n 2, 1) := by decide +kernel
theorem dX9_lotOf_7 : decode cX9_lotOf 7 = .ok (.iconst 0, 1) := by decide +kernel
theorem dX9_lotOf_8 : decode cX9_lotOf 8 = .ok (.bipush 10, 2) := by decide +kernel
theorem dX9_lotOf_10 : decode cX9_lotOf 10 = .ok (.invokestatic 56, 3) := by decide +kernel
theorem dX9_lotOf_13 : decode cX9_lotOf 13 = .ok (.iload_n 2, 1) := by decide +kernel
theorem dX9_lotOf_14 : decode cX9_lotOf 14 = .ok (.tableswitch 113 0 9 #[54, 59, 67, 75, 80, 88, 93, 98, 103, 108], 54) := by decide +kernel
theorem dX9_lotOf_68 : decode cX9_lotOf 68 = .ok (.aload_n 3, 1) := by decide +kernel
theorem dX9_lotOf_69 : decode cX9_lotOf 69 = .ok (.getfield 238, 3) := by decide +kernel
theorem dX9_lotOf_72 : decode cX9_lotOf 72 = .ok (.ireturn, 1) := by decide +kernel
theorem dX9_lotOf_73 : decode cX9_lotOf 73 = .ok (.aload_n 3, 1) := by decide +kernel
theorem dX9_lotOf_74 : decode cX9_lotOf 74 = .ok (.getfield 241, 3) := by decide +kernel
theorem dX9_lotOf_77 : decode cX9_lotOf 77 = .ok (.getfield 142, 3) := by decide +kernel
theorem dX9_lotOf_80 : decode cX9_lotOf 80 = .ok (.ireturn, 1) := by decide +kernel
theorem dX9_lotOf_81 : decode cX9_lotOf 81 = .ok (.aload_n 3, 1) := by decide +kernel
theorem dX9_lotOf_82 : decode cX9_lotOf 82 = .ok (.getfield 241, 3) := by decide +kernel
theorem dX9_lotOf_85 : decode cX9_lotOf 85 = .ok (.invokevirtual 229, 3) := by decide +kernel
theorem dX9_lotOf_88 : decode cX9_lotOf 88 = .ok (.ireturn, 1) := by decide +kernel
theorem dX9_lotOf_89 : decode cX9_lotOf 89 = .ok (.aload_n 3, 1) := by decide +kernel
theorem dX9_lotOf_90 : decode cX9_lotOf 90 = .ok (.getfield 244, 3) := by decide +kernel
theorem dX9_lotOf_93 : decode cX9_lotOf 93 = .ok (.ireturn, 1) := by decide +kernel
theorem dX9_lotOf_94 : decode cX9_lotOf 94 = .ok (.aload_n 3, 1) := by decide +kernel
theorem dX9_lotOf_95 : decode cX9_lotOf 95 = .ok (.getfield 241, 3) := by decide +kernel
theorem dX9_lotOf_98 : decode cX9_lotOf 98 = .ok (.invokevirtual 232, 3) := by decide +kernel
theorem dX9_lotOf_101 : decode cX9_lotOf 101 = .ok (.ireturn, 1) := by decide +kernel
theorem dX9_lotOf_102 : decode cX9_lotOf 102 = .ok (.aload_n 3, 1) := by decide +kernel
theorem dX9_lotOf_103 : decode cX9_lotOf 103 = .ok (.invokevirtual 247, 3) := by decide +kernel
theorem dX9_lotOf_106 : decode cX9_lotOf 106 = .ok (.ireturn, 1) := by decide +kernel
theorem dX9_lotOf_107 : decode cX9_lotOf 107 = .ok (.aload_n 3, 1) := by decide +kernel
theorem dX9_lotOf_108 : decode cX9_lotOf 108 = .ok (.invokevirtual 250, 3) := by decide +kernel
theorem dX9_lotOf_111 : decode cX9_lotOf 111 = .ok (.ireturn, 1) := by decide +kernel
theorem dX9_lotOf_112 : decode cX9_lotOf 112 = .ok (.aload_n 3, 1) := by decide +kernel
theorem dX9_lotOf_113 : decode cX9_lotOf 113 = .ok (.getfield 205, 3) := by decide +kernel
theorem dX9_lotOf_116 : decode cX9_lotOf 116 = .ok (.ireturn, 1) := by decide +kernel
theorem dX9_lotOf_117 : decode cX9_lotOf 117 = .ok (.aload_n 3, 1) := by decide +kernel
theorem dX9_lotOf_118 : decode cX9_lotOf 118 = .ok (.getfield 202, 3) := by decide +kernel
theorem dX9_lotOf_121 : decode cX9_lotOf 121 = .ok (.ireturn, 1) := by decide +kernel
theorem dX9_lotOf_122 : decode cX9_lotOf 122 = .ok (.aload_n 3, 1) := by decide +kernel
theorem dX9_lotOf_123 : decode cX9_lotOf 123 = .ok (.invokevirtual 253, 3) := by decide +kernel
theorem dX9_lotOf_126 : decode cX9_lotOf 126 = .ok (.ireturn, 1) := by decide +kernel
theorem dX9_lotOf_127 : decode cX9_lotOf 127 = .ok (.aload_n 3, 1) := by decide +kernel
theorem dX9_lotOf_128 : decode cX9_lotOf 128 = .ok (.getfield 223, 3) := by decide +kernel
theorem dX9_lotOf_131 : decode cX9_lotOf 131 = .ok (.ifCond .eq 7, 3) := by decide +kernel
theorem dX9_lotOf_134 : decode cX9_lotOf 134 = .ok (.iconst 1, 1) := by decide +kernel
theorem dX9_lotOf_135 : decode cX9_lotOf 135 = .ok (.goto 4, 3) := by decide +kernel
theorem dX9_lotOf_138 : decode cX9_lotOf 138 = .ok (.iconst 0, 1) := by decide +kernel
theorem dX9_lotOf_139 : decode cX9_lotOf 139 = .ok (.ireturn, 1) := by decide +kernel
theorem dX9_age_0 : decode cX9_age 0 = .ok (.aload_n 0, 1) := by decide +kernel
theorem dX9_age_1 : decode cX9_age 1 = .ok (.iload_n 1, 1) := by decide +kernel
theorem dX9_age_2 : decode cX9_age 2 = .ok (.invokevirtual 198, 3) := by decide +kernel
theorem dX9_age_5 : decode cX9_age 5 = .ok (.invokevirtual 256, 3) := by decide +kernel
theorem dX9_age_8 : decode cX9_age 8 = .ok (.freturn, 1) := by decide +kernel
theorem dX9_best_0 : decode cX9_best 0 = .ok (.aload_n 0, 1) := by decide +kernel
theorem dX9_best_1 : decode cX9_best 1 = .ok (.iload_n 1, 1) := by decide +kernel
theorem dX9_best_2 : decode cX9_best 2 = .ok (.invokevirtual 198, 3) := by decide +kernel
theorem dX9_best_5 : decode cX9_best 5 = .ok (.astore_n 2, 1) := by decide +kernel
theorem dX9_best_6 : decode cX9_best 6 = .ok (.aload_n 2, 1) := by decide +kernel
theorem dX9_best_7 : decode cX9_best 7 = .ok (.iconst 0, 1) := by decide +kernel
theorem dX9_best_8 : decode cX9_best 8 = .ok (.aload_n 0, 1) := by decide +kernel
theorem dX9_best_9 : decode cX9_best 9 = .ok (.getfield 208, 3) := by decide +kernel
theorem dX9_best_12 : decode cX9_best 12 = .ok (.invokevirtual 211, 3) := by decide +kernel
theorem dX9_best_15 : decode cX9_best 15 = .ok (.ifCond .eq 5, 3) := by decide +kernel
theorem dX9_best_18 : decode cX9_best 18 = .ok (.iconst 0, 1) := by decide +kernel
theorem dX9_best_19 : decode cX9_best 19 = .ok (.ireturn, 1) := by decide +kernel
theorem dX9_best_20 : decode cX9_best 20 = .ok (.aload_n 2, 1) := by decide +kernel
theorem dX9_best_21 : decode cX9_best 21 = .ok (.iconst 1, 1) := by decide +kernel
theorem dX9_best_22 : decode cX9_best 22 = .ok (.aload_n 0, 1) := by decide +kernel
theorem dX9_best_23 : decode cX9_best 23 = .ok (.getfield 208, 3) := by decide +kernel
theorem dX9_best_26 : decode cX9_best 26 = .ok (.invokevirtual 211, 3) := by decide +kernel
theorem dX9_best_29 : decode cX9_best 29 = .ok (.ifCond .eq 7, 3) := by decide +kernel
theorem dX9_best_32 : decode cX9_best 32 = .ok (.iconst 1, 1) := by decide +kernel
theorem dX9_best_33 : decode cX9_best 33 = .ok (.goto 4, 3) := by decide +kernel
theorem dX9_best_36 : decode cX9_best 36 = .ok (.iconst 2, 1) := by decide +kernel
theorem dX9_best_37 : decode cX9_best 37 = .ok (.ireturn, 1) := by decide +kernel
theorem dX9_from_0 : decode cX9_from 0 = .ok (.aload_n 0, 1) := by decide +kernel
theorem dX9_from_1 : decode cX9_from 1 = .ok (.iload_n 1, 1) := by decide +kernel
theorem dX9_from_2 : decode cX9_from 2 = .ok (.invokevirtual 198, 3) := by decide +kernel
theorem dX9_from_5 : decode cX9_from 5 = .ok (.astore 4, 2) := by decide +kernel
theorem dX9_from_7 : decode cX9_from 7 = .ok (.iload_n 2, 1) := by decide +kernel
theorem dX9_from_8 : decode cX9_from 8 = .ok (.bipush 10, 2) := by decide +kernel
theorem dX9_from_10 : decode cX9_from 10 = .ok (.invokestatic 83, 3) := by decide +kernel
theorem dX9_from_13 : decode cX9_from 13 = .ok (.aload 4, 2) := by decide +kernel
theorem dX9_from_15 : decode cX9_from 15 = .ok (.getfield 241, 3) := by decide +kernel
theorem dX9_from_18 : decode cX9_from 18 = .ok (.iload_n 2, 1) := by decide +kernel
theorem dX9_from_19 : decode cX9_from 19 = .ok (.iload_n 3, 1) := by decide +kernel
theorem dX9_from_20 : decode cX9_from 20 = .ok (.invokevirtual 260, 3) := by decide +kernel
theorem dX9_from_23 : decode cX9_from 23 = .ok (.ireturn, 1) := by decide +kernel
theorem dX9_fromAnew_0 : decode cX9_fromAnew 0 = .ok (.iload_n 1, 1) := by decide +kernel
theorem dX9_fromAnew_1 : decode cX9_fromAnew 1 = .ok (.aload_n 0, 1) := by decide +kernel
theorem dX9_fromAnew_2 : decode cX9_fromAnew 2 = .ok (.getfield 177, 3) := by decide +kernel
theorem dX9_fromAnew_5 : decode cX9_fromAnew 5 = .ok (.invokestatic 83, 3) := by decide +kernel
theorem dX9_fromAnew_8 : decode cX9_fromAnew 8 = .ok (.iload_n 2, 1) := by decide +kernel
theorem dX9_fromAnew_9 : decode cX9_fromAnew 9 = .ok (.bipush 10, 2) := by decide +kernel
theorem dX9_fromAnew_11 : decode cX9_fromAnew 11 = .ok (.invokestatic 83, 3) := by decide +kernel
theorem dX9_fromAnew_14 : decode cX9_fromAnew 14 = .ok (.aload_n 0, 1) := by decide +kernel
theorem dX9_fromAnew_15 : decode cX9_fromAnew 15 = .ok (.getfield 44, 3) := by decide +kernel
theorem dX9_fromAnew_18 : decode cX9_fromAnew 18 = .ok (.iload_n 2, 1) := by decide +kernel
theorem dX9_fromAnew_19 : decode cX9_fromAnew 19 = .ok (.iload_n 3, 1) := by decide +kernel
theorem dX9_fromAnew_20 : decode cX9_fromAnew 20 = .ok (.bipush 10, 2) := by decide +kernel
theorem dX9_fromAnew_22 : decode cX9_fromAnew 22 = .ok (.iload_n 1, 1) := by decide +kernel
theorem dX9_fromAnew_23 : decode cX9_fromAnew 23 = .ok (.iadd, 1) := by decide +kernel
theorem dX9_fromAnew_24 : decode cX9_fromAnew 24 = .ok (.invokevirtual 263, 3) := by decide +kernel
theorem dX9_fromAnew_27 : decode cX9_fromAnew 27 = .ok (.ireturn, 1) := by decide +kernel
theorem dX9_whence_0 : decode cX9_whence 0 = .ok (.aload_n 0, 1) := by decide +kernel
theorem dX9_whence_1 : decode cX9_whence 1 = .ok (.iload_n 1, 1) := by decide +kernel
theorem dX9_whence_2 : decode cX9_whence 2 = .ok (.invokevirtual 198, 3) := by decide +kernel
theorem dX9_whence_5 : decode cX9_whence 5 = .ok (.astore_n 3, 1) := by decide +kernel
theorem dX9_whence_6 : decode cX9_whence 6 = .ok (.iload_n 2, 1) := by decide +kernel
theorem dX9_whence_7 : decode cX9_whence 7 = .ok (.bipush 8, 2) := by decide +kernel
theorem dX9_whence_9 : decode cX9_whence 9 = .ok (.invokestatic 83, 3) := by decide +kernel
theorem dX9_whence_12 : decode cX9_whence 12 = .ok (.aload_n 3, 1) := by decide +kernel
theorem dX9_whence_13 : decode cX9_whence 13 = .ok (.getfield 241, 3) := by decide +kernel
theorem dX9_whence_16 : decode cX9_whence 16 = .ok (.iconst 1, 1) := by decide +kernel
theorem dX9_whence_17 : decode cX9_whence 17 = .ok (.iload_n 2, 1) := by decide +kernel
theorem dX9_whence_18 : decode cX9_whence 18 = .ok (.ishl, 1) := by decide +kernel
theorem dX9_whence_19 : decode cX9_whence 19 = .ok (.invokevirtual 267, 3) := by decide +kernel
theorem dX9_whence_22 : decode cX9_whence 22 = .ok (.astore 4, 2) := by decide +kernel
theorem dX9_whence_24 : decode cX9_whence 24 = .ok (.aload 4, 2) := by decide +kernel
theorem dX9_whence_26 : decode cX9_whence 26 = .ok (.ifnonnull 7, 3) := by decide +kernel
theorem dX9_whence_29 : decode cX9_whence 29 = .ok (.iconst (-1), 1) := by decide +kernel
theorem dX9_whence_30 : decode cX9_whence 30 = .ok (.goto 18, 3) := by decide +kernel
theorem dX9_whence_33 : decode cX9_whence 33 = .ok (.sipush 1000, 3) := by decide +kernel
theorem dX9_whence_36 : decode cX9_whence 36 = .ok (.aload 4, 2) := by decide +kernel
theorem dX9_whence_38 : decode cX9_whence 38 = .ok (.getfield 270, 3) := by decide +kernel
theorem dX9_whence_41 : decode cX9_whence 41 = .ok (.imul, 1) := by decide +kernel
theorem dX9_whence_42 : decode cX9_whence 42 = .ok (.aload 4, 2) := by decide +kernel
theorem dX9_whence_44 : decode cX9_whence 44 = .ok (.getfield 274, 3) := by decide +kernel
theorem dX9_whence_47 : decode cX9_whence 47 = .ok (.iadd, 1) := by decide +kernel
theorem dX9_whence_48 : decode cX9_whence 48 = .ok (.ireturn, 1) := by decide +kernel
theorem dX9_sum_0 : decode cX9_sum 0 = .ok (.iload_n 1, 1) := by decide +kernel
theorem dX9_sum_1 : decode cX9_sum 1 = .ok (.iconst 0, 1) := by decide +kernel
theorem dX9_sum_2 : decode cX9_sum 2 = .ok (.bipush 6, 2) := by decide +kernel
theorem dX9_sum_4 : decode cX9_sum 4 = .ok (.invokestatic 56, 3) := by decide +kernel
theorem dX9_sum_7 : decode cX9_sum 7 = .ok (.iload_n 1, 1) := by decide +kernel
theorem dX9_sum_8 : decode cX9_sum 8 = .ok (.tableswitch 70 0 5 #[40, 45, 50, 55, 60, 65], 40) := by decide +kernel
theorem dX9_sum_48 : decode cX9_sum 48 = .ok (.aload_n 0, 1) := by decide +kernel
theorem dX9_sum_49 : decode cX9_sum 49 = .ok (.getfield 148, 3) := by decide +kernel
theorem dX9_sum_52 : decode cX9_sum 52 = .ok (.lreturn, 1) := by decide +kernel
theorem dX9_sum_53 : decode cX9_sum 53 = .ok (.aload_n 0, 1) := by decide +kernel
theorem dX9_sum_54 : decode cX9_sum 54 = .ok (.invokevirtual 277, 3) := by decide +kernel
theorem dX9_sum_57 : decode cX9_sum 57 = .ok (.lreturn, 1) := by decide +kernel
theorem dX9_sum_58 : decode cX9_sum 58 = .ok (.aload_n 0, 1) := by decide +kernel
theorem dX9_sum_59 : decode cX9_sum 59 = .ok (.getfield 138, 3) := by decide +kernel
theorem dX9_sum_62 : decode cX9_sum 62 = .ok (.lreturn, 1) := by decide +kernel
theorem dX9_sum_63 : decode cX9_sum 63 = .ok (.aload_n 0, 1) := by decide +kernel
theorem dX9_sum_64 : decode cX9_sum 64 = .ok (.invokevirtual 281, 3) := by decide +kernel
theorem dX9_sum_67 : decode cX9_sum 67 = .ok (.lreturn, 1) := by decide +kernel
theorem dX9_sum_68 : decode cX9_sum 68 = .ok (.aload_n 0, 1) := by decide +kernel
theorem dX9_sum_69 : decode cX9_sum 69 = .ok (.getfield 153, 3) := by decide +kernel
theorem dX9_sum_72 : decode cX9_sum 72 = .ok (.lreturn, 1) := by decide +kernel
theorem dX9_sum_73 : decode cX9_sum 73 = .ok (.aload_n 0, 1) := by decide +kernel
theorem dX9_sum_74 : decode cX9_sum 74 = .ok (.getfield 183, 3) := by decide +kernel
theorem dX9_sum_77 : decode cX9_sum 77 = .ok (.lreturn, 1) := by decide +kernel
theorem dX9_sum_78 : decode cX9_sum 78 = .ok (.aload_n 0, 1) := by decide +kernel
theorem dX9_sum_79 : decode cX9_sum 79 = .ok (.invokevirtual 284, 3) := by decide +kernel
theorem dX9_sum_82 : decode cX9_sum 82 = .ok (.lreturn, 1) := by decide +kernel
theorem dX9_unitsInCells_0 : decode cX9_unitsInCells 0 = .ok (.lconst 0, 1) := by decide +kernel
theorem dX9_unitsInCells_1 : decode cX9_unitsInCells 1 = .ok (.lstore_n 1, 1) := by decide +kernel
theorem dX9_unitsInCells_2 : decode cX9_unitsInCells 2 = .ok (.iconst 0, 1) := by decide +kernel
theorem dX9_unitsInCells_3 : decode cX9_unitsInCells 3 = .ok (.istore_n 3, 1) := by decide +kernel
theorem dX9_unitsInCells_4 : decode cX9_unitsInCells 4 = .ok (.iload_n 3, 1) := by decide +kernel
theorem dX9_unitsInCells_5 : decode cX9_unitsInCells 5 = .ok (.bipush 10, 2) := by decide +kernel
theorem dX9_unitsInCells_7 : decode cX9_unitsInCells 7 = .ok (.if_icmp .ge 25, 3) := by decide +kernel
theorem dX9_unitsInCells_10 : decode cX9_unitsInCells 10 = .ok (.lload_n 1, 1) := by decide +kernel
theorem dX9_unitsInCells_11 : decode cX9_unitsInCells 11 = .ok (.aload_n 0, 1) := by decide +kernel
theorem dX9_unitsInCells_12 : decode cX9_unitsInCells 12 = .ok (.getfield 11, 3) := by decide +kernel
theorem dX9_unitsInCells_15 : decode cX9_unitsInCells 15 = .ok (.iload_n 3, 1) := by decide +kernel
theorem dX9_unitsInCells_16 : decode cX9_unitsInCells 16 = .ok (.aaload, 1) := by decide +kernel
theorem dX9_unitsInCells_17 : decode cX9_unitsInCells 17 = .ok (.getfield 124, 3) := by decide +kernel
theorem dX9_unitsInCells_20 : decode cX9_unitsInCells 20 = .ok (.getfield 142, 3) := by decide +kernel
theorem dX9_unitsInCells_23 : decode cX9_unitsInCells 23 = .ok (.i2l, 1) := by decide +kernel
theorem dX9_unitsInCells_24 : decode cX9_unitsInCells 24 = .ok (.ladd, 1) := by decide +kernel
theorem dX9_unitsInCells_25 : decode cX9_unitsInCells 25 = .ok (.lstore_n 1, 1) := by decide +kernel
theorem dX9_unitsInCells_26 : decode cX9_unitsInCells 26 = .ok (.iinc 3 1, 3) := by decide +kernel
theorem dX9_unitsInCells_29 : decode cX9_unitsInCells 29 = .ok (.goto (-25), 3) := by decide +kernel
theorem dX9_unitsInCells_32 : decode cX9_unitsInCells 32 = .ok (.lload_n 1, 1) := by decide +kernel
theorem dX9_unitsInCells_33 : decode cX9_unitsInCells 33 = .ok (.lreturn, 1) := by decide +kernel
theorem dX9_unitsBottled_0 : decode cX9_unitsBottled 0 = .ok (.lconst 0, 1) := by decide +kernel
theorem dX9_unitsBottled_1 : decode cX9_unitsBottled 1 = .ok (.lstore_n 1, 1) := by decide +kernel
theorem dX9_unitsBottled_2 : decode cX9_unitsBottled 2 = .ok (.iconst 0, 1) := by decide +kernel
theorem dX9_unitsBottled_3 : decode cX9_unitsBottled 3 = .ok (.istore_n 3, 1) := by decide +kernel
theorem dX9_unitsBottled_4 : decode cX9_unitsBottled 4 = .ok (.iload_n 3, 1) := by decide +kernel
theorem dX9_unitsBottled_5 : decode cX9_unitsBottled 5 = .ok (.aload_n 0, 1) := by decide +kernel
theorem dX9_unitsBottled_6 : decode cX9_unitsBottled 6 = .ok (.getfield 177, 3) := by decide +kernel
theorem dX9_unitsBottled_9 : decode cX9_unitsBottled 9 = .ok (.if_icmp .ge 25, 3) := by decide +kernel
theorem dX9_unitsBottled_12 : decode cX9_unitsBottled 12 = .ok (.lload_n 1, 1) := by decide +kernel
theorem dX9_unitsBottled_13 : decode cX9_unitsBottled 13 = .ok (.aload_n 0, 1) := by decide +kernel
theorem dX9_unitsBottled_14 : decode cX9_unitsBottled 14 = .ok (.getfield 30, 3) := by decide +kernel
theorem dX9_unitsBottled_17 : decode cX9_unitsBottled 17 = .ok (.iload_n 3, 1) := by decide +kernel
theorem dX9_unitsBottled_18 : decode cX9_unitsBottled 18 = .ok (.aaload, 1) := by decide +kernel
theorem dX9_unitsBottled_19 : decode cX9_unitsBottled 19 = .ok (.getfield 241, 3) := by decide +kernel
theorem dX9_unitsBottled_22 : decode cX9_unitsBottled 22 = .ok (.getfield 142, 3) := by decide +kernel
theorem dX9_unitsBottled_25 : decode cX9_unitsBottled 25 = .ok (.i2l, 1) := by decide +kernel
theorem dX9_unitsBottled_26 : decode cX9_unitsBottled 26 = .ok (.ladd, 1) := by decide +kernel
theorem dX9_unitsBottled_27 : decode cX9_unitsBottled 27 = .ok (.lstore_n 1, 1) := by decide +kernel
theorem dX9_unitsBottled_28 : decode cX9_unitsBottled 28 = .ok (.iinc 3 1, 3) := by decide +kernel
theorem dX9_unitsBottled_31 : decode cX9_unitsBottled 31 = .ok (.goto (-27), 3) := by decide +kernel
theorem dX9_unitsBottled_34 : decode cX9_unitsBottled 34 = .ok (.lload_n 1, 1) := by decide +kernel
theorem dX9_unitsBottled_35 : decode cX9_unitsBottled 35 = .ok (.lreturn, 1) := by decide +kernel
theorem dX9_falseLabels_0 : decode cX9_falseLabels 0 = .ok (.lconst 0, 1) := by decide +kernel
theorem dX9_falseLabels_1 : decode cX9_falseLabels 1 = .ok (.lstore_n 1, 1) := by decide +kernel
theorem dX9_falseLabels_2 : decode cX9_falseLabels 2 = .ok (.iconst 0, 1) := by decide +kernel
theorem dX9_falseLabels_3 : decode cX9_falseLabels 3 = .ok (.istore_n 3, 1) := by decide +kernel
theorem dX9_falseLabels_4 : decode cX9_falseLabels 4 = .ok (.iload_n 3, 1) := by decide +kernel
theorem dX9_falseLabels_5 : decode cX9_falseLabels 5 = .ok (.aload_n 0, 1) := by decide +kernel
theorem dX9_falseLabels_6 : decode cX9_falseLabels 6 = .ok (.getfield 177, 3) := by decide +kernel
theorem dX9_falseLabels_9 : decode cX9_falseLabels 9 = .ok (.if_icmp .ge 25, 3) := by decide +kernel
theorem dX9_falseLabels_12 : decode cX9_falseLabels 12 = .ok (.aload_n 0, 1) := by decide +kernel
theorem dX9_falseLabels_13 : decode cX9_falseLabels 13 = .ok (.getfield 30, 3) := by decide +kernel
theorem dX9_falseLabels_16 : decode cX9_falseLabels 16 = .ok (.iload_n 3, 1) := by decide +kernel
theorem dX9_falseLabels_17 : decode cX9_falseLabels 17 = .ok (.aaload, 1) := by decide +kernel
theorem dX9_falseLabels_18 : decode cX9_falseLabels 18 = .ok (.invokevirtual 253, 3) := by decide +kernel
theorem dX9_falseLabels_21 : decode cX9_falseLabels 21 = .ok (.ifCond .ne 7, 3) := by decide +kernel
theorem dX9_falseLabels_24 : decode cX9_falseLabels 24 = .ok (.lload_n 1, 1) := by decide +kernel
theorem dX9_falseLabels_25 : decode cX9_falseLabels 25 = .ok (.lconst 1, 1) := by decide +kernel
theorem dX9_falseLabels_26 : decode cX9_falseLabels 26 = .ok (.ladd, 1) := by decide +kernel
theorem dX9_falseLabels_27 : decode cX9_falseLabels 27 = .ok (.lstore_n 1, 1) := by decide +kernel
theorem dX9_falseLabels_28 : decode cX9_falseLabels 28 = .ok (.iinc 3 1, 3) := by decide +kernel
theorem dX9_falseLabels_31 : decode cX9_falseLabels 31 = .ok (.goto (-27), 3) := by decide +kernel
theorem dX9_falseLabels_34 : decode cX9_falseLabels 34 = .ok (.lload_n 1, 1) := by decide +kernel
theorem dX9_falseLabels_35 : decode cX9_falseLabels 35 = .ok (.lreturn, 1) := by decide +kernel
theorem dX9_cellAt_0 : decode cX9_cellAt 0 = .ok (.iload_n 1, 1) := by decide +kernel
theorem dX9_cellAt_1 : decode cX9_cellAt 1 = .ok (.bipush 10, 2) := by decide +kernel
theorem dX9_cellAt_3 : decode cX9_cellAt 3 = .ok (.invokestatic 83, 3) := by decide +kernel
theorem dX9_cellAt_6 : decode cX9_cellAt 6 = .ok (.aload_n 0, 1) := by decide +kernel
theorem dX9_cellAt_7 : decode cX9_cellAt 7 = .ok (.getfield 11, 3) := by decide +kernel
theorem dX9_cellAt_10 : decode cX9_cellAt 10 = .ok (.iload_n 1, 1) := by decide +kernel
theorem dX9_cellAt_11 : decode cX9_cellAt 11 = .ok (.aaload, 1) := by decide +kernel
theorem dX9_cellAt_12 : decode cX9_cellAt 12 = .ok (.areturn, 1) := by decide +kernel
theorem dX9_wellAt_0 : decode cX9_wellAt 0 = .ok (.iload_n 1, 1) := by decide +kernel
theorem dX9_wellAt_1 : decode cX9_wellAt 1 = .ok (.aload_n 0, 1) := by decide +kernel
theorem dX9_wellAt_2 : decode cX9_wellAt 2 = .ok (.getfield 112, 3) := by decide +kernel
theorem dX9_wellAt_5 : decode cX9_wellAt 5 = .ok (.invokestatic 83, 3) := by decide +kernel
theorem dX9_wellAt_8 : decode cX9_wellAt 8 = .ok (.aload_n 0, 1) := by decide +kernel
theorem dX9_wellAt_9 : decode cX9_wellAt 9 = .ok (.getfield 24, 3) := by decide +kernel
theorem dX9_wellAt_12 : decode cX9_wellAt 12 = .ok (.iload_n 1, 1) := by decide +kernel
theorem dX9_wellAt_13 : decode cX9_wellAt 13 = .ok (.aaload, 1) := by decide +kernel
theorem dX9_wellAt_14 : decode cX9_wellAt 14 = .ok (.areturn, 1) := by decide +kernel
theorem dX9_lotAt_0 : decode cX9_lotAt 0 = .ok (.iload_n 1, 1) := by decide +kernel
theorem dX9_lotAt_1 : decode cX9_lotAt 1 = .ok (.aload_n 0, 1) := by decide +kernel
theorem dX9_lotAt_2 : decode cX9_lotAt 2 = .ok (.getfield 177, 3) := by decide +kernel
theorem dX9_lotAt_5 : decode cX9_lotAt 5 = .ok (.invokestatic 83, 3) := by decide +kernel
theorem dX9_lotAt_8 : decode cX9_lotAt 8 = .ok (.aload_n 0, 1) := by decide +kernel
theorem dX9_lotAt_9 : decode cX9_lotAt 9 = .ok (.getfield 30, 3) := by decide +kernel
theorem dX9_lotAt_12 : decode cX9_lotAt 12 = .ok (.iload_n 1, 1) := by decide +kernel
theorem dX9_lotAt_13 : decode cX9_lotAt 13 = .ok (.aaload, 1) := by decide +kernel
theorem dX9_lotAt_14 : decode cX9_lotAt 14 = .ok (.areturn, 1) := by decide +kernel
theorem dX9_needIndex_0 : decode cX9_needIndex 0 = .ok (.iload_n 0, 1) := by decide +kernel
theorem dX9_needIndex_1 : decode cX9_needIndex 1 = .ok (.ifCond .lt 8, 3) := by decide +kernel
theorem dX9_needIndex_4 : decode cX9_needIndex 4 = .ok (.iload_n 0, 1) := by decide +kernel
theorem dX9_needIndex_5 : decode cX9_needIndex 5 = .ok (.iload_n 1, 1) := by decide +kernel
theorem dX9_needIndex_6 : decode cX9_needIndex 6 = .ok (.if_icmp .lt 14, 3) := by decide +kernel
theorem dX9_needIndex_9 : decode cX9_needIndex 9 = .ok (.new 287, 3) := by decide +kernel
theorem dX9_needIndex_12 : decode cX9_needIndex 12 = .ok (.dup, 1) := by decide +kernel
theorem dX9_needIndex_13 : decode cX9_needIndex 13 = .ok (.ldc_w 289, 3) := by decide +kernel
theorem dX9_needIndex_16 : decode cX9_needIndex 16 = .ok (.invokespecial 291, 3) := by decide +kernel
theorem dX9_needIndex_19 : decode cX9_needIndex 19 = .ok (.athrow, 1) := by decide +kernel
theorem dX9_needIndex_20 : decode cX9_needIndex 20 = .ok (.return_, 1) := by decide +kernel
theorem dX9_needRange_0 : decode cX9_needRange 0 = .ok (.iload_n 0, 1) := by decide +kernel
theorem dX9_needRange_1 : decode cX9_needRange 1 = .ok (.iload_n 1, 1) := by decide +kernel
theorem dX9_needRange_2 : decode cX9_needRange 2 = .ok (.if_icmp .lt 12, 3) := by decide +kernel
theorem dX9_needRange_5 : decode cX9_needRange 5 = .ok (.iload_n 0, 1) := by decide +kernel
theorem dX9_needRange_6 : decode cX9_needRange 6 = .ok (.iload_n 2, 1) := by decide +kernel
theorem dX9_needRange_7 : decode cX9_needRange 7 = .ok (.if_icmp .gt 7, 3) := by decide +kernel
theorem dX9_needRange_10 : decode cX9_needRange 10 = .ok (.iconst 1, 1) := by decide +kernel
theorem dX9_needRange_11 : decode cX9_needRange 11 = .ok (.goto 4, 3) := by decide +kernel
theorem dX9_needRange_14 : decode cX9_needRange 14 = .ok (.iconst 0, 1) := by decide +kernel
theorem dX9_needRange_15 : decode cX9_needRange 15 = .ok (.invokestatic 73, 3) := by decide +kernel
theorem dX9_needRange_18 : decode cX9_needRange 18 = .ok (.return_, 1) := by decide +kernel
theorem dX9_needArgument_0 : decode cX9_needArgument 0 = .ok (.iload_n 0, 1) := by decide +kernel
theorem dX9_needArgument_1 : decode cX9_needArgument 1 = .ok (.ifCond .ne 14, 3) := by decide +kernel
theorem dX9_needArgument_4 : decode cX9_needArgument 4 = .ok (.new 294, 3) := by decide +kernel
theorem dX9_needArgument_7 : decode cX9_needArgument 7 = .ok (.dup, 1) := by decide +kernel
theorem dX9_needArgument_8 : decode cX9_needArgument 8 = .ok (.ldc_w 296, 3) := by decide +kernel
theorem dX9_needArgument_11 : decode cX9_needArgument 11 = .ok (.invokespecial 298, 3) := by decide +kernel
theorem dX9_needArgument_14 : decode cX9_needArgument 14 = .ok (.athrow, 1) := by decide +kernel
theorem dX9_needArgument_15 : decode cX9_needArgument 15 = .ok (.return_, 1) := by decide +kernel
theorem dX9_needState_0 : decode cX9_needState 0 = .ok (.iload_n 0, 1) := by decide +kernel
theorem dX9_needState_1 : decode cX9_needState 1 = .ok (.ifCond .ne 14, 3) := by decide +kernel
theorem dX9_needState_4 : decode cX9_needState 4 = .ok (.new 299, 3) := by decide +kernel
theorem dX9_needState_7 : decode cX9_needState 7 = .ok (.dup, 1) := by decide +kernel
theorem dX9_needState_8 : decode cX9_needState 8 = .ok (.ldc_w 301, 3) := by decide +kernel
theorem dX9_needState_11 : decode cX9_needState 11 = .ok (.invokespecial 303, 3) := by decide +kernel
theorem dX9_needState_14 : decode cX9_needState 14 = .ok (.athrow, 1) := by decide +kernel
theorem dX9_needState_15 : decode cX9_needState 15 = .ok (.return_, 1) := by decide +kernel
theorem dX10_init_0 : decode cX10_init 0 = .ok (.aload_n 0, 1) := by decide +kernel
theorem dX10_init_1 : decode cX10_init 1 = .ok (.invokespecial 1, 3) := by decide +kernel
theorem dX10_init_4 : decode cX10_init 4 = .ok (.aload_n 0, 1) := by decide +kernel
theorem dX10_init_5 : decode cX10_init 5 = .ok (.bipush 10, 2) := by decide +kernel
theorem dX10_init_7 : decode cX10_init 7 = .ok (.newarray .int, 2) := by decide +kernel
theorem dX10_init_9 : decode cX10_init 9 = .ok (.putfield 7, 3) := by decide +kernel
theorem dX10_init_12 : decode cX10_init 12 = .ok (.aload_n 0, 1) := by decide +kernel
theorem dX10_init_13 : decode cX10_init 13 = .ok (.bipush 10, 2) := by decide +kernel
theorem dX10_init_15 : decode cX10_init 15 = .ok (.newarray .int, 2) := by decide +kernel
theorem dX10_init_17 : decode cX10_init 17 = .ok (.putfield 13, 3) := by decide +kernel
theorem dX10_init_20 : decode cX10_init 20 = .ok (.aload_n 0, 1) := by decide +kernel
theorem dX10_init_21 : decode cX10_init 21 = .ok (.bipush 10, 2) := by decide +kernel
theorem dX10_init_23 : decode cX10_init 23 = .ok (.newarray .int, 2) := by decide +kernel
theorem dX10_init_25 : decode cX10_init 25 = .ok (.putfield 16, 3) := by decide +kernel
theorem dX10_init_28 : decode cX10_init 28 = .ok (.aload_n 0, 1) := by decide +kernel
theorem dX10_init_29 : decode cX10_init 29 = .ok (.bipush 10, 2) := by decide +kernel
theorem dX10_init_31 : decode cX10_init 31 = .ok (.newarray .int, 2) := by decide +kernel
theorem dX10_init_33 : decode cX10_init 33 = .ok (.putfield 19, 3) := by decide +kernel
theorem dX10_init_36 : decode cX10_init 36 = .ok (.aload_n 0, 1) := by decide +kernel
theorem dX10_init_37 : decode cX10_init 37 = .ok (.bipush 10, 2) := by decide +kernel
theorem dX10_init_39 : decode cX10_init 39 = .ok (.newarray .int, 2) := by decide +kernel
theorem dX10_init_41 : decode cX10_init 41 = .ok (.putfield 22, 3) := by decide +kernel
theorem dX10_init_44 : decode cX10_init 44 = .ok (.aload_n 0, 1) := by decide +kernel
theorem dX10_init_45 : decode cX10_init 45 = .ok (.bipush 10, 2) := by decide +kernel
theorem dX10_init_47 : decode cX10_init 47 = .ok (.newarray .int, 2) := by decide +kernel
theorem dX10_init_49 : decode cX10_init 49 = .ok (.putfield 25, 3) := by decide +kernel
theorem dX10_init_52 : decode cX10_init 52 = .ok (.aload_n 0, 1) := by decide +kernel
theorem dX10_init_53 : decode cX10_init 53 = .ok (.bipush 51, 2) := by decide +kernel
theorem dX10_init_55 : decode cX10_init 55 = .ok (.newarray .int, 2) := by decide +kernel
theorem dX10_init_57 : decode cX10_init 57 = .ok (.putfield 28, 3) := by decide +kernel
theorem dX10_init_60 : decode cX10_init 60 = .ok (.aload_n 0, 1) := by decide +kernel
theorem dX10_init_61 : decode cX10_init 61 = .ok (.bipush 51, 2) := by decide +kernel
theorem dX10_init_63 : decode cX10_init 63 = .ok (.newarray .int, 2) := by decide +kernel
theorem dX10_init_65 : decode cX10_init 65 = .ok (.putfield 31, 3) := by decide +kernel
theorem dX10_init_68 : decode cX10_init 68 = .ok (.aload_n 0, 1) := by decide +kernel
theorem dX10_init_69 : decode cX10_init 69 = .ok (.bipush 51, 2) := by decide +kernel
theorem dX10_init_71 : decode cX10_init 71 = .ok (.newarray .int, 2) := by decide +kernel
theorem dX10_init_73 : decode cX10_init 73 = .ok (.putfield 34, 3) := by decide +kernel
theorem dX10_init_76 : decode cX10_init 76 = .ok (.aload_n 0, 1) := by decide +kernel
theorem dX10_init_77 : decode cX10_init 77 = .ok (.sipush 6200, 3) := by decide +kernel
theorem dX10_init_80 : decode cX10_init 80 = .ok (.newarray .int, 2) := by decide +kernel
theorem dX10_init_82 : decode cX10_init 82 = .ok (.putfield 37, 3) := by decide +kernel
theorem dX10_init_85 : decode cX10_init 85 = .ok (.aload_n 0, 1) := by decide +kernel
theorem dX10_init_86 : decode cX10_init 86 = .ok (.sipush 6200, 3) := by decide +kernel
theorem dX10_init_89 : decode cX10_init 89 = .ok (.newarray .int, 2) := by decide +kernel
theorem dX10_init_91 : decode cX10_init 91 = .ok (.putfield 40, 3) := by decide +kernel
theorem dX10_init_94 : decode cX10_init 94 = .ok (.aload_n 0, 1) := by decide +kernel
theorem dX10_init_95 : decode cX10_init 95 = .ok (.sipush 6200, 3) := by decide +kernel
theorem dX10_init_98 : decode cX10_init 98 = .ok (.newarray .int, 2) := by decide +kernel
theorem dX10_init_100 : decode cX10_init 100 = .ok (.putfield 43, 3) := by decide +kernel
theorem dX10_init_103 : decode cX10_init 103 = .ok (.aload_n 0, 1) := by decide +kernel
theorem dX10_init_104 : decode cX10_init 104 = .ok (.sipush 6200, 3) := by decide +kernel
theorem dX10_init_107 : decode cX10_init 107 = .ok (.newarray .int, 2) := by decide +kernel
theorem dX10_init_109 : decode cX10_init 109 = .ok (.putfield 46, 3) := by decide +kernel
theorem dX10_init_112 : decode cX10_init 112 = .ok (.aload_n 0, 1) := by decide +kernel
theorem dX10_init_113 : decode cX10_init 113 = .ok (.sipush 6200, 3) := by decide +kernel
theorem dX10_init_116 : decode cX10_init 116 = .ok (.newarray .int, 2) := by decide +kernel
theorem dX10_init_118 : decode cX10_init 118 = .ok (.putfield 49, 3) := by decide +kernel
theorem dX10_init_121 : decode cX10_init 121 = .ok (.aload_n 0, 1) := by decide +kernel
theorem dX10_init_122 : decode cX10_init 122 = .ok (.sipush 6200, 3) := by decide +kernel
theorem dX10_init_125 : decode cX10_init 125 = .ok (.newarray .int, 2) := by decide +kernel
theorem dX10_init_127 : decode cX10_init 127 = .ok (.putfield 52, 3) := by decide +kernel
theorem dX10_init_130 : decode cX10_init 130 = .ok (.aload_n 0, 1) := by decide +kernel
theorem dX10_init_131 : decode cX10_init 131 = .ok (.bipush 10, 2) := by decide +kernel
theorem dX10_init_133 : decode cX10_init 133 = .ok (.newarray .int, 2) := by decide +kernel
theorem dX10_init_135 : decode cX10_init 135 = .ok (.putfield 55, 3) := by decide +kernel
theorem dX10_init_138 : decode cX10_init 138 = .ok (.aload_n 0, 1) := by decide +kernel
theorem dX10_init_139 : decode cX10_init 139 = .ok (.bipush 6, 2) := by decide +kernel
theorem dX10_init_141 : decode cX10_init 141 = .ok (.newarray .int, 2) := by decide +kernel
theorem dX10_init_143 : decode cX10_init 143 = .ok (.putfield 58, 3) := by decide +kernel
theorem dX10_init_146 : decode cX10_init 146 = .ok (.aload_n 0, 1) := by decide +kernel
theorem dX10_init_147 : decode cX10_init 147 = .ok (.bipush 6, 2) := by decide +kernel
theorem dX10_init_149 : decode cX10_init 149 = .ok (.newarray .int, 2) := by decide +kernel
theorem dX10_init_151 : decode cX10_init 151 = .ok (.putfield 61, 3) := by decide +kernel
theorem dX10_init_154 : decode cX10_init 154 = .ok (.aload_n 0, 1) := by decide +kernel
theorem dX10_init_155 : decode cX10_init 155 = .ok (.bipush 6, 2) := by decide +kernel
theorem dX10_init_157 : decode cX10_init 157 = .ok (.newarray .int, 2) := by decide +kernel
theorem dX10_init_159 : decode cX10_init 159 = .ok (.putfield 64, 3) := by decide +kernel
theorem dX10_init_162 : decode cX10_init 162 = .ok (.aload_n 0, 1) := by decide +kernel
theorem dX10_init_163 : decode cX10_init 163 = .ok (.iconst 1, 1) := by decide +kernel
theorem dX10_init_164 : decode cX10_init 164 = .ok (.putfield 67, 3) := by decide +kernel
theorem dX10_init_167 : decode cX10_init 167 = .ok (.aload_n 0, 1) := by decide +kernel
theorem dX10_init_168 : decode cX10_init 168 = .ok (.bipush 40, 2) := by decide +kernel
theorem dX10_init_170 : decode cX10_init 170 = .ok (.newarray .int, 2) := by decide +kernel
theorem dX10_init_172 : decode cX10_init 172 = .ok (.putfield 71, 3) := by decide +kernel
theorem dX10_init_175 : decode cX10_init 175 = .ok (.aload_n 0, 1) := by decide +kernel
theorem dX10_init_176 : decode cX10_init 176 = .ok (.bipush 40, 2) := by decide +kernel
theorem dX10_init_178 : decode cX10_init 178 = .ok (.newarray .int, 2) := by decide +kernel
theorem dX10_init_180 : decode cX10_init 180 = .ok (.putfield 74, 3) := by decide +kernel
theorem dX10_init_183 : decode cX10_init 183 = .ok (.aload_n 0, 1) := by decide +kernel
theorem dX10_init_184 : decode cX10_init 184 = .ok (.bipush 40, 2) := by decide +kernel
theorem dX10_init_186 : decode cX10_init 186 = .ok (.newarray .int, 2) := by decide +kernel
theorem dX10_init_188 : decode cX10_init 188 = .ok (.putfield 77, 3) := by decide +kernel
theorem dX10_init_191 : decode cX10_init 191 = .ok (.aload_n 0, 1) := by decide +kernel
theorem dX10_init_192 : decode cX10_init 192 = .ok (.bipush 40, 2) := by decide +kernel
theorem dX10_init_194 : decode cX10_init 194 = .ok (.newarray .int, 2) := by decide +kernel
theorem dX10_init_196 : decode cX10_init 196 = .ok (.putfield 80, 3) := by decide +kernel
theorem dX10_init_199 : decode cX10_init 199 = .ok (.aload_n 0, 1) := by decide +kernel
theorem dX10_init_200 : decode cX10_init 200 = .ok (.bipush 40, 2) := by decide +kernel
theorem dX10_init_202 : decode cX10_init 202 = .ok (.newarray .boolean, 2) := by decide +kernel
theorem dX10_init_204 : decode cX10_init 204 = .ok (.putfield 83, 3) := by decide +kernel
theorem dX10_init_207 : decode cX10_init 207 = .ok (.aload_n 0, 1) := by decide +kernel
theorem dX10_init_208 : decode cX10_init 208 = .ok (.bipush 40, 2) := by decide +kernel
theorem dX10_init_210 : decode cX10_init 210 = .ok (.newarray .boolean, 2) := by decide +kernel
theorem dX10_init_212 : decode cX10_init 212 = .ok (.putfield 87, 3) := by decide +kernel
theorem dX10_init_215 : decode cX10_init 215 = .ok (.iconst 0, 1) := by decide +kernel
theorem dX10_init_216 : decode cX10_init 216 = .ok (.istore_n 1, 1) := by decide +kernel
theorem dX10_init_217 : decode cX10_init 217 = .ok (.iload_n 1, 1) := by decide +kernel
theorem dX10_init_218 : decode cX10_init 218 = .ok (.bipush 10, 2) := by decide +kernel
theorem dX10_init_220 : decode cX10_init 220 = .ok (.if_icmp .ge 25, 3) := by decide +kernel
theorem dX10_init_223 : decode cX10_init 223 = .ok (.aload_n 0, 1) := by decide +kernel
theorem dX10_init_224 : decode cX10_init 224 = .ok (.getfield 7, 3) := by decide +kernel
theorem dX10_init_227 : decode cX10_init 227 = .ok (.iload_n 1, 1) := by decide +kernel
theorem dX10_init_228 : decode cX10_init 228 = .ok (.iconst 5, 1) := by decide +kernel
theorem dX10_init_229 : decode cX10_init 229 = .ok (.iastore, 1) := by decide +kernel
theorem dX10_init_230 : decode cX10_init 230 = .ok (.aload_n 0, 1) := by decide +kernel
theorem dX10_init_231 : decode cX10_init 231 = .ok (.getfield 16, 3) := by decide +kernel
theorem dX10_init_234 : decode cX10_init 234 = .ok (.iload_n 1, 1) := by decide +kernel
theorem dX10_init_235 : decode cX10_init 235 = .ok (.iload_n 1, 1) := by decide +kernel
theorem dX10_init_236 : decode cX10_init 236 = .ok (.iconst 1, 1) := by decide +kernel
theorem dX10_init_237 : decode cX10_init 237 = .ok (.isub, 1) := by decide +kernel
theorem dX10_init_238 : decode cX10_init 238 = .ok (.iastore, 1) := by decide +kernel
theorem dX10_init_239 : decode cX10_init 239 = .ok (.iinc 1 1, 3) := by decide +kernel
theorem dX10_init_242 : decode cX10_init 242 = .ok (.goto (-25), 3) := by decide +kernel
theorem dX10_init_245 : decode cX10_init 245 = .ok (.iconst 0, 1) := by decide +kernel
theorem dX10_init_246 : decode cX10_init 246 = .ok (.istore_n 1, 1) := by decide +kernel
theorem dX10_init_247 : decode cX10_init 247 = .ok (.iload_n 1, 1) := by decide +kernel
theorem dX10_init_248 : decode cX10_init 248 = .ok (.bipush 51, 2) := by decide +kernel
theorem dX10_init_250 : decode cX10_init 250 = .ok (.if_icmp .ge 23, 3) := by decide +kernel
theorem dX10_init_253 : decode cX10_init 253 = .ok (.aload_n 0, 1) := by decide +kernel
theorem dX10_init_254 : decode cX10_init 254 = .ok (.getfield 28, 3) := by decide +kernel
theorem dX10_init_257 : decode cX10_init 257 = .ok (.iload_n 1, 1) := by decide +kernel
theorem dX10_init_258 : decode cX10_init 258 = .ok (.iconst (-1), 1) := by decide +kernel
theorem dX10_init_259 : decode cX10_init 259 = .ok (.iastore, 1) := by decide +kernel
theorem dX10_init_260 : decode cX10_init 260 = .ok (.aload_n 0, 1) := by decide +kernel
theorem dX10_init_261 : decode cX10_init 261 = .ok (.getfield 31, 3) := by decide +kernel
theorem dX10_init_264 : decode cX10_init 264 = .ok (.iload_n 1, 1) := by decide +kernel
theorem dX10_init_265 : decode cX10_init 265 = .ok (.iconst (-1), 1) := by decide +kernel
theorem dX10_init_266 : decode cX10_init 266 = .ok (.iastore, 1) := by decide +kernel
theorem dX10_init_267 : decode cX10_init 267 = .ok (.iinc 1 1, 3) := by decide +kernel
theorem dX10_init_270 : decode cX10_init 270 = .ok (.goto (-23), 3) := by decide +kernel
theorem dX10_init_273 : decode cX10_init 273 = .ok (.return_, 1) := by decide +kernel
theorem dX10_thrown_0 : decode cX10_thrown 0 = .ok (.aload_n 0, 1) := by decide +kernel
theorem dX10_thrown_1 : decode cX10_thrown 1 = .ok (.getfield 90, 3) := by decide +kernel
theorem dX10_thrown_4 : decode cX10_thrown 4 = .ok (.ireturn, 1) := by decide +kernel
theorem dX10_can_0 : decode cX10_can 0 = .ok (.aload_n 0, 1) := by decide +kernel
theorem dX10_can_1 : decode cX10_can 1 = .ok (.iload_n 1, 1) := by decide +kernel
theorem dX10_can_2 : decode cX10_can 2 = .ok (.putfield 90, 3) := by decide +kernel
theorem dX10_can_5 : decode cX10_can 5 = .ok (.iload_n 1, 1) := by decide +kernel
theorem dX10_can_6 : decode cX10_can 6 = .ok (.ifCond .ne 7, 3) := by decide +kernel
theorem dX10_can_9 : decode cX10_can 9 = .ok (.iconst 1, 1) := by decide +kernel
theorem dX10_can_10 : decode cX10_can 10 = .ok (.goto 4, 3) := by decide +kernel
theorem dX10_can_13 : decode cX10_can 13 = .ok (.iconst 0, 1) := by decide +kernel
theorem dX10_can_14 : decode cX10_can 14 = .ok (.ireturn, 1) := by decide +kernel
theorem dX10_isIn_0 : decode cX10_isIn 0 = .ok (.iload_n 0, 1) := by decide +kernel
theorem dX10_isIn_1 : decode cX10_isIn 1 = .ok (.iload_n 1, 1) := by decide +kernel
theorem dX10_isIn_2 : decode cX10_isIn 2 = .ok (.if_icmp .lt 12, 3) := by decide +kernel
theorem dX10_isIn_5 : decode cX10_isIn 5 = .ok (.iload_n 0, 1) := by decide +kernel
theorem dX10_isIn_6 : decode cX10_isIn 6 = .ok (.iload_n 2, 1) := by decide +kernel
theorem dX10_isIn_7 : decode cX10_isIn 7 = .ok (.if_icmp .gt 7, 3) := by decide +kernel
theorem dX10_isIn_10 : decode cX10_isIn 10 = .ok (.iconst 1, 1) := by decide +kernel
theorem dX10_isIn_11 : decode cX10_isIn 11 = .ok (.goto 4, 3) := by decide +kernel
theorem dX10_isIn_14 : decode cX10_isIn 14 = .ok (.iconst 0, 1) := by decide +kernel
theorem dX10_isIn_15 : decode cX10_isIn 15 = .ok (.ireturn, 1) := by decide +kernel
theorem dX10_isCell_0 : decode cX10_isCell 0 = .ok (.iload_n 0, 1) := by decide +kernel
theorem dX10_isCell_1 : decode cX10_isCell 1 = .ok (.iconst 0, 1) := by decide +kernel
theorem dX10_isCell_2 : decode cX10_isCell 2 = .ok (.bipush 9, 2) := by decide +kernel
theorem dX10_isCell_4 : decode cX10_isCell 4 = .ok (.invokestatic 93, 3) := by decide +kernel
theorem dX10_isCell_7 : decode cX10_isCell 7 = .ok (.ireturn, 1) := by decide +kernel
theorem dX10_isWell_0 : decode cX10_isWell 0 = .ok (.iload_n 1, 1) := by decide +kernel
theorem dX10_isWell_1 : decode cX10_isWell 1 = .ok (.iconst 0, 1) := by decide +kernel
theorem dX10_isWell_2 : decode cX10_isWell 2 = .ok (.aload_n 0, 1) := by decide +kernel
theorem dX10_isWell_3 : decode cX10_isWell 3 = .ok (.getfield 97, 3) := by decide +kernel
theorem dX10_isWell_6 : decode cX10_isWell 6 = .ok (.iconst 1, 1) := by decide +kernel
theorem dX10_isWell_7 : decode cX10_isWell 7 = .ok (.isub, 1) := by decide +kernel
theorem dX10_isWell_8 : decode cX10_isWell 8 = .ok (.invokestatic 93, 3) := by decide +kernel
theorem dX10_isWell_11 : decode cX10_isWell 11 = .ok (.ireturn, 1) := by decide +kernel
theorem dX10_isLot_0 : decode cX10_isLot 0 = .ok (.iload_n 1, 1) := by decide +kernel
theorem dX10_isLot_1 : decode cX10_isLot 1 = .ok (.iconst 0, 1) := by decide +kernel
theorem dX10_isLot_2 : decode cX10_isLot 2 = .ok (.aload_n 0, 1) := by decide +kernel
theorem dX10_isLot_3 : decode cX10_isLot 3 = .ok (.getfield 100, 3) := by decide +kernel
theorem dX10_isLot_6 : decode cX10_isLot 6 = .ok (.iconst 1, 1) := by decide +kernel
theorem dX10_isLot_7 : decode cX10_isLot 7 = .ok (.isub, 1) := by decide +kernel
theorem dX10_isLot_8 : decode cX10_isLot 8 = .ok (.invokestatic 93, 3) := by decide +kernel
theorem dX10_isLot_11 : decode cX10_isLot 11 = .ok (.ireturn, 1) := by decide +kernel
theorem dX10_isCompound_0 : decode cX10_isCompound 0 = .ok (.iload_n 0, 1) := by decide +kernel
theorem dX10_isCompound_1 : decode cX10_isCompound 1 = .ok (.iconst 0, 1) := by decide +kernel
theorem dX10_isCompound_2 : decode cX10_isCompound 2 = .ok (.bipush 7, 2) := by decide +kernel
theorem dX10_isCompound_4 : decode cX10_isCompound 4 = .ok (.invokestatic 93, 3) := by decide +kernel
theorem dX10_isCompound_7 : decode cX10_isCompound 7 = .ok (.ireturn, 1) := by decide +kernel
theorem dX10_lotRow_0 : decode cX10_lotRow 0 = .ok (.bipush 11, 2) := by decide +kernel
theorem dX10_lotRow_2 : decode cX10_lotRow 2 = .ok (.iload_n 0, 1) := by decide +kernel
theorem dX10_lotRow_3 : decode cX10_lotRow 3 = .ok (.iadd, 1) := by decide +kernel
theorem dX10_lotRow_4 : decode cX10_lotRow 4 = .ok (.ireturn, 1) := by decide +kernel
theorem dX10_rock_0 : decode cX10_rock 0 = .ok (.aload_n 0, 1) := by decide +kernel
theorem dX10_rock_1 : decode cX10_rock 1 = .ok (.iload_n 1, 1) := by decide +kernel
theorem dX10_rock_2 : decode cX10_rock 2 = .ok (.invokestatic 103, 3) := by decide +kernel
theorem dX10_rock_5 : decode cX10_rock 5 = .ok (.ifCond .ne 7, 3) := by decide +kernel
theorem dX10_rock_8 : decode cX10_rock 8 = .ok (.iconst 1, 1) := by decide +kernel
theorem dX10_rock_9 : decode cX10_rock 9 = .ok (.goto 18, 3) := by decide +kernel
theorem dX10_rock_12 : decode cX10_rock 12 = .ok (.iload_n 2, 1) := by decide +kernel
theorem dX10_rock_13 : decode cX10_rock 13 = .ok (.iconst 1, 1) := by decide +kernel
theorem dX10_rock_14 : decode cX10_rock 14 = .ok (.bipush 40, 2) := by decide +kernel
theorem dX10_rock_16 : decode cX10_rock 16 = .ok (.invokestatic 93, 3) := by decide +kernel
theorem dX10_rock_19 : decode cX10_rock 19 = .ok (.ifCond .eq 7, 3) := by decide +kernel
theorem dX10_rock_22 : decode cX10_rock 22 = .ok (.iconst 0, 1) := by decide +kernel
theorem dX10_rock_23 : decode cX10_rock 23 = .ok (.goto 4, 3) := by decide +kernel
theorem dX10_rock_26 : decode cX10_rock 26 = .ok (.iconst 2, 1) := by decide +kernel
theorem dX10_rock_27 : decode cX10_rock 27 = .ok (.invokevirtual 107, 3) := by decide +kernel
theorem dX10_rock_30 : decode cX10_rock 30 = .ok (.ifCond .ne 5, 3) := by decide +kernel
theorem dX10_rock_33 : decode cX10_rock 33 = .ok (.iconst 0, 1) := by decide +kernel
theorem dX10_rock_34 : decode cX10_rock 34 = .ok (.ireturn, 1) := by decide +kernel
theorem dX10_rock_35 : decode cX10_rock 35 = .ok (.aload_n 0, 1) := by decide +kernel
theorem dX10_rock_36 : decode cX10_rock 36 = .ok (.getfield 7, 3) := by decide +kernel
theorem dX10_rock_39 : decode cX10_rock 39 = .ok (.iload_n 1, 1) := by decide +kernel
theorem dX10_rock_40 : decode cX10_rock 40 = .ok (.iaload, 1) := by decide +kernel
theorem dX10_rock_41 : decode cX10_rock 41 = .ok (.istore_n 3, 1) := by decide +kernel
theorem dX10_rock_42 : decode cX10_rock 42 = .ok (.aload_n 0, 1) := by decide +kernel
theorem dX10_rock_43 : decode cX10_rock 43 = .ok (.getfield 7, 3) := by decide +kernel
theorem dX10_rock_46 : decode cX10_rock 46 = .ok (.iload_n 1, 1) := by decide +kernel
theorem dX10_rock_47 : decode cX10_rock 47 = .ok (.iload_n 2, 1) := by decide +kernel
theorem dX10_rock_48 : decode cX10_rock 48 = .ok (.iastore, 1) := by decide +kernel
theorem dX10_rock_49 : decode cX10_rock 49 = .ok (.iload_n 3, 1) := by decide +kernel
theorem dX10_rock_50 : decode cX10_rock 50 = .ok (.ireturn, 1) := by decide +kernel
theorem dX10_land_0 : decode cX10_land 0 = .ok (.iload_n 1, 1) := by decide +kernel
theorem dX10_land_1 : decode cX10_land 1 = .ok (.invokestatic 103, 3) := by decide +kernel
theorem dX10_land_4 : decode cX10_land 4 = .ok (.istore_n 3, 1) := by decide +kernel
theorem dX10_land_5 : decode cX10_land 5 = .ok (.iload_n 2, 1) := by decide +kernel
theorem dX10_land_6 : decode cX10_land 6 = .ok (.iconst 0, 1) := by decide +kernel
theorem dX10_land_7 : decode cX10_land 7 = .ok (.iconst 2, 1) := by decide +kernel
theorem dX10_land_8 : decode cX10_land 8 = .ok (.invokestatic 93, 3) := by decide +kernel
theorem dX10_land_11 : decode cX10_land 11 = .ok (.istore 4, 2) := by decide +kernel
theorem dX10_land_13 : decode cX10_land 13 = .ok (.aload_n 0, 1) := by decide +kernel
theorem dX10_land_14 : decode cX10_land 14 = .ok (.iload_n 3, 1) := by decide +kernel
theorem dX10_land_15 : decode cX10_land 15 = .ok (.ifCond .ne 7, 3) := by decide +kernel
theorem dX10_land_18 : decode cX10_land 18 = .ok (.iconst 1, 1) := by decide +kernel
theorem dX10_land_19 : decode cX10_land 19 = .ok (.goto 26, 3) := by decide +kernel
theorem dX10_land_22 : decode cX10_land 22 = .ok (.iload 4, 2) := by decide +kernel
theorem dX10_land_24 : decode cX10_land 24 = .ok (.ifCond .ne 7, 3) := by decide +kernel
theorem dX10_land_27 : decode cX10_land 27 = .ok (.iconst 2, 1) := by decide +kernel
theorem dX10_land_28 : decode cX10_land 28 = .ok (.goto 17, 3) := by decide +kernel
theorem dX10_land_31 : decode cX10_land 31 = .ok (.aload_n 0, 1) := by decide +kernel
theorem dX10_land_32 : decode cX10_land 32 = .ok (.getfield 22, 3) := by decide +kernel
theorem dX10_land_35 : decode cX10_land 35 = .ok (.iload_n 1, 1) := by decide +kernel
theorem dX10_land_36 : decode cX10_land 36 = .ok (.iaload, 1) := by decide +kernel
theorem dX10_land_37 : decode cX10_land 37 = .ok (.ifCond .le 7, 3) := by decide +kernel
theorem dX10_land_40 : decode cX10_land 40 = .ok (.iconst 3, 1) := by decide +kernel
theorem dX10_land_41 : decode cX10_land 41 = .ok (.goto 4, 3) := by decide +kernel
theorem dX10_land_44 : decode cX10_land 44 = .ok (.iconst 0, 1) := by decide +kernel
theorem dX10_land_45 : decode cX10_land 45 = .ok (.invokevirtual 107, 3) := by decide +kernel
theorem dX10_land_48 : decode cX10_land 48 = .ok (.ifCond .ne 5, 3) := by decide +kernel
theorem dX10_land_51 : decode cX10_land 51 = .ok (.iconst 0, 1) := by decide +kernel
theorem dX10_land_52 : decode cX10_land 52 = .ok (.ireturn, 1) := by decide +kernel
theorem dX10_land_53 : decode cX10_land 53 = .ok (.aload_n 0, 1) := by decide +kernel
theorem dX10_land_54 : decode cX10_land 54 = .ok (.getfield 13, 3) := by decide +kernel
theorem dX10_land_57 : decode cX10_land 57 = .ok (.iload_n 1, 1) := by decide +kernel
theorem dX10_land_58 : decode cX10_land 58 = .ok (.iaload, 1) := by decide +kernel
theorem dX10_land_59 : decode cX10_land 59 = .ok (.istore 5, 2) := by decide +kernel
theorem dX10_land_61 : decode cX10_land 61 = .ok (.aload_n 0, 1) := by decide +kernel
theorem dX10_land_62 : decode cX10_land 62 = .ok (.getfield 13, 3) := by decide +kernel
theorem dX10_land_65 : decode cX10_land 65 = .ok (.iload_n 1, 1) := by decide +kernel
theorem dX10_land_66 : decode cX10_land 66 = .ok (.iload_n 2, 1) := by decide +kernel
theorem dX10_land_67 : decode cX10_land 67 = .ok (.iastore, 1) := by decide +kernel
theorem dX10_land_68 : decode cX10_land 68 = .ok (.iload 5, 2) := by decide +kernel
theorem dX10_land_70 : decode cX10_land 70 = .ok (.ireturn, 1) := by decide +kernel
theorem dX10_lead_0 : decode cX10_lead 0 = .ok (.iload_n 1, 1) := by decide +kernel
theorem dX10_lead_1 : decode cX10_lead 1 = .ok (.invokestatic 103, 3) := by decide +kernel
theorem dX10_lead_4 : decode cX10_lead 4 = .ok (.ifCond .eq 19, 3) := by decide +kernel
theorem dX10_lead_7 : decode cX10_lead 7 = .ok (.iload_n 2, 1) := by decide +kernel
theorem dX10_lead_8 : decode cX10_lead 8 = .ok (.iconst (-1), 1) := by decide +kernel
theorem dX10_lead_9 : decode cX10_lead 9 = .ok (.if_icmp .eq 10, 3) := by decide +kernel
theorem dX10_lead_12 : decode cX10_lead 12 = .ok (.iload_n 2, 1) := by decide +kernel
theorem dX10_lead_13 : decode cX10_lead 13 = .ok (.invokestatic 103, 3) := by decide +kernel
theorem dX10_lead_16 : decode cX10_lead 16 = .ok (.ifCond .eq 7, 3) := by decide +kernel
theorem dX10_lead_19 : decode cX10_lead 19 = .ok (.iconst 1, 1) := by decide +kernel
theorem dX10_lead_20 : decode cX10_lead 20 = .ok (.goto 4, 3) := by decide +kernel
theorem dX10_lead_23 : decode cX10_lead 23 = .ok (.iconst 0, 1) := by decide +kernel
theorem dX10_lead_24 : decode cX10_lead 24 = .ok (.istore_n 3, 1) := by decide +kernel
theorem dX10_lead_25 : decode cX10_lead 25 = .ok (.aload_n 0, 1) := by decide +kernel
theorem dX10_lead_26 : decode cX10_lead 26 = .ok (.iload_n 3, 1) := by decide +kernel
theorem dX10_lead_27 : decode cX10_lead 27 = .ok (.ifCond .ne 7, 3) := by decide +kernel
theorem dX10_lead_30 : decode cX10_lead 30 = .ok (.iconst 1, 1) := by decide +kernel
theorem dX10_lead_31 : decode cX10_lead 31 = .ok (.goto 13, 3) := by decide +kernel
theorem dX10_lead_34 : decode cX10_lead 34 = .ok (.iload_n 2, 1) := by decide +kernel
theorem dX10_lead_35 : decode cX10_lead 35 = .ok (.iload_n 1, 1) := by decide +kernel
theorem dX10_lead_36 : decode cX10_lead 36 = .ok (.if_icmp .ge 7, 3) := by decide +kernel
theorem dX10_lead_39 : decode cX10_lead 39 = .ok (.iconst 0, 1) := by decide +kernel
theorem dX10_lead_40 : decode cX10_lead 40 = .ok (.goto 4, 3) := by decide +kernel
theorem dX10_lead_43 : decode cX10_lead 43 = .ok (.iconst 2, 1) := by decide +kernel
theorem dX10_lead_44 : decode cX10_lead 44 = .ok (.invokevirtual 107, 3) := by decide +kernel
theorem dX10_lead_47 : decode cX10_lead 47 = .ok (.ifCond .ne 5, 3) := by decide +kernel
theorem dX10_lead_50 : decode cX10_lead 50 = .ok (.iconst 0, 1) := by decide +kernel
theorem dX10_lead_51 : decode cX10_lead 51 = .ok (.ireturn, 1) := by decide +kernel
theorem dX10_lead_52 : decode cX10_lead 52 = .ok (.aload_n 0, 1) := by decide +kernel
theorem dX10_lead_53 : decode cX10_lead 53 = .ok (.getfield 16, 3) := by decide +kernel
theorem dX10_lead_56 : decode cX10_lead 56 = .ok (.iload_n 1, 1) := by decide +kernel
theorem dX10_lead_57 : decode cX10_lead 57 = .ok (.iaload, 1) := by decide +kernel
theorem dX10_lead_58 : decode cX10_lead 58 = .ok (.istore 4, 2) := by decide +kernel
theorem dX10_lead_60 : decode cX10_lead 60 = .ok (.aload_n 0, 1) := by decide +kernel
theorem dX10_lead_61 : decode cX10_lead 61 = .ok (.getfield 16, 3) := by decide +kernel
theorem dX10_lead_64 : decode cX10_lead 64 = .ok (.iload_n 1, 1) := by decide +kernel
theorem dX10_lead_65 : decode cX10_lead 65 = .ok (.iload_n 2, 1) := by decide +kernel
theorem dX10_lead_66 : decode cX10_lead 66 = .ok (.iastore, 1) := by decide +kernel
theorem dX10_lead_67 : decode cX10_lead 67 = .ok (.iload 4, 2) := by decide +kernel
theorem dX10_lead_69 : decode cX10_lead 69 = .ok (.ireturn, 1) := by decide +kernel
theorem dX10_travel_0 : decode cX10_travel 0 = .ok (.iconst 0, 1) := by decide +kernel
theorem dX10_travel_1 : decode cX10_travel 1 = .ok (.istore_n 2, 1) := by decide +kernel
theorem dX10_travel_2 : decode cX10_travel 2 = .ok (.iload_n 1, 1) := by decide +kernel
theorem dX10_travel_3 : decode cX10_travel 3 = .ok (.istore_n 3, 1) := by decide +kernel
theorem dX10_travel_4 : decode cX10_travel 4 = .ok (.iload_n 3, 1) := by decide +kernel
theorem dX10_travel_5 : decode cX10_travel 5 = .ok (.iconst (-1), 1) := by decide +kernel
theorem dX10_travel_6 : decode cX10_travel 6 = .ok (.if_icmp .eq 22, 3) := by decide +kernel
theorem dX10_travel_9 : decode cX10_travel 9 = .ok (.iload_n 2, 1) := by decide +kernel
theorem dX10_travel_10 : decode cX10_travel 10 = .ok (.aload_n 0, 1) := by decide +kernel
theorem dX10_travel_11 : decode cX10_travel 11 = .ok (.getfield 7, 3) := by decide +kernel
theorem dX10_travel_14 : decode cX10_travel 14 = .ok (.iload_n 3, 1) := by decide +kernel
theorem dX10_travel_15 : decode cX10_travel 15 = .ok (.iaload, 1) := by decide +kernel
theorem dX10_travel_16 : decode cX10_travel 16 = .ok (.iadd, 1) := by decide +kernel
theorem dX10_travel_17 : decode cX10_travel 17 = .ok (.istore_n 2, 1) := by decide +kernel
theorem dX10_travel_18 : decode cX10_travel 18 = .ok (.aload_n 0, 1) := by decide +kernel
theorem dX10_travel_19 : decode cX10_travel 19 = .ok (.getfield 16, 3) := by decide +kernel
theorem dX10_travel_22 : decode cX10_travel 22 = .ok (.iload_n 3, 1) := by decide +kernel
theorem dX10_travel_23 : decode cX10_travel 23 = .ok (.iaload, 1) := by decide +kernel
theorem dX10_travel_24 : decode cX10_travel 24 = .ok (.istore_n 3, 1) := by decide +kernel
theorem dX10_travel_25 : decode cX10_travel 25 = .ok (.goto (-21), 3) := by decide +kernel
theorem dX10_travel_28 : decode cX10_travel 28 = .ok (.iload_n 2, 1) := by decide +kernel
theorem dX10_travel_29 : decode cX10_travel 29 = .ok (.ireturn, 1) := by decide +kernel
theorem dX10_spill_0 : decode cX10_spill 0 = .ok (.iload_n 1, 1) := by decide +kernel
theorem dX10_spill_1 : decode cX10_spill 1 = .ok (.invokestatic 103, 3) := by decide +kernel
theorem dX10_spill_4 : decode cX10_spill 4 = .ok (.ifCond .eq 14, 3) := by decide +kernel
theorem dX10_spill_7 : decode cX10_spill 7 = .ok (.iload_n 2, 1) := by decide +kernel
theorem dX10_spill_8 : decode cX10_spill 8 = .ok (.invokestatic 110, 3) := by decide +kernel
theorem dX10_spill_11 : decode cX10_spill 11 = .ok (.ifCond .eq 7, 3) := by decide +kernel
theorem dX10_spill_14 : decode cX10_spill 14 = .ok (.iconst 1, 1) := by decide +kernel
theorem dX10_spill_15 : decode cX10_spill 15 = .ok (.goto 4, 3) := by decide +kernel
theorem dX10_spill_18 : decode cX10_spill 18 = .ok (.iconst 0, 1) := by decide +kernel
theorem dX10_spill_19 : decode cX10_spill 19 = .ok (.istore_n 3, 1) := by decide +kernel
theorem dX10_spill_20 : decode cX10_spill 20 = .ok (.aload_n 0, 1) := by decide +kernel
theorem dX10_spill_21 : decode cX10_spill 21 = .ok (.iload_n 3, 1) := by decide +kernel
theorem dX10_spill_22 : decode cX10_spill 22 = .ok (.ifCond .ne 7, 3) := by decide +kernel
theorem dX10_spill_25 : decode cX10_spill 25 = .ok (.iconst 1, 1) := by decide +kernel
theorem dX10_spill_26 : decode cX10_spill 26 = .ok (.goto 17, 3) := by decide +kernel
theorem dX10_spill_29 : decode cX10_spill 29 = .ok (.aload_n 0, 1) := by decide +kernel
theorem dX10_spill_30 : decode cX10_spill 30 = .ok (.iload_n 1, 1) := by decide +kernel
theorem dX10_spill_31 : decode cX10_spill 31 = .ok (.invokevirtual 113, 3) := by decide +kernel
theorem dX10_spill_34 : decode cX10_spill 34 = .ok (.iconst 5, 1) := by decide +kernel
theorem dX10_spill_35 : decode cX10_spill 35 = .ok (.if_icmp .gt 7, 3) := by decide +kernel
theorem dX10_spill_38 : decode cX10_spill 38 = .ok (.iconst 2, 1) := by decide +kernel
theorem dX10_spill_39 : decode cX10_spill 39 = .ok (.goto 4, 3) := by decide +kernel
theorem dX10_spill_42 : decode cX10_spill 42 = .ok (.iconst 0, 1) := by decide +kernel
theorem dX10_spill_43 : decode cX10_spill 43 = .ok (.invokevirtual 107, 3) := by decide +kernel
theorem dX10_spill_46 : decode cX10_spill 46 = .ok (.ifCond .ne 5, 3) := by decide +kernel
theorem dX10_spill_49 : decode cX10_spill 49 = .ok (.iconst 0, 1) := by decide +kernel
theorem dX10_spill_50 : decode cX10_spill 50 = .ok (.ireturn, 1) := by decide +kernel
theorem dX10_spill_51 : decode cX10_spill 51 = .ok (.aload_n 0, 1) := by decide +kernel
theorem dX10_spill_52 : decode cX10_spill 52 = .ok (.getfield 19, 3) := by decide +kernel
theorem dX10_spill_55 : decode cX10_spill 55 = .ok (.iload_n 1, 1) := by decide +kernel
theorem dX10_spill_56 : decode cX10_spill 56 = .ok (.dup2, 1) := by decide +kernel
theorem dX10_spill_57 : decode cX10_spill 57 = .ok (.iaload, 1) := by decide +kernel
theorem dX10_spill_58 : decode cX10_spill 58 = .ok (.iconst 1, 1) := by decide +kernel
theorem dX10_spill_59 : decode cX10_spill 59 = .ok (.iload_n 2, 1) := by decide +kernel
theorem dX10_spill_60 : decode cX10_spill 60 = .ok (.ishl, 1) := by decide +kernel
theorem dX10_spill_61 : decode cX10_spill 61 = .ok (.ior, 1) := by decide +kernel
theorem dX10_spill_62 : decode cX10_spill 62 = .ok (.iastore, 1) := by decide +kernel
theorem dX10_spill_63 : decode cX10_spill 63 = .ok (.aload_n 0, 1) := by decide +kernel
theorem dX10_spill_64 : decode cX10_spill 64 = .ok (.getfield 19, 3) := by decide +kernel
theorem dX10_spill_67 : decode cX10_spill 67 = .ok (.iload_n 1, 1) := by decide +kernel
theorem dX10_spill_68 : decode cX10_spill 68 = .ok (.iaload, 1) := by decide +kernel
theorem dX10_spill_69 : decode cX10_spill 69 = .ok (.ireturn, 1) := by decide +kernel
theorem dX10_contract_0 : decode cX10_contract 0 = .ok (.iload_n 1, 1) := by decide +kernel
theorem dX10_contract_1 : decode cX10_contract 1 = .ok (.invokestatic 103, 3) := by decide +kernel
theorem dX10_contract_4 : decode cX10_contract 4 = .ok (.istore 4, 2) := by decide +kernel
theorem dX10_contract_6 : decode cX10_contract 6 = .ok (.iload_n 2, 1) := by decide +kernel
theorem dX10_contract_7 : decode cX10_contract 7 = .ok (.iconst 1, 1) := by decide +kernel
theorem dX10_contract_8 : decode cX10_contract 8 = .ok (.bipush 30, 2) := by decide +kernel
theorem dX10_contract_10 : decode cX10_contract 10 = .ok (.invokestatic 93, 3) := by decide +kernel
theorem dX10_contract_13 : decode cX10_contract 13 = .ok (.ifCond .eq 18, 3) := by decide +kernel
theorem dX10_contract_16 : decode cX10_contract 16 = .ok (.iload_n 3, 1) := by decide +kernel
theorem dX10_contract_17 : decode cX10_contract 17 = .ok (.iconst 0, 1) := by decide +kernel
theorem dX10_contract_18 : decode cX10_contract 18 = .ok (.sipush 1000, 3) := by decide +kernel
theorem dX10_contract_21 : decode cX10_contract 21 = .ok (.invokestatic 93, 3) := by decide +kernel
theorem dX10_contract_24 : decode cX10_contract 24 = .ok (.ifCond .eq 7, 3) := by decide +kernel
theorem dX10_contract_27 : decode cX10_contract 27 = .ok (.iconst 1, 1) := by decide +kernel
theorem dX10_contract_28 : decode cX10_contract 28 = .ok (.goto 4, 3) := by decide +kernel
theorem dX10_contract_31 : decode cX10_contract 31 = .ok (.iconst 0, 1) := by decide +kernel
theorem dX10_contract_32 : decode cX10_contract 32 = .ok (.istore 5, 2) := by decide +kernel
theorem dX10_contract_34 : decode cX10_contract 34 = .ok (.aload_n 0, 1) := by decide +kernel
theorem dX10_contract_35 : decode cX10_contract 35 = .ok (.iload 4, 2) := by decide +kernel
theorem dX10_contract_37 : decode cX10_contract 37 = .ok (.ifCond .ne 7, 3) := by decide +kernel
theorem dX10_contract_40 : decode cX10_contract 40 = .ok (.iconst 1, 1) := by decide +kernel
theorem dX10_contract_41 : decode cX10_contract 41 = .ok (.goto 36, 3) := by decide +kernel
theorem dX10_contract_44 : decode cX10_contract 44 = .ok (.iload 5, 2) := by decide +kernel
theorem dX10_contract_46 : decode cX10_contract 46 = .ok (.ifCond .ne 7, 3) := by decide +kernel
theorem dX10_contract_49 : decode cX10_contract 49 = .ok (.iconst 2, 1) := by decide +kernel
theorem dX10_contract_50 : decode cX10_contract 50 = .ok (.goto 27, 3) := by decide +kernel
theorem dX10_contract_53 : decode cX10_contract 53 = .ok (.aload_n 0, 1) := by decide +kernel
theorem dX10_contract_54 : decode cX10_contract 54 = .ok (.getfield 13, 3) := by decide +kernel
theorem dX10_contract_57 : decode cX10_contract 57 = .ok (.iload_n 1, 1) := by decide +kernel
theorem dX10_contract_58 : decode cX10_contract 58 = .ok (.iaload, 1) := by decide +kernel
theorem dX10_contract_59 : decode cX10_contract 59 = .ok (.iconst 2, 1) := by decide +kernel
theorem dX10_contract_60 : decode cX10_contract 60 = .ok (.if_icmp .ne 12, 3) := by decide +kernel
theorem dX10_contract_63 : decode cX10_contract 63 = .ok (.aload_n 0, 1) := by decide +kernel
theorem dX10_contract_64 : decode cX10_contract 64 = .ok (.getfield 22, 3) := by decide +kernel
theorem dX10_contract_67 : decode cX10_contract 67 = .ok (.iload_n 1, 1) := by decide +kernel
theorem dX10_contract_68 : decode cX10_contract 68 = .ok (.iaload, 1) := by decide +kernel
theorem dX10_contract_69 : decode cX10_contract 69 = .ok (.ifCond .le 7, 3) := by decide +kernel
theorem dX10_contract_72 : decode cX10_contract 72 = .ok (.iconst 3, 1) := by decide +kernel
theorem dX10_contract_73 : decode cX10_contract 73 = .ok (.goto 4, 3) := by decide +kernel
theorem dX10_contract_76 : decode cX10_contract 76 = .ok (.iconst 0, 1) := by decide +kernel
theorem dX10_contract_77 : decode cX10_contract 77 = .ok (.invokevirtual 107, 3) := by decide +kernel
theorem dX10_contract_80 : decode cX10_contract 80 = .ok (.ifCond .eq 17, 3) := by decide +kernel
theorem dX10_contract_83 : decode cX10_contract 83 = .ok (.aload_n 0, 1) := by decide +kernel
theorem dX10_contract_84 : decode cX10_contract 84 = .ok (.getfield 22, 3) := by decide +kernel
theorem dX10_contract_87 : decode cX10_contract 87 = .ok (.iload_n 1, 1) := by decide +kernel
theorem dX10_contract_88 : decode cX10_contract 88 = .ok (.iload_n 2, 1) := by decide +kernel
theorem dX10_contract_89 : decode cX10_contract 89 = .ok (.iastore, 1) := by decide +kernel
theorem dX10_contract_90 : decode cX10_contract 90 = .ok (.aload_n 0, 1) := by decide +kernel
theorem dX10_contract_91 : decode cX10_contract 91 = .ok (.getfield 25, 3) := by decide +kernel
theorem dX10_contract_94 : decode cX10_contract 94 = .ok (.iload_n 1, 1) := by decide +kernel
theorem dX10_contract_95 : decode cX10_contract 95 = .ok (.iload_n 3, 1) := by decide +kernel
theorem dX10_contract_96 : decode cX10_contract 96 = .ok (.iastore, 1) := by decide +kernel
theorem dX10_contract_97 : decode cX10_contract 97 = .ok (.return_, 1) := by decide +kernel
theorem dX10_appends_0 : decode cX10_appends 0 = .ok (.aload_n 0, 1) := by decide +kernel
theorem dX10_appends_1 : decode cX10_appends 1 = .ok (.getfield 37, 3) := by decide +kernel
theorem dX10_appends_4 : decode cX10_appends 4 = .ok (.iload_n 2, 1) := by decide +kernel
theorem dX10_appends_5 : decode cX10_appends 5 = .ok (.iconst (-1), 1) := by decide +kernel
theorem dX10_appends_6 : decode cX10_appends 6 = .ok (.iastore, 1) := by decide +kernel
theorem dX10_appends_7 : decode cX10_appends 7 = .ok (.aload_n 0, 1) := by decide +kernel
theorem dX10_appends_8 : decode cX10_appends 8 = .ok (.getfield 31, 3) := by decide +kernel
theorem dX10_appends_11 : decode cX10_appends 11 = .ok (.iload_n 1, 1) := by decide +kernel
theorem dX10_appends_12 : decode cX10_appends 12 = .ok (.iaload, 1) := by decide +kernel
theorem dX10_appends_13 : decode cX10_appends 13 = .ok (.iconst (-1), 1) := by decide +kernel
theorem dX10_appends_14 : decode cX10_appends 14 = .ok (.if_icmp .ne 13, 3) := by decide +kernel
theorem dX10_appends_17 : decode cX10_appends 17 = .ok (.aload_n 0, 1) := by decide +kernel
theorem dX10_appends_18 : decode cX10_appends 18 = .ok (.getfield 28, 3) := by decide +kernel
theorem dX10_appends_21 : decode cX10_appends 21 = .ok (.iload_n 1, 1) := by decide +kernel
theorem dX10_appends_22 : decode cX10_appends 22 = .ok (.iload_n 2, 1) := by decide +kernel
theorem dX10_appends_23 : decode cX10_appends 23 = .ok (.iastore, 1) := by decide +kernel
theorem dX10_appends_24 : decode cX10_appends 24 = .ok (.goto 15, 3) := by decide +kernel
theorem dX10_appends_27 : decode cX10_appends 27 = .ok (.aload_n 0, 1) := by decide +kernel
theorem dX10_appends_28 : decode cX10_appends 28 = .ok (.getfield 37, 3) := by decide +kernel
theorem dX10_appends_31 : decode cX10_appends 31 = .ok (.aload_n 0, 1) := by decide +kernel
theorem dX10_appends_32 : decode cX10_appends 32 = .ok (.getfield 31, 3) := by decide +kernel
theorem dX10_appends_35 : decode cX10_appends 35 = .ok (.iload_n 1, 1) := by decide +kernel
theorem dX10_appends_36 : decode cX10_appends 36 = .ok (.iaload, 1) := by decide +kernel
theorem dX10_appends_37 : decode cX10_appends 37 = .ok (.iload_n 2, 1) := by decide +kernel
theorem dX10_appends_38 : decode cX10_appends 38 = .ok (.iastore, 1) := by decide +kernel
theorem dX10_appends_39 : decode cX10_appends 39 = .ok (.aload_n 0, 1) := by decide +kernel
theorem dX10_appends_40 : decode cX10_appends 40 = .ok (.getfield 31, 3) := by decide +kernel
theorem dX10_appends_43 : decode cX10_appends 43 = .ok (.iload_n 1, 1) := by decide +kernel
theorem dX10_appends_44 : decode cX10_appends 44 = .ok (.iload_n 2, 1) := by decide +kernel
theorem dX10_appends_45 : decode cX10_appends 45 = .ok (.iastore, 1) := by decide +kernel
theorem dX10_appends_46 : decode cX10_appends 46 = .ok (.aload_n 0, 1) := by decide +kernel
theorem dX10_appends_47 : decode cX10_appends 47 = .ok (.getfield 34, 3) := by decide +kernel
theorem dX10_appends_50 : decode cX10_appends 50 = .ok (.iload_n 1, 1) := by decide +kernel
theorem dX10_appends_51 : decode cX10_appends 51 = .ok (.dup2, 1) := by decide +kernel
theorem dX10_appends_52 : decode cX10_appends 52 = .ok (.iaload, 1) := by decide +kernel
theorem dX10_appends_53 : decode cX10_appends 53 = .ok (.aload_n 0, 1) := by decide +kernel
theorem dX10_appends_54 : decode cX10_appends 54 = .ok (.getfield 40, 3) := by decide +kernel
theorem dX10_appends_57 : decode cX10_appends 57 = .ok (.iload_n 2, 1) := by decide +kernel
theorem dX10_appends_58 : decode cX10_appends 58 = .ok (.iaload, 1) := by decide +kernel
theorem dX10_appends_59 : decode cX10_appends 59 = .ok (.iadd, 1) := by decide +kernel
theorem dX10_appends_60 : decode cX10_appends 60 = .ok (.iastore, 1) := by decide +kernel
theorem dX10_appends_61 : decode cX10_appends 61 = .ok (.return_, 1) := by decide +kernel
theorem dX10_knots_0 : decode cX10_knots 0 = .ok (.aload_n 0, 1) := by decide +kernel
theorem dX10_knots_1 : decode cX10_knots 1 = .ok (.getfield 40, 3) := by decide +kernel
theorem dX10_knots_4 : decode cX10_knots 4 = .ok (.aload_n 0, 1) := by decide +kernel
theorem dX10_knots_5 : decode cX10_knots 5 = .ok (.getfield 117, 3) := by decide +kernel
theorem dX10_knots_8 : decode cX10_knots 8 = .ok (.iload_n 1, 1) := by decide +kernel
theorem dX10_knots_9 : decode cX10_knots 9 = .ok (.iastore, 1) := by decide +kernel
theorem dX10_knots_10 : decode cX10_knots 10 = .ok (.aload_n 0, 1) := by decide +kernel
theorem dX10_knots_11 : decode cX10_knots 11 = .ok (.getfield 43, 3) := by decide +kernel
theorem dX10_knots_14 : decode cX10_knots 14 = .ok (.aload_n 0, 1) := by decide +kernel
theorem dX10_knots_15 : decode cX10_knots 15 = .ok (.getfield 117, 3) := by decide +kernel
theorem dX10_knots_18 : decode cX10_knots 18 = .ok (.iload_n 2, 1) := by decide +kernel
theorem dX10_knots_19 : decode cX10_knots 19 = .ok (.iastore, 1) := by decide +kernel
theorem dX10_knots_20 : decode cX10_knots 20 = .ok (.aload_n 0, 1) := by decide +kernel
theorem dX10_knots_21 : decode cX10_knots 21 = .ok (.getfield 46, 3) := by decide +kernel
theorem dX10_knots_24 : decode cX10_knots 24 = .ok (.aload_n 0, 1) := by decide +kernel
theorem dX10_knots_25 : decode cX10_knots 25 = .ok (.getfield 117, 3) := by decide +kernel
theorem dX10_knots_28 : decode cX10_knots 28 = .ok (.iload_n 3, 1) := by decide +kernel
theorem dX10_knots_29 : decode cX10_knots 29 = .ok (.iastore, 1) := by decide +kernel
theorem dX10_knots_30 : decode cX10_knots 30 = .ok (.aload_n 0, 1) := by decide +kernel
theorem dX10_knots_31 : decode cX10_knots 31 = .ok (.getfield 49, 3) := by decide +kernel
theorem dX10_knots_34 : decode cX10_knots 34 = .ok (.aload_n 0, 1) := by decide +kernel
theorem dX10_knots_35 : decode cX10_knots 35 = .ok (.getfield 117, 3) := by decide +kernel
theorem dX10_knots_38 : decode cX10_knots 38 = .ok (.iload 4, 2) := by decide +kernel
theorem dX10_knots_40 : decode cX10_knots 40 = .ok (.iastore, 1) := by decide +kernel
theorem dX10_knots_41 : decode cX10_knots 41 = .ok (.aload_n 0, 1) := by decide +kernel
theorem dX10_knots_42 : decode cX10_knots 42 = .ok (.getfield 52, 3) := by decide +kernel
theorem dX10_knots_45 : decode cX10_knots 45 = .ok (.aload_n 0, 1) := by decide +kernel
theorem dX10_knots_46 : decode cX10_knots 46 = .ok (.getfield 117, 3) := by decide +kernel
theorem dX10_knots_49 : decode cX10_knots 49 = .ok (.iload 5, 2) := by decide +kernel
theorem dX10_knots_51 : decode cX10_knots 51 = .ok (.iastore, 1) := by decide +kernel
theorem dX10_knots_52 : decode cX10_knots 52 = .ok (.aload_n 0, 1) := by decide +kernel
theorem dX10_knots_53 : decode cX10_knots 53 = .ok (.dup, 1) := by decide +kernel
theorem dX10_knots_54 : decode cX10_knots 54 = .ok (.getfield 117, 3) := by decide +kernel
theorem dX10_knots_57 : decode cX10_knots 57 = .ok (.iconst 1, 1) := by decide +kernel
theorem dX10_knots_58 : decode cX10_knots 58 = .ok (.iadd, 1) := by decide +kernel
theorem dX10_knots_59 : decode cX10_knots 59 = .ok (.putfield 117, 3) := by decide +kernel
theorem dX10_knots_62 : decode cX10_knots 62 = .ok (.aload_n 0, 1) := by decide +kernel
theorem dX10_knots_63 : decode cX10_knots 63 = .ok (.getfield 117, 3) := by decide +kernel
theorem dX10_knots_66 : decode cX10_knots 66 = .ok (.iconst 1, 1) := by decide +kernel
theorem dX10_knots_67 : decode cX10_knots 67 = .ok (.isub, 1) := by decide +kernel
theorem dX10_knots_68 : decode cX10_knots 68 = .ok (.ireturn, 1) := by decide +kernel
theorem dX10_takesOff_0 : decode cX10_takesOff 0 = .ok (.aload_n 0, 1) := by decide +kernel
theorem dX10_takesOff_1 : decode cX10_takesOff 1 = .ok (.getfield 28, 3) := by decide +kernel
theorem dX10_takesOff_4 : decode cX10_takesOff 4 = .ok (.iload_n 1, 1) := by decide +kernel
theorem dX10_takesOff_5 : decode cX10_takesOff 5 = .ok (.iaload, 1) := by decide +kernel
theorem dX10_takesOff_6 : decode cX10_takesOff 6 = .ok (.istore_n 3, 1) := by decide +kernel
theorem dX10_takesOff_7 : decode cX10_takesOff 7 = .ok (.aload_n 0, 1) := by decide +kernel
theorem dX10_takesOff_8 : decode cX10_takesOff 8 = .ok (.getfield 40, 3) := by decide +kernel
theorem dX10_takesOff_11 : decode cX10_takesOff 11 = .ok (.iload_n 3, 1) := by decide +kernel
theorem dX10_takesOff_12 : decode cX10_takesOff 12 = .ok (.iaload, 1) := by decide +kernel
theorem dX10_takesOff_13 : decode cX10_takesOff 13 = .ok (.iload_n 2, 1) := by decide +kernel
theorem dX10_takesOff_14 : decode cX10_takesOff 14 = .ok (.if_icmp .le 53, 3) := by decide +kernel
theorem dX10_takesOff_17 : decode cX10_takesOff 17 = .ok (.aload_n 0, 1) := by decide +kernel
theorem dX10_takesOff_18 : decode cX10_takesOff 18 = .ok (.getfield 40, 3) := by decide +kernel
theorem dX10_takesOff_21 : decode cX10_takesOff 21 = .ok (.iload_n 3, 1) := by decide +kernel
theorem dX10_takesOff_22 : decode cX10_takesOff 22 = .ok (.dup2, 1) := by decide +kernel
theorem dX10_takesOff_23 : decode cX10_takesOff 23 = .ok (.iaload, 1) := by decide +kernel
theorem dX10_takesOff_24 : decode cX10_takesOff 24 = .ok (.iload_n 2, 1) := by decide +kernel
theorem dX10_takesOff_25 : decode cX10_takesOff 25 = .ok (.isub, 1) := by decide +kernel
theorem dX10_takesOff_26 : decode cX10_takesOff 26 = .ok (.iastore, 1) := by decide +kernel
theorem dX10_takesOff_27 : decode cX10_takesOff 27 = .ok (.aload_n 0, 1) := by decide +kernel
theorem dX10_takesOff_28 : decode cX10_takesOff 28 = .ok (.getfield 34, 3) := by decide +kernel
theorem dX10_takesOff_31 : decode cX10_takesOff 31 = .ok (.iload_n 1, 1) := by decide +kernel
theorem dX10_takesOff_32 : decode cX10_takesOff 32 = .ok (.dup2, 1) := by decide +kernel
theorem dX10_takesOff_33 : decode cX10_takesOff 33 = .ok (.iaload, 1) := by decide +kernel
theorem dX10_takesOff_34 : decode cX10_takesOff 34 = .ok (.iload_n 2, 1) := by decide +kernel
theorem dX10_takesOff_35 : decode cX10_takesOff 35 = .ok (.isub, 1) := by decide +kernel
theorem dX10_takesOff_36 : decode cX10_takesOff 36 = .ok (.iastore, 1) := by decide +kernel
theorem dX10_takesOff_37 : decode cX10_takesOff 37 = .ok (.aload_n 0, 1) := by decide +kernel
theorem dX10_takesOff_38 : decode cX10_takesOff 38 = .ok (.iload_n 2, 1) := by decide +kernel
theorem dX10_takesOff_39 : decode cX10_takesOff 39 = .ok (.aload_n 0, 1) := by decide +kernel
theorem dX10_takesOff_40 : decode cX10_takesOff 40 = .ok (.getfield 43, 3) := by decide +kernel
theorem dX10_takesOff_43 : decode cX10_takesOff 43 = .ok (.iload_n 3, 1) := by decide +kernel
theorem dX10_takesOff_44 : decode cX10_takesOff 44 = .ok (.iaload, 1) := by decide +kernel
theorem dX10_takesOff_45 : decode cX10_takesOff 45 = .ok (.aload_n 0, 1) := by decide +kernel
theorem dX10_takesOff_46 : decode cX10_takesOff 46 = .ok (.getfield 46, 3) := by decide +kernel
theorem dX10_takesOff_49 : decode cX10_takesOff 49 = .ok (.iload_n 3, 1) := by decide +kernel
theorem dX10_takesOff_50 : decode cX10_takesOff 50 = .ok (.iaload, 1) := by decide +kernel
theorem dX10_takesOff_51 : decode cX10_takesOff 51 = .ok (.aload_n 0, 1) := by decide +kernel
theorem dX10_takesOff_52 : decode cX10_takesOff 52 = .ok (.getfield 49, 3) := by decide +kernel
theorem dX10_takesOff_55 : decode cX10_takesOff 55 = .ok (.iload_n 3, 1) := by decide +kernel
theorem dX10_takesOff_56 : decode cX10_takesOff 56 = .ok (.iaload, 1) := by decide +kernel
theorem dX10_takesOff_57 : decode cX10_takesOff 57 = .ok (.aload_n 0, 1) := by decide +kernel
theorem dX10_takesOff_58 : decode cX10_takesOff 58 = .ok (.getfield 52, 3) := by decide +kernel
theorem dX10_takesOff_61 : decode cX10_takesOff 61 = .ok (.iload_n 3, 1) := by decide +kernel
theorem dX10_takesOff_62 : decode cX10_takesOff 62 = .ok (.iaload, 1) := by decide +kernel
theorem dX10_takesOff_63 : decode cX10_takesOff 63 = .ok (.invokevirtual 120, 3) := by decide +kernel
theorem dX10_takesOff_66 : decode cX10_takesOff 66 = .ok (.ireturn, 1) := by decide +kernel
theorem dX10_takesOff_67 : decode cX10_takesOff 67 = .ok (.aload_n 0, 1) := by decide +kernel
theorem dX10_takesOff_68 : decode cX10_takesOff 68 = .ok (.getfield 28, 3) := by decide +kernel
theorem dX10_takesOff_71 : decode cX10_takesOff 71 = .ok (.iload_n 1, 1) := by decide +kernel
theorem dX10_takesOff_72 : decode cX10_takesOff 72 = .ok (.aload_n 0, 1) := by decide +kernel
theorem dX10_takesOff_73 : decode cX10_takesOff 73 = .ok (.getfield 37, 3) := by decide +kernel
theorem dX10_takesOff_76 : decode cX10_takesOff 76 = .ok (.iload_n 3, 1) := by decide +kernel
theorem dX10_takesOff_77 : decode cX10_takesOff 77 = .ok (.iaload, 1) := by decide +kernel
theorem dX10_takesOff_78 : decode cX10_takesOff 78 = .ok (.iastore, 1) := by decide +kernel
theorem dX10_takesOff_79 : decode cX10_takesOff 79 = .ok (.aload_n 0, 1) := by decide +kernel
theorem dX10_takesOff_80 : decode cX10_takesOff 80 = .ok (.getfield 31, 3) := by decide +kernel
theorem dX10_takesOff_83 : decode cX10_takesOff 83 = .ok (.iload_n 1, 1) := by decide +kernel
theorem dX10_takesOff_84 : decode cX10_takesOff 84 = .ok (.aload_n 0, 1) := by decide +kernel
theorem dX10_takesOff_85 : decode cX10_takesOff 85 = .ok (.getfield 28, 3) := by decide +kernel
theorem dX10_takesOff_88 : decode cX10_takesOff 88 = .ok (.iload_n 1, 1) := by decide +kernel
theorem dX10_takesOff_89 : decode cX10_takesOff 89 = .ok (.iaload, 1) := by decide +kernel
theorem dX10_takesOff_90 : decode cX10_takesOff 90 = .ok (.iconst (-1), 1) := by decide +kernel
theorem dX10_takesOff_91 : decode cX10_takesOff 91 = .ok (.if_icmp .ne 7, 3) := by decide +kernel
theorem dX10_takesOff_94 : decode cX10_takesOff 94 = .ok (.iconst (-1), 1) := by decide +kernel
theorem dX10_takesOff_95 : decode cX10_takesOff 95 = .ok (.goto 9, 3) := by decide +kernel
theorem dX10_takesOff_98 : decode cX10_takesOff 98 = .ok (.aload_n 0, 1) := by decide +kernel
theorem dX10_takesOff_99 : decode cX10_takesOff 99 = .ok (.getfield 31, 3) := by decide +kernel
theorem dX10_takesOff_102 : decode cX10_takesOff 102 = .ok (.iload_n 1, 1) := by decide +kernel
theorem dX10_takesOff_103 : decode cX10_takesOff 103 = .ok (.iaload, 1) := by decide +kernel
theorem dX10_takesOff_104 : decode cX10_takesOff 104 = .ok (.iastore, 1) := by decide +kernel
theorem dX10_takesOff_105 : decode cX10_takesOff 105 = .ok (.aload_n 0, 1) := by decide +kernel
theorem dX10_takesOff_106 : decode cX10_takesOff 106 = .ok (.getfield 34, 3) := by decide +kernel
theorem dX10_takesOff_109 : decode cX10_takesOff 109 = .ok (.iload_n 1, 1) := by decide +kernel
theorem dX10_takesOff_110 : decode cX10_takesOff 110 = .ok (.dup2, 1) := by decide +kernel
theorem dX10_takesOff_111 : decode cX10_takesOff 111 = .ok (.iaload, 1) := by decide +kernel
theorem dX10_takesOff_112 : decode cX10_takesOff 112 = .ok (.aload_n 0, 1) := by decide +kernel
theorem dX10_takesOff_113 : decode cX10_takesOff 113 = .ok (.getfield 40, 3) := by decide +kernel
theorem dX10_takesOff_116 : decode cX10_takesOff 116 = .ok (.iload_n 3, 1) := by decide +kernel
theorem dX10_takesOff_117 : decode cX10_takesOff 117 = .ok (.iaload, 1) := by decide +kernel
theorem dX10_takesOff_118 : decode cX10_takesOff 118 = .ok (.isub, 1) := by decide +kernel
theorem dX10_takesOff_119 : decode cX10_takesOff 119 = .ok (.iastore, 1) := by decide +kernel
theorem dX10_takesOff_120 : decode cX10_takesOff 120 = .ok (.iload_n 3, 1) := by decide +kernel
theorem dX10_takesOff_121 : decode cX10_takesOff 121 = .ok (.ireturn, 1) := by decide +kernel
theorem dX10_moves_0 : decode cX10_moves 0 = .ok (.iload_n 3, 1) := by decide +kernel
theorem dX10_moves_1 : decode cX10_moves 1 = .ok (.istore 4, 2) := by decide +kernel
theorem dX10_moves_3 : decode cX10_moves 3 = .ok (.iload 4, 2) := by decide +kernel
theorem dX10_moves_5 : decode cX10_moves 5 = .ok (.ifCond .le 34, 3) := by decide +kernel
theorem dX10_moves_8 : decode cX10_moves 8 = .ok (.aload_n 0, 1) := by decide +kernel
theorem dX10_moves_9 : decode cX10_moves 9 = .ok (.iload_n 1, 1) := by decide +kernel
theorem dX10_moves_10 : decode cX10_moves 10 = .ok (.iload 4, 2) := by decide +kernel
theorem dX10_moves_12 : decode cX10_moves 12 = .ok (.invokevirtual 123, 3) := by decide +kernel
theorem dX10_moves_15 : decode cX10_moves 15 = .ok (.istore 5, 2) := by decide +kernel
theorem dX10_moves_17 : decode cX10_moves 17 = .ok (.iload 4, 2) := by decide +kernel
theorem dX10_moves_19 : decode cX10_moves 19 = .ok (.aload_n 0, 1) := by decide +kernel
theorem dX10_moves_20 : decode cX10_moves 20 = .ok (.getfield 40, 3) := by decide +kernel
theorem dX10_moves_23 : decode cX10_moves 23 = .ok (.iload 5, 2) := by decide +kernel
theorem dX10_moves_25 : decode cX10_moves 25 = .ok (.iaload, 1) := by decide +kernel
theorem dX10_moves_26 : decode cX10_moves 26 = .ok (.isub, 1) := by decide +kernel
theorem dX10_moves_27 : decode cX10_moves 27 = .ok (.istore 4, 2) := by decide +kernel
theorem dX10_moves_29 : decode cX10_moves 29 = .ok (.aload_n 0, 1) := by decide +kernel
theorem dX10_moves_30 : decode cX10_moves 30 = .ok (.iload_n 2, 1) := by decide +kernel
theorem dX10_moves_31 : decode cX10_moves 31 = .ok (.iload 5, 2) := by decide +kernel
theorem dX10_moves_33 : decode cX10_moves 33 = .ok (.invokevirtual 127, 3) := by decide +kernel
theorem dX10_moves_36 : decode cX10_moves 36 = .ok (.goto (-33), 3) := by decide +kernel
theorem dX10_moves_39 : decode cX10_moves 39 = .ok (.return_, 1) := by decide +kernel
theorem dX10_rains_0 : decode cX10_rains 0 = .ok (.iload_n 2, 1) := by decide +kernel
theorem dX10_rains_1 : decode cX10_rains 1 = .ok (.ifCond .le 82, 3) := by decide +kernel
theorem dX10_rains_4 : decode cX10_rains 4 = .ok (.aload_n 0, 1) := by decide +kernel
theorem dX10_rains_5 : decode cX10_rains 5 = .ok (.getfield 13, 3) := by decide +kernel
theorem dX10_rains_8 : decode cX10_rains 8 = .ok (.iload_n 1, 1) := by decide +kernel
theorem dX10_rains_9 : decode cX10_rains 9 = .ok (.iaload, 1) := by decide +kernel
theorem dX10_rains_10 : decode cX10_rains 10 = .ok (.ifCond .ne 7, 3) := by decide +kernel
theorem dX10_rains_13 : decode cX10_rains 13 = .ok (.iconst 1, 1) := by decide +kernel
theorem dX10_rains_14 : decode cX10_rains 14 = .ok (.goto 28, 3) := by decide +kernel
theorem dX10_rains_17 : decode cX10_rains 17 = .ok (.aload_n 0, 1) := by decide +kernel
theorem dX10_rains_18 : decode cX10_rains 18 = .ok (.getfield 13, 3) := by decide +kernel
theorem dX10_rains_21 : decode cX10_rains 21 = .ok (.iload_n 1, 1) := by decide +kernel
theorem dX10_rains_22 : decode cX10_rains 22 = .ok (.iaload, 1) := by decide +kernel
theorem dX10_rains_23 : decode cX10_rains 23 = .ok (.iconst 2, 1) := by decide +kernel
theorem dX10_rains_24 : decode cX10_rains 24 = .ok (.if_icmp .ne 17, 3) := by decide +kernel
theorem dX10_rains_27 : decode cX10_rains 27 = .ok (.aload_n 0, 1) := by decide +kernel
theorem dX10_rains_28 : decode cX10_rains 28 = .ok (.getfield 22, 3) := by decide +kernel
theorem dX10_rains_31 : decode cX10_rains 31 = .ok (.iload_n 1, 1) := by decide +kernel
theorem dX10_rains_32 : decode cX10_rains 32 = .ok (.iaload, 1) := by decide +kernel
theorem dX10_rains_33 : decode cX10_rains 33 = .ok (.ifCond .ne 8, 3) := by decide +kernel
theorem dX10_rains_36 : decode cX10_rains 36 = .ok (.bipush 10, 2) := by decide +kernel
theorem dX10_rains_38 : decode cX10_rains 38 = .ok (.goto 4, 3) := by decide +kernel
theorem dX10_rains_41 : decode cX10_rains 41 = .ok (.iconst 3, 1) := by decide +kernel
theorem dX10_rains_42 : decode cX10_rains 42 = .ok (.istore_n 3, 1) := by decide +kernel
theorem dX10_rains_43 : decode cX10_rains 43 = .ok (.aload_n 0, 1) := by decide +kernel
theorem dX10_rains_44 : decode cX10_rains 44 = .ok (.iload_n 1, 1) := by decide +kernel
theorem dX10_rains_45 : decode cX10_rains 45 = .ok (.aload_n 0, 1) := by decide +kernel
theorem dX10_rains_46 : decode cX10_rains 46 = .ok (.iload_n 2, 1) := by decide +kernel
theorem dX10_rains_47 : decode cX10_rains 47 = .ok (.iload_n 1, 1) := by decide +kernel
theorem dX10_rains_48 : decode cX10_rains 48 = .ok (.aload_n 0, 1) := by decide +kernel
theorem dX10_rains_49 : decode cX10_rains 49 = .ok (.getfield 131, 3) := by decide +kernel
theorem dX10_rains_52 : decode cX10_rains 52 = .ok (.iload_n 3, 1) := by decide +kernel
theorem dX10_rains_53 : decode cX10_rains 53 = .ok (.aload_n 0, 1) := by decide +kernel
theorem dX10_rains_54 : decode cX10_rains 54 = .ok (.getfield 19, 3) := by decide +kernel
theorem dX10_rains_57 : decode cX10_rains 57 = .ok (.iload_n 1, 1) := by decide +kernel
theorem dX10_rains_58 : decode cX10_rains 58 = .ok (.iaload, 1) := by decide +kernel
theorem dX10_rains_59 : decode cX10_rains 59 = .ok (.invokevirtual 120, 3) := by decide +kernel
theorem dX10_rains_62 : decode cX10_rains 62 = .ok (.invokevirtual 127, 3) := by decide +kernel
theorem dX10_rains_65 : decode cX10_rains 65 = .ok (.aload_n 0, 1) := by decide +kernel
theorem dX10_rains_66 : decode cX10_rains 66 = .ok (.getfield 19, 3) := by decide +kernel
theorem dX10_rains_69 : decode cX10_rains 69 = .ok (.iload_n 1, 1) := by decide +kernel
theorem dX10_rains_70 : decode cX10_rains 70 = .ok (.iconst 0, 1) := by decide +kernel
theorem dX10_rains_71 : decode cX10_rains 71 = .ok (.iastore, 1) := by decide +kernel
theorem dX10_rains_72 : decode cX10_rains 72 = .ok (.aload_n 0, 1) := by decide +kernel
theorem dX10_rains_73 : decode cX10_rains 73 = .ok (.dup, 1) := by decide +kernel
theorem dX10_rains_74 : decode cX10_rains 74 = .ok (.getfield 134, 3) := by decide +kernel
theorem dX10_rains_77 : decode cX10_rains 77 = .ok (.iload_n 2, 1) := by decide +kernel
theorem dX10_rains_78 : decode cX10_rains 78 = .ok (.i2l, 1) := by decide +kernel
theorem dX10_rains_79 : decode cX10_rains 79 = .ok (.ladd, 1) := by decide +kernel
theorem dX10_rains_80 : decode cX10_rains 80 = .ok (.putfield 134, 3) := by decide +kernel
theorem dX10_rains_83 : decode cX10_rains 83 = .ok (.return_, 1) := by decide +kernel
theorem dX10_passes_0 : decode cX10_passes 0 = .ok (.aload_n 0, 1) := by decide +kernel
theorem dX10_passes_1 : decode cX10_passes 1 = .ok (.getfield 28, 3) := by decide +kernel
theorem dX10_passes_4 : decode cX10_passes 4 = .ok (.bipush 10, 2) := by decide +kernel
theorem dX10_passes_6 : decode cX10_passes 6 = .ok (.iconst (-1), 1) := by decide +kernel
theorem dX10_passes_7 : decode cX10_passes 7 = .ok (.iastore, 1) := by decide +kernel
theorem dX10_passes_8 : decode cX10_passes 8 = .ok (.aload_n 0, 1) := by decide +kernel
theorem dX10_passes_9 : decode cX10_passes 9 = .ok (.getfield 31, 3) := by decide +kernel
theorem dX10_passes_12 : decode cX10_passes 12 = .ok (.bipush 10, 2) := by decide +kernel
theorem dX10_passes_14 : decode cX10_passes 14 = .ok (.iconst (-1), 1) := by decide +kernel
theorem dX10_passes_15 : decode cX10_passes 15 = .ok (.iastore, 1) := by decide +kernel
theorem dX10_passes_16 : decode cX10_passes 16 = .ok (.aload_n 0, 1) := by decide +kernel
theorem dX10_passes_17 : decode cX10_passes 17 = .ok (.getfield 34, 3) := by decide +kernel
theorem dX10_passes_20 : decode cX10_passes 20 = .ok (.bipush 10, 2) := by decide +kernel
theorem dX10_passes_22 : decode cX10_passes 22 = .ok (.iconst 0, 1) := by decide +kernel
theorem dX10_passes_23 : decode cX10_passes 23 = .ok (.iastore, 1) := by decide +kernel
theorem dX10_passes_24 : decode cX10_passes 24 = .ok (.iconst 0, 1) := by decide +kernel
theorem dX10_passes_25 : decode cX10_passes 25 = .ok (.istore_n 2, 1) := by decide +kernel
theorem dX10_passes_26 : decode cX10_passes 26 = .ok (.iload_n 2, 1) := by decide +kernel
theorem dX10_passes_27 : decode cX10_passes 27 = .ok (.bipush 10, 2) := by decide +kernel
theorem dX10_passes_29 : decode cX10_passes 29 = .ok (.if_icmp .ge 28, 3) := by decide +kernel
theorem dX10_passes_32 : decode cX10_passes 32 = .ok (.aload_n 0, 1) := by decide +kernel
theorem dX10_passes_33 : decode cX10_passes 33 = .ok (.getfield 55, 3) := by decide +kernel
theorem dX10_passes_36 : decode cX10_passes 36 = .ok (.iload_n 2, 1) := by decide +kernel
theorem dX10_passes_37 : decode cX10_passes 37 = .ok (.aload_n 0, 1) := by decide +kernel
theorem dX10_passes_38 : decode cX10_passes 38 = .ok (.getfield 34, 3) := by decide +kernel
theorem dX10_passes_41 : decode cX10_passes 41 = .ok (.iload_n 2, 1) := by decide +kernel
theorem dX10_passes_42 : decode cX10_passes 42 = .ok (.iaload, 1) := by decide +kernel
theorem dX10_passes_43 : decode cX10_passes 43 = .ok (.aload_n 0, 1) := by decide +kernel
theorem dX10_passes_44 : decode cX10_passes 44 = .ok (.getfield 7, 3) := by decide +kernel
theorem dX10_passes_47 : decode cX10_passes 47 = .ok (.iload_n 2, 1) := by decide +kernel
theorem dX10_passes_48 : decode cX10_passes 48 = .ok (.iaload, 1) := by decide +kernel
theorem dX10_passes_49 : decode cX10_passes 49 = .ok (.idiv, 1) := by decide +kernel
theorem dX10_passes_50 : decode cX10_passes 50 = .ok (.iastore, 1) := by decide +kernel
theorem dX10_passes_51 : decode cX10_passes 51 = .ok (.iinc 2 1, 3) := by decide +kernel
theorem dX10_passes_54 : decode cX10_passes 54 = .ok (.goto (-28), 3) := by decide +kernel
theorem dX10_passes_57 : decode cX10_passes 57 = .ok (.iconst 0, 1) := by decide +kernel
theorem dX10_passes_58 : decode cX10_passes 58 = .ok (.istore_n 2, 1) := by decide +kernel
theorem dX10_passes_59 : decode cX10_passes 59 = .ok (.iload_n 2, 1) := by decide +kernel
theorem dX10_passes_60 : decode cX10_passes 60 = .ok (.bipush 10, 2) := by decide +kernel
theorem dX10_passes_62 : decode cX10_passes 62 = .ok (.if_icmp .ge 41, 3) := by decide +kernel
theorem dX10_passes_65 : decode cX10_passes 65 = .ok (.aload_n 0, 1) := by decide +kernel
theorem dX10_passes_66 : decode cX10_passes 66 = .ok (.iload_n 2, 1) := by decide +kernel
theorem dX10_passes_67 : decode cX10_passes 67 = .ok (.aload_n 0, 1) := by decide +kernel
theorem dX10_passes_68 : decode cX10_passes 68 = .ok (.getfield 16, 3) := by decide +kernel
theorem dX10_passes_71 : decode cX10_passes 71 = .ok (.iload_n 2, 1) := by decide +kernel
theorem dX10_passes_72 : decode cX10_passes 72 = .ok (.iaload, 1) := by decide +kernel
theorem dX10_passes_73 : decode cX10_passes 73 = .ok (.iconst (-1), 1) := by decide +kernel
theorem dX10_passes_74 : decode cX10_passes 74 = .ok (.if_icmp .ne 8, 3) := by decide +kernel
theorem dX10_passes_77 : decode cX10_passes 77 = .ok (.bipush 10, 2) := by decide +kernel
theorem dX10_passes_79 : decode cX10_passes 79 = .ok (.goto 9, 3) := by decide +kernel
theorem dX10_passes_82 : decode cX10_passes 82 = .ok (.aload_n 0, 1) := by decide +kernel
theorem dX10_passes_83 : decode cX10_passes 83 = .ok (.getfield 16, 3) := by decide +kernel
theorem dX10_passes_86 : decode cX10_passes 86 = .ok (.iload_n 2, 1) := by decide +kernel
theorem dX10_passes_87 : decode cX10_passes 87 = .ok (.iaload, 1) := by decide +kernel
theorem dX10_passes_88 : decode cX10_passes 88 = .ok (.aload_n 0, 1) := by decide +kernel
theorem dX10_passes_89 : decode cX10_passes 89 = .ok (.getfield 55, 3) := by decide +kernel
theorem dX10_passes_92 : decode cX10_passes 92 = .ok (.iload_n 2, 1) := by decide +kernel
theorem dX10_passes_93 : decode cX10_passes 93 = .ok (.iaload, 1) := by decide +kernel
theorem dX10_passes_94 : decode cX10_passes 94 = .ok (.invokevirtual 138, 3) := by decide +kernel
theorem dX10_passes_97 : decode cX10_passes 97 = .ok (.iinc 2 1, 3) := by decide +kernel
theorem dX10_passes_100 : decode cX10_passes 100 = .ok (.goto (-41), 3) := by decide +kernel
theorem dX10_passes_103 : decode cX10_passes 103 = .ok (.aload_n 0, 1) := by decide +kernel
theorem dX10_passes_104 : decode cX10_passes 104 = .ok (.dup, 1) := by decide +kernel
theorem dX10_passes_105 : decode cX10_passes 105 = .ok (.getfield 142, 3) := by decide +kernel
theorem dX10_passes_108 : decode cX10_passes 108 = .ok (.aload_n 0, 1) := by decide +kernel
theorem dX10_passes_109 : decode cX10_passes 109 = .ok (.getfield 34, 3) := by decide +kernel
theorem dX10_passes_112 : decode cX10_passes 112 = .ok (.bipush 10, 2) := by decide +kernel
theorem dX10_passes_114 : decode cX10_passes 114 = .ok (.iaload, 1) := by decide +kernel
theorem dX10_passes_115 : decode cX10_passes 115 = .ok (.i2l, 1) := by decide +kernel
theorem dX10_passes_116 : decode cX10_passes 116 = .ok (.ladd, 1) := by decide +kernel
theorem dX10_passes_117 : decode cX10_passes 117 = .ok (.putfield 142, 3) := by decide +kernel
theorem dX10_passes_120 : decode cX10_passes 120 = .ok (.iconst 0, 1) := by decide +kernel
theorem dX10_passes_121 : decode cX10_passes 121 = .ok (.istore_n 2, 1) := by decide +kernel
theorem dX10_passes_122 : decode cX10_passes 122 = .ok (.iload_n 2, 1) := by decide +kernel
theorem dX10_passes_123 : decode cX10_passes 123 = .ok (.bipush 10, 2) := by decide +kernel
theorem dX10_passes_125 : decode cX10_passes 125 = .ok (.if_icmp .ge 15, 3) := by decide +kernel
theorem dX10_passes_128 : decode cX10_passes 128 = .ok (.aload_n 0, 1) := by decide +kernel
theorem dX10_passes_129 : decode cX10_passes 129 = .ok (.iload_n 2, 1) := by decide +kernel
theorem dX10_passes_130 : decode cX10_passes 130 = .ok (.iload_n 1, 1) := by decide +kernel
theorem dX10_passes_131 : decode cX10_passes 131 = .ok (.invokevirtual 145, 3) := by decide +kernel
theorem dX10_passes_134 : decode cX10_passes 134 = .ok (.iinc 2 1, 3) := by decide +kernel
theorem dX10_passes_137 : decode cX10_passes 137 = .ok (.goto (-15), 3) := by decide +kernel
theorem dX10_passes_140 : decode cX10_passes 140 = .ok (.iconst 0, 1) := by decide +kernel
theorem dX10_passes_141 : decode cX10_passes 141 = .ok (.istore_n 2, 1) := by decide +kernel
theorem dX10_passes_142 : decode cX10_passes 142 = .ok (.iload_n 2, 1) := by decide +kernel
theorem dX10_passes_143 : decode cX10_passes 143 = .ok (.bipush 10, 2) := by decide +kernel
theorem dX10_passes_145 : decode cX10_passes 145 = .ok (.if_icmp .ge 61, 3) := by decide +kernel
theorem dX10_passes_148 : decode cX10_passes 148 = .ok (.aload_n 0, 1) := by decide +kernel
theorem dX10_passes_149 : decode cX10_passes 149 = .ok (.dup, 1) := by decide +kernel
theorem dX10_passes_150 : decode cX10_passes 150 = .ok (.getfield 148, 3) := by decide +kernel
theorem dX10_passes_153 : decode cX10_passes 153 = .ok (.aload_n 0, 1) := by decide +kernel
theorem dX10_passes_154 : decode cX10_passes 154 = .ok (.getfield 22, 3) := by decide +kernel
theorem dX10_passes_157 : decode cX10_passes 157 = .ok (.iload_n 2, 1) := by decide +kernel
theorem dX10_passes_158 : decode cX10_passes 158 = .ok (.iaload, 1) := by decide +kernel
theorem dX10_passes_159 : decode cX10_passes 159 = .ok (.ifCond .le 13, 3) := by decide +kernel
theorem dX10_passes_162 : decode cX10_passes 162 = .ok (.aload_n 0, 1) := by decide +kernel
theorem dX10_passes_163 : decode cX10_passes 163 = .ok (.getfield 25, 3) := by decide +kernel
theorem dX10_passes_166 : decode cX10_passes 166 = .ok (.iload_n 2, 1) := by decide +kernel
theorem dX10_passes_167 : decode cX10_passes 167 = .ok (.iaload, 1) := by decide +kernel
theorem dX10_passes_168 : decode cX10_passes 168 = .ok (.i2l, 1) := by decide +kernel
theorem dX10_passes_169 : decode cX10_passes 169 = .ok (.goto 4, 3) := by decide +kernel
theorem dX10_passes_172 : decode cX10_passes 172 = .ok (.lconst 0, 1) := by decide +kernel
theorem dX10_passes_173 : decode cX10_passes 173 = .ok (.ladd, 1) := by decide +kernel
theorem dX10_passes_174 : decode cX10_passes 174 = .ok (.putfield 148, 3) := by decide +kernel
theorem dX10_passes_177 : decode cX10_passes 177 = .ok (.aload_n 0, 1) := by decide +kernel
theorem dX10_passes_178 : decode cX10_passes 178 = .ok (.getfield 22, 3) := by decide +kernel
theorem dX10_passes_181 : decode cX10_passes 181 = .ok (.iload_n 2, 1) := by decide +kernel
theorem dX10_passes_182 : decode cX10_passes 182 = .ok (.dup2, 1) := by decide +kernel
theorem dX10_passes_183 : decode cX10_passes 183 = .ok (.iaload, 1) := by decide +kernel
theorem dX10_passes_184 : decode cX10_passes 184 = .ok (.aload_n 0, 1) := by decide +kernel
theorem dX10_passes_185 : decode cX10_passes 185 = .ok (.getfield 22, 3) := by decide +kernel
theorem dX10_passes_188 : decode cX10_passes 188 = .ok (.iload_n 2, 1) := by decide +kernel
theorem dX10_passes_189 : decode cX10_passes 189 = .ok (.iaload, 1) := by decide +kernel
theorem dX10_passes_190 : decode cX10_passes 190 = .ok (.ifCond .le 7, 3) := by decide +kernel
theorem dX10_passes_193 : decode cX10_passes 193 = .ok (.iconst 1, 1) := by decide +kernel
theorem dX10_passes_194 : decode cX10_passes 194 = .ok (.goto 4, 3) := by decide +kernel
theorem dX10_passes_197 : decode cX10_passes 197 = .ok (.iconst 0, 1) := by decide +kernel
theorem dX10_passes_198 : decode cX10_passes 198 = .ok (.isub, 1) := by decide +kernel
theorem dX10_passes_199 : decode cX10_passes 199 = .ok (.iastore, 1) := by decide +kernel
theorem dX10_passes_200 : decode cX10_passes 200 = .ok (.iinc 2 1, 3) := by decide +kernel
theorem dX10_passes_203 : decode cX10_passes 203 = .ok (.goto (-61), 3) := by decide +kernel
theorem dX10_passes_206 : decode cX10_passes 206 = .ok (.aload_n 0, 1) := by decide +kernel
theorem dX10_passes_207 : decode cX10_passes 207 = .ok (.dup, 1) := by decide +kernel
theorem dX10_passes_208 : decode cX10_passes 208 = .ok (.getfield 131, 3) := by decide +kernel
theorem dX10_passes_211 : decode cX10_passes 211 = .ok (.iconst 1, 1) := by decide +kernel
theorem dX10_passes_212 : decode cX10_passes 212 = .ok (.iadd, 1) := by decide +kernel
theorem dX10_passes_213 : decode cX10_passes 213 = .ok (.putfield 131, 3) := by decide +kernel
theorem dX10_passes_216 : decode cX10_passes 216 = .ok (.iconst 0, 1) := by decide +kernel
theorem dX10_passes_217 : decode cX10_passes 217 = .ok (.istore_n 2, 1) := by decide +kernel
theorem dX10_passes_218 : decode cX10_passes 218 = .ok (.iload_n 2, 1) := by decide +kernel
theorem dX10_passes_219 : decode cX10_passes 219 = .ok (.aload_n 0, 1) := by decide +kernel
theorem dX10_passes_220 : decode cX10_passes 220 = .ok (.getfield 97, 3) := by decide +kernel
theorem dX10_passes_223 : decode cX10_passes 223 = .ok (.if_icmp .ge 16, 3) := by decide +kernel
theorem dX10_passes_226 : decode cX10_passes 226 = .ok (.aload_n 0, 1) := by decide +kernel
theorem dX10_passes_227 : decode cX10_passes 227 = .ok (.getfield 64, 3) := by decide +kernel
theorem dX10_passes_230 : decode cX10_passes 230 = .ok (.iload_n 2, 1) := by decide +kernel
theorem dX10_passes_231 : decode cX10_passes 231 = .ok (.iconst 0, 1) := by decide +kernel
theorem dX10_passes_232 : decode cX10_passes 232 = .ok (.iastore, 1) := by decide +kernel
theorem dX10_passes_233 : decode cX10_passes 233 = .ok (.iinc 2 1, 3) := by decide +kernel
theorem dX10_passes_236 : decode cX10_passes 236 = .ok (.goto (-18), 3) := by decide +kernel
theorem dX10_passes_239 : decode cX10_passes 239 = .ok (.return_, 1) := by decide +kernel
theorem dX10_pass_0 : decode cX10_pass 0 = .ok (.iload_n 1, 1) := by decide +kernel
theorem dX10_pass_1 : decode cX10_pass 1 = .ok (.iconst 1, 1) := by decide +kernel
theorem dX10_pass_2 : decode cX10_pass 2 = .ok (.bipush 20, 2) := by decide +kernel
theorem dX10_pass_4 : decode cX10_pass 4 = .ok (.invokestatic 93, 3) := by decide +kernel
theorem dX10_pass_7 : decode cX10_pass 7 = .ok (.ifCond .eq 18, 3) := by decide +kernel
theorem dX10_pass_10 : decode cX10_pass 10 = .ok (.iload_n 2, 1) := by decide +kernel
theorem dX10_pass_11 : decode cX10_pass 11 = .ok (.iconst 0, 1) := by decide +kernel
theorem dX10_pass_12 : decode cX10_pass 12 = .ok (.sipush 1000, 3) := by decide +kernel
theorem dX10_pass_15 : decode cX10_pass 15 = .ok (.invokestatic 93, 3) := by decide +kernel
theorem dX10_pass_18 : decode cX10_pass 18 = .ok (.ifCond .eq 7, 3) := by decide +kernel
theorem dX10_pass_21 : decode cX10_pass 21 = .ok (.iconst 1, 1) := by decide +kernel
theorem dX10_pass_22 : decode cX10_pass 22 = .ok (.goto 4, 3) := by decide +kernel
theorem dX10_pass_25 : decode cX10_pass 25 = .ok (.iconst 0, 1) := by decide +kernel
theorem dX10_pass_26 : decode cX10_pass 26 = .ok (.istore_n 3, 1) := by decide +kernel
theorem dX10_pass_27 : decode cX10_pass 27 = .ok (.aload_n 0, 1) := by decide +kernel
theorem dX10_pass_28 : decode cX10_pass 28 = .ok (.iload_n 3, 1) := by decide +kernel
theorem dX10_pass_29 : decode cX10_pass 29 = .ok (.ifCond .ne 7, 3) := by decide +kernel
theorem dX10_pass_32 : decode cX10_pass 32 = .ok (.iconst 1, 1) := by decide +kernel
theorem dX10_pass_33 : decode cX10_pass 33 = .ok (.goto 20, 3) := by decide +kernel
theorem dX10_pass_36 : decode cX10_pass 36 = .ok (.aload_n 0, 1) := by decide +kernel
theorem dX10_pass_37 : decode cX10_pass 37 = .ok (.getfield 131, 3) := by decide +kernel
theorem dX10_pass_40 : decode cX10_pass 40 = .ok (.iload_n 1, 1) := by decide +kernel
theorem dX10_pass_41 : decode cX10_pass 41 = .ok (.iadd, 1) := by decide +kernel
theorem dX10_pass_42 : decode cX10_pass 42 = .ok (.sipush 300, 3) := by decide +kernel
theorem dX10_pass_45 : decode cX10_pass 45 = .ok (.if_icmp .le 7, 3) := by decide +kernel
theorem dX10_pass_48 : decode cX10_pass 48 = .ok (.iconst 2, 1) := by decide +kernel
theorem dX10_pass_49 : decode cX10_pass 49 = .ok (.goto 4, 3) := by decide +kernel
theorem dX10_pass_52 : decode cX10_pass 52 = .ok (.iconst 0, 1) := by decide +kernel
theorem dX10_pass_53 : decode cX10_pass 53 = .ok (.invokevirtual 107, 3) := by decide +kernel
theorem dX10_pass_56 : decode cX10_pass 56 = .ok (.ifCond .ne 5, 3) := by decide +kernel
theorem dX10_pass_59 : decode cX10_pass 59 = .ok (.iconst 0, 1) := by decide +kernel
theorem dX10_pass_60 : decode cX10_pass 60 = .ok (.ireturn, 1) := by decide +kernel
theorem dX10_pass_61 : decode cX10_pass 61 = .ok (.iconst 0, 1) := by decide +kernel
theorem dX10_pass_62 : decode cX10_pass 62 = .ok (.istore 4, 2) := by decide +kernel
theorem dX10_pass_64 : decode cX10_pass 64 = .ok (.iload 4, 2) := by decide +kernel
theorem dX10_pass_66 : decode cX10_pass 66 = .ok (.iload_n 1, 1) := by decide +kernel
theorem dX10_pass_67 : decode cX10_pass 67 = .ok (.if_icmp .ge 14, 3) := by decide +kernel
theorem dX10_pass_70 : decode cX10_pass 70 = .ok (.aload_n 0, 1) := by decide +kernel
theorem dX10_pass_71 : decode cX10_pass 71 = .ok (.iload_n 2, 1) := by decide +kernel
theorem dX10_pass_72 : decode cX10_pass 72 = .ok (.invokevirtual 151, 3) := by decide +kernel
theorem dX10_pass_75 : decode cX10_pass 75 = .ok (.iinc 4 1, 3) := by decide +kernel
theorem dX10_pass_78 : decode cX10_pass 78 = .ok (.goto (-14), 3) := by decide +kernel
theorem dX10_pass_81 : decode cX10_pass 81 = .ok (.aload_n 0, 1) := by decide +kernel
theorem dX10_pass_82 : decode cX10_pass 82 = .ok (.getfield 131, 3) := by decide +kernel
theorem dX10_pass_85 : decode cX10_pass 85 = .ok (.ireturn, 1) := by decide +kernel
theorem dX10_well_0 : decode cX10_well 0 = .ok (.iload_n 1, 1) := by decide +kernel
theorem dX10_well_1 : decode cX10_well 1 = .ok (.invokestatic 103, 3) := by decide +kernel
theorem dX10_well_4 : decode cX10_well 4 = .ok (.istore_n 3, 1) := by decide +kernel
theorem dX10_well_5 : decode cX10_well 5 = .ok (.iload_n 2, 1) := by decide +kernel
theorem dX10_well_6 : decode cX10_well 6 = .ok (.iconst 0, 1) := by decide +kernel
theorem dX10_well_7 : decode cX10_well 7 = .ok (.sipush 10000, 3) := by decide +kernel
end
section
theorem dX10_well_10 : decode cX10_well 10 = .ok (.invokestatic 93, 3) := by decide +kernel
theorem dX10_well_13 : decode cX10_well 13 = .ok (.istore 4, 2) := by decide +kernel
theorem dX10_well_15 : decode cX10_well 15 = .ok (.aload_n 0, 1) := by decide +kernel
theorem dX10_well_16 : decode cX10_well 16 = .ok (.iload_n 3, 1) := by decide +kernel
theorem dX10_well_17 : decode cX10_well 17 = .ok (.ifCond .ne 7, 3) := by decide +kernel
theorem dX10_well_20 : decode cX10_well 20 = .ok (.iconst 1, 1) := by decide +kernel
theorem dX10_well_21 : decode cX10_well 21 = .ok (.goto 26, 3) := by decide +kernel
theorem dX10_well_24 : decode cX10_well 24 = .ok (.iload 4, 2) := by decide +kernel
theorem dX10_well_26 : decode cX10_well 26 = .ok (.ifCond .ne 7, 3) := by decide +kernel
theorem dX10_well_29 : decode cX10_well 29 = .ok (.iconst 2, 1) := by decide +kernel
theorem dX10_well_30 : decode cX10_well 30 = .ok (.goto 17, 3) := by decide +kernel
theorem dX10_well_33 : decode cX10_well 33 = .ok (.aload_n 0, 1) := by decide +kernel
theorem dX10_well_34 : decode cX10_well 34 = .ok (.getfield 97, 3) := by decide +kernel
theorem dX10_well_37 : decode cX10_well 37 = .ok (.bipush 6, 2) := by decide +kernel
theorem dX10_well_39 : decode cX10_well 39 = .ok (.if_icmp .ne 7, 3) := by decide +kernel
theorem dX10_well_42 : decode cX10_well 42 = .ok (.iconst 3, 1) := by decide +kernel
theorem dX10_well_43 : decode cX10_well 43 = .ok (.goto 4, 3) := by decide +kernel
theorem dX10_well_46 : decode cX10_well 46 = .ok (.iconst 0, 1) := by decide +kernel
theorem dX10_well_47 : decode cX10_well 47 = .ok (.invokevirtual 107, 3) := by decide +kernel
theorem dX10_well_50 : decode cX10_well 50 = .ok (.ifCond .ne 5, 3) := by decide +kernel
theorem dX10_well_53 : decode cX10_well 53 = .ok (.iconst 0, 1) := by decide +kernel
theorem dX10_well_54 : decode cX10_well 54 = .ok (.ireturn, 1) := by decide +kernel
theorem dX10_well_55 : decode cX10_well 55 = .ok (.aload_n 0, 1) := by decide +kernel
theorem dX10_well_56 : decode cX10_well 56 = .ok (.getfield 58, 3) := by decide +kernel
theorem dX10_well_59 : decode cX10_well 59 = .ok (.aload_n 0, 1) := by decide +kernel
theorem dX10_well_60 : decode cX10_well 60 = .ok (.getfield 97, 3) := by decide +kernel
theorem dX10_well_63 : decode cX10_well 63 = .ok (.iload_n 1, 1) := by decide +kernel
theorem dX10_well_64 : decode cX10_well 64 = .ok (.iastore, 1) := by decide +kernel
theorem dX10_well_65 : decode cX10_well 65 = .ok (.aload_n 0, 1) := by decide +kernel
theorem dX10_well_66 : decode cX10_well 66 = .ok (.getfield 61, 3) := by decide +kernel
theorem dX10_well_69 : decode cX10_well 69 = .ok (.aload_n 0, 1) := by decide +kernel
theorem dX10_well_70 : decode cX10_well 70 = .ok (.getfield 97, 3) := by decide +kernel
theorem dX10_well_73 : decode cX10_well 73 = .ok (.iload_n 2, 1) := by decide +kernel
theorem dX10_well_74 : decode cX10_well 74 = .ok (.iastore, 1) := by decide +kernel
theorem dX10_well_75 : decode cX10_well 75 = .ok (.aload_n 0, 1) := by decide +kernel
theorem dX10_well_76 : decode cX10_well 76 = .ok (.getfield 64, 3) := by decide +kernel
theorem dX10_well_79 : decode cX10_well 79 = .ok (.aload_n 0, 1) := by decide +kernel
theorem dX10_well_80 : decode cX10_well 80 = .ok (.getfield 97, 3) := by decide +kernel
theorem dX10_well_83 : decode cX10_well 83 = .ok (.iconst 0, 1) := by decide +kernel
theorem dX10_well_84 : decode cX10_well 84 = .ok (.iastore, 1) := by decide +kernel
theorem dX10_well_85 : decode cX10_well 85 = .ok (.aload_n 0, 1) := by decide +kernel
theorem dX10_well_86 : decode cX10_well 86 = .ok (.dup, 1) := by decide +kernel
theorem dX10_well_87 : decode cX10_well 87 = .ok (.getfield 97, 3) := by decide +kernel
theorem dX10_well_90 : decode cX10_well 90 = .ok (.iconst 1, 1) := by decide +kernel
theorem dX10_well_91 : decode cX10_well 91 = .ok (.iadd, 1) := by decide +kernel
theorem dX10_well_92 : decode cX10_well 92 = .ok (.putfield 97, 3) := by decide +kernel
theorem dX10_well_95 : decode cX10_well 95 = .ok (.aload_n 0, 1) := by decide +kernel
theorem dX10_well_96 : decode cX10_well 96 = .ok (.getfield 97, 3) := by decide +kernel
theorem dX10_well_99 : decode cX10_well 99 = .ok (.iconst 1, 1) := by decide +kernel
theorem dX10_well_100 : decode cX10_well 100 = .ok (.isub, 1) := by decide +kernel
theorem dX10_well_101 : decode cX10_well 101 = .ok (.ireturn, 1) := by decide +kernel
theorem dX10_drought_0 : decode cX10_drought 0 = .ok (.iload_n 2, 1) := by decide +kernel
theorem dX10_drought_1 : decode cX10_drought 1 = .ok (.iconst 0, 1) := by decide +kernel
theorem dX10_drought_2 : decode cX10_drought 2 = .ok (.ldc 155, 2) := by decide +kernel
theorem dX10_drought_4 : decode cX10_drought 4 = .ok (.invokestatic 93, 3) := by decide +kernel
theorem dX10_drought_7 : decode cX10_drought 7 = .ok (.ifCond .eq 16, 3) := by decide +kernel
theorem dX10_drought_10 : decode cX10_drought 10 = .ok (.iload_n 3, 1) := by decide +kernel
theorem dX10_drought_11 : decode cX10_drought 11 = .ok (.iconst 0, 1) := by decide +kernel
theorem dX10_drought_12 : decode cX10_drought 12 = .ok (.iload_n 2, 1) := by decide +kernel
theorem dX10_drought_13 : decode cX10_drought 13 = .ok (.invokestatic 93, 3) := by decide +kernel
theorem dX10_drought_16 : decode cX10_drought 16 = .ok (.ifCond .eq 7, 3) := by decide +kernel
theorem dX10_drought_19 : decode cX10_drought 19 = .ok (.iconst 1, 1) := by decide +kernel
theorem dX10_drought_20 : decode cX10_drought 20 = .ok (.goto 4, 3) := by decide +kernel
theorem dX10_drought_23 : decode cX10_drought 23 = .ok (.iconst 0, 1) := by decide +kernel
theorem dX10_drought_24 : decode cX10_drought 24 = .ok (.istore 4, 2) := by decide +kernel
theorem dX10_drought_26 : decode cX10_drought 26 = .ok (.aload_n 0, 1) := by decide +kernel
theorem dX10_drought_27 : decode cX10_drought 27 = .ok (.iload_n 1, 1) := by decide +kernel
theorem dX10_drought_28 : decode cX10_drought 28 = .ok (.invokestatic 103, 3) := by decide +kernel
theorem dX10_drought_31 : decode cX10_drought 31 = .ok (.ifCond .ne 7, 3) := by decide +kernel
theorem dX10_drought_34 : decode cX10_drought 34 = .ok (.iconst 1, 1) := by decide +kernel
theorem dX10_drought_35 : decode cX10_drought 35 = .ok (.goto 13, 3) := by decide +kernel
theorem dX10_drought_38 : decode cX10_drought 38 = .ok (.iload 4, 2) := by decide +kernel
theorem dX10_drought_40 : decode cX10_drought 40 = .ok (.ifCond .eq 7, 3) := by decide +kernel
theorem dX10_drought_43 : decode cX10_drought 43 = .ok (.iconst 0, 1) := by decide +kernel
theorem dX10_drought_44 : decode cX10_drought 44 = .ok (.goto 4, 3) := by decide +kernel
theorem dX10_drought_47 : decode cX10_drought 47 = .ok (.iconst 2, 1) := by decide +kernel
theorem dX10_drought_48 : decode cX10_drought 48 = .ok (.invokevirtual 107, 3) := by decide +kernel
theorem dX10_drought_51 : decode cX10_drought 51 = .ok (.ifCond .eq 18, 3) := by decide +kernel
theorem dX10_drought_54 : decode cX10_drought 54 = .ok (.aload_n 0, 1) := by decide +kernel
theorem dX10_drought_55 : decode cX10_drought 55 = .ok (.iload_n 1, 1) := by decide +kernel
theorem dX10_drought_56 : decode cX10_drought 56 = .ok (.putfield 156, 3) := by decide +kernel
theorem dX10_drought_59 : decode cX10_drought 59 = .ok (.aload_n 0, 1) := by decide +kernel
theorem dX10_drought_60 : decode cX10_drought 60 = .ok (.iload_n 2, 1) := by decide +kernel
theorem dX10_drought_61 : decode cX10_drought 61 = .ok (.putfield 159, 3) := by decide +kernel
theorem dX10_drought_64 : decode cX10_drought 64 = .ok (.aload_n 0, 1) := by decide +kernel
theorem dX10_drought_65 : decode cX10_drought 65 = .ok (.iload_n 3, 1) := by decide +kernel
theorem dX10_drought_66 : decode cX10_drought 66 = .ok (.putfield 162, 3) := by decide +kernel
theorem dX10_drought_69 : decode cX10_drought 69 = .ok (.return_, 1) := by decide +kernel
theorem dX10_share_0 : decode cX10_share 0 = .ok (.aload_n 0, 1) := by decide +kernel
theorem dX10_share_1 : decode cX10_share 1 = .ok (.iload_n 1, 1) := by decide +kernel
theorem dX10_share_2 : decode cX10_share 2 = .ok (.iconst 0, 1) := by decide +kernel
theorem dX10_share_3 : decode cX10_share 3 = .ok (.bipush 100, 2) := by decide +kernel
theorem dX10_share_5 : decode cX10_share 5 = .ok (.invokestatic 93, 3) := by decide +kernel
theorem dX10_share_8 : decode cX10_share 8 = .ok (.ifCond .eq 7, 3) := by decide +kernel
theorem dX10_share_11 : decode cX10_share 11 = .ok (.iconst 0, 1) := by decide +kernel
theorem dX10_share_12 : decode cX10_share 12 = .ok (.goto 4, 3) := by decide +kernel
theorem dX10_share_15 : decode cX10_share 15 = .ok (.iconst 1, 1) := by decide +kernel
theorem dX10_share_16 : decode cX10_share 16 = .ok (.invokevirtual 107, 3) := by decide +kernel
theorem dX10_share_19 : decode cX10_share 19 = .ok (.ifCond .ne 5, 3) := by decide +kernel
theorem dX10_share_22 : decode cX10_share 22 = .ok (.iconst 0, 1) := by decide +kernel
theorem dX10_share_23 : decode cX10_share 23 = .ok (.ireturn, 1) := by decide +kernel
theorem dX10_share_24 : decode cX10_share 24 = .ok (.aload_n 0, 1) := by decide +kernel
theorem dX10_share_25 : decode cX10_share 25 = .ok (.getfield 67, 3) := by decide +kernel
theorem dX10_share_28 : decode cX10_share 28 = .ok (.istore_n 2, 1) := by decide +kernel
theorem dX10_share_29 : decode cX10_share 29 = .ok (.aload_n 0, 1) := by decide +kernel
theorem dX10_share_30 : decode cX10_share 30 = .ok (.iload_n 1, 1) := by decide +kernel
theorem dX10_share_31 : decode cX10_share 31 = .ok (.putfield 67, 3) := by decide +kernel
theorem dX10_share_34 : decode cX10_share 34 = .ok (.iload_n 2, 1) := by decide +kernel
theorem dX10_share_35 : decode cX10_share 35 = .ok (.ireturn, 1) := by decide +kernel
theorem dX10_may_0 : decode cX10_may 0 = .ok (.aload_n 0, 1) := by decide +kernel
theorem dX10_may_1 : decode cX10_may 1 = .ok (.getfield 34, 3) := by decide +kernel
theorem dX10_may_4 : decode cX10_may 4 = .ok (.aload_n 0, 1) := by decide +kernel
theorem dX10_may_5 : decode cX10_may 5 = .ok (.getfield 156, 3) := by decide +kernel
theorem dX10_may_8 : decode cX10_may 8 = .ok (.iaload, 1) := by decide +kernel
theorem dX10_may_9 : decode cX10_may 9 = .ok (.istore_n 2, 1) := by decide +kernel
theorem dX10_may_10 : decode cX10_may 10 = .ok (.iload_n 2, 1) := by decide +kernel
theorem dX10_may_11 : decode cX10_may 11 = .ok (.aload_n 0, 1) := by decide +kernel
theorem dX10_may_12 : decode cX10_may 12 = .ok (.getfield 162, 3) := by decide +kernel
theorem dX10_may_15 : decode cX10_may 15 = .ok (.if_icmp .ge 7, 3) := by decide +kernel
theorem dX10_may_18 : decode cX10_may 18 = .ok (.iconst 0, 1) := by decide +kernel
theorem dX10_may_19 : decode cX10_may 19 = .ok (.goto 28, 3) := by decide +kernel
theorem dX10_may_22 : decode cX10_may 22 = .ok (.iload_n 2, 1) := by decide +kernel
theorem dX10_may_23 : decode cX10_may 23 = .ok (.aload_n 0, 1) := by decide +kernel
theorem dX10_may_24 : decode cX10_may 24 = .ok (.getfield 159, 3) := by decide +kernel
theorem dX10_may_27 : decode cX10_may 27 = .ok (.if_icmp .ge 14, 3) := by decide +kernel
theorem dX10_may_30 : decode cX10_may 30 = .ok (.aload_n 0, 1) := by decide +kernel
theorem dX10_may_31 : decode cX10_may 31 = .ok (.getfield 61, 3) := by decide +kernel
theorem dX10_may_34 : decode cX10_may 34 = .ok (.iload_n 1, 1) := by decide +kernel
theorem dX10_may_35 : decode cX10_may 35 = .ok (.iaload, 1) := by decide +kernel
theorem dX10_may_36 : decode cX10_may 36 = .ok (.iconst 2, 1) := by decide +kernel
theorem dX10_may_37 : decode cX10_may 37 = .ok (.idiv, 1) := by decide +kernel
theorem dX10_may_38 : decode cX10_may 38 = .ok (.goto 9, 3) := by decide +kernel
theorem dX10_may_41 : decode cX10_may 41 = .ok (.aload_n 0, 1) := by decide +kernel
theorem dX10_may_42 : decode cX10_may 42 = .ok (.getfield 61, 3) := by decide +kernel
theorem dX10_may_45 : decode cX10_may 45 = .ok (.iload_n 1, 1) := by decide +kernel
theorem dX10_may_46 : decode cX10_may 46 = .ok (.iaload, 1) := by decide +kernel
theorem dX10_may_47 : decode cX10_may 47 = .ok (.istore_n 3, 1) := by decide +kernel
theorem dX10_may_48 : decode cX10_may 48 = .ok (.iload_n 3, 1) := by decide +kernel
theorem dX10_may_49 : decode cX10_may 49 = .ok (.aload_n 0, 1) := by decide +kernel
theorem dX10_may_50 : decode cX10_may 50 = .ok (.getfield 64, 3) := by decide +kernel
theorem dX10_may_53 : decode cX10_may 53 = .ok (.iload_n 1, 1) := by decide +kernel
theorem dX10_may_54 : decode cX10_may 54 = .ok (.iaload, 1) := by decide +kernel
theorem dX10_may_55 : decode cX10_may 55 = .ok (.if_icmp .le 14, 3) := by decide +kernel
theorem dX10_may_58 : decode cX10_may 58 = .ok (.iload_n 3, 1) := by decide +kernel
theorem dX10_may_59 : decode cX10_may 59 = .ok (.aload_n 0, 1) := by decide +kernel
theorem dX10_may_60 : decode cX10_may 60 = .ok (.getfield 64, 3) := by decide +kernel
theorem dX10_may_63 : decode cX10_may 63 = .ok (.iload_n 1, 1) := by decide +kernel
theorem dX10_may_64 : decode cX10_may 64 = .ok (.iaload, 1) := by decide +kernel
theorem dX10_may_65 : decode cX10_may 65 = .ok (.isub, 1) := by decide +kernel
theorem dX10_may_66 : decode cX10_may 66 = .ok (.goto 4, 3) := by decide +kernel
theorem dX10_may_69 : decode cX10_may 69 = .ok (.iconst 0, 1) := by decide +kernel
theorem dX10_may_70 : decode cX10_may 70 = .ok (.ireturn, 1) := by decide +kernel
theorem dX10_bottle_0 : decode cX10_bottle 0 = .ok (.aload_n 0, 1) := by decide +kernel
theorem dX10_bottle_1 : decode cX10_bottle 1 = .ok (.iload_n 1, 1) := by decide +kernel
theorem dX10_bottle_2 : decode cX10_bottle 2 = .ok (.invokevirtual 165, 3) := by decide +kernel
theorem dX10_bottle_5 : decode cX10_bottle 5 = .ok (.istore_n 3, 1) := by decide +kernel
theorem dX10_bottle_6 : decode cX10_bottle 6 = .ok (.iload_n 2, 1) := by decide +kernel
theorem dX10_bottle_7 : decode cX10_bottle 7 = .ok (.iconst 1, 1) := by decide +kernel
theorem dX10_bottle_8 : decode cX10_bottle 8 = .ok (.sipush 1000, 3) := by decide +kernel
theorem dX10_bottle_11 : decode cX10_bottle 11 = .ok (.invokestatic 93, 3) := by decide +kernel
theorem dX10_bottle_14 : decode cX10_bottle 14 = .ok (.istore 4, 2) := by decide +kernel
theorem dX10_bottle_16 : decode cX10_bottle 16 = .ok (.aload_n 0, 1) := by decide +kernel
theorem dX10_bottle_17 : decode cX10_bottle 17 = .ok (.iload_n 3, 1) := by decide +kernel
theorem dX10_bottle_18 : decode cX10_bottle 18 = .ok (.ifCond .ne 7, 3) := by decide +kernel
theorem dX10_bottle_21 : decode cX10_bottle 21 = .ok (.iconst 1, 1) := by decide +kernel
theorem dX10_bottle_22 : decode cX10_bottle 22 = .ok (.goto 50, 3) := by decide +kernel
theorem dX10_bottle_25 : decode cX10_bottle 25 = .ok (.iload 4, 2) := by decide +kernel
theorem dX10_bottle_27 : decode cX10_bottle 27 = .ok (.ifCond .ne 7, 3) := by decide +kernel
theorem dX10_bottle_30 : decode cX10_bottle 30 = .ok (.iconst 2, 1) := by decide +kernel
theorem dX10_bottle_31 : decode cX10_bottle 31 = .ok (.goto 41, 3) := by decide +kernel
theorem dX10_bottle_34 : decode cX10_bottle 34 = .ok (.iload_n 2, 1) := by decide +kernel
theorem dX10_bottle_35 : decode cX10_bottle 35 = .ok (.aload_n 0, 1) := by decide +kernel
theorem dX10_bottle_36 : decode cX10_bottle 36 = .ok (.iload_n 1, 1) := by decide +kernel
theorem dX10_bottle_37 : decode cX10_bottle 37 = .ok (.invokevirtual 168, 3) := by decide +kernel
theorem dX10_bottle_40 : decode cX10_bottle 40 = .ok (.if_icmp .gt 27, 3) := by decide +kernel
theorem dX10_bottle_43 : decode cX10_bottle 43 = .ok (.iload_n 2, 1) := by decide +kernel
theorem dX10_bottle_44 : decode cX10_bottle 44 = .ok (.aload_n 0, 1) := by decide +kernel
theorem dX10_bottle_45 : decode cX10_bottle 45 = .ok (.getfield 34, 3) := by decide +kernel
theorem dX10_bottle_48 : decode cX10_bottle 48 = .ok (.aload_n 0, 1) := by decide +kernel
theorem dX10_bottle_49 : decode cX10_bottle 49 = .ok (.getfield 58, 3) := by decide +kernel
theorem dX10_bottle_52 : decode cX10_bottle 52 = .ok (.iload_n 1, 1) := by decide +kernel
theorem dX10_bottle_53 : decode cX10_bottle 53 = .ok (.iaload, 1) := by decide +kernel
theorem dX10_bottle_54 : decode cX10_bottle 54 = .ok (.iaload, 1) := by decide +kernel
theorem dX10_bottle_55 : decode cX10_bottle 55 = .ok (.if_icmp .gt 12, 3) := by decide +kernel
theorem dX10_bottle_58 : decode cX10_bottle 58 = .ok (.aload_n 0, 1) := by decide +kernel
theorem dX10_bottle_59 : decode cX10_bottle 59 = .ok (.getfield 100, 3) := by decide +kernel
theorem dX10_bottle_62 : decode cX10_bottle 62 = .ok (.bipush 40, 2) := by decide +kernel
theorem dX10_bottle_64 : decode cX10_bottle 64 = .ok (.if_icmp .ne 7, 3) := by decide +kernel
theorem dX10_bottle_67 : decode cX10_bottle 67 = .ok (.iconst 3, 1) := by decide +kernel
theorem dX10_bottle_68 : decode cX10_bottle 68 = .ok (.goto 4, 3) := by decide +kernel
theorem dX10_bottle_71 : decode cX10_bottle 71 = .ok (.iconst 0, 1) := by decide +kernel
theorem dX10_bottle_72 : decode cX10_bottle 72 = .ok (.invokevirtual 107, 3) := by decide +kernel
theorem dX10_bottle_75 : decode cX10_bottle 75 = .ok (.ifCond .ne 5, 3) := by decide +kernel
theorem dX10_bottle_78 : decode cX10_bottle 78 = .ok (.iconst 0, 1) := by decide +kernel
theorem dX10_bottle_79 : decode cX10_bottle 79 = .ok (.ireturn, 1) := by decide +kernel
theorem dX10_bottle_80 : decode cX10_bottle 80 = .ok (.aload_n 0, 1) := by decide +kernel
theorem dX10_bottle_81 : decode cX10_bottle 81 = .ok (.aload_n 0, 1) := by decide +kernel
theorem dX10_bottle_82 : decode cX10_bottle 82 = .ok (.getfield 58, 3) := by decide +kernel
theorem dX10_bottle_85 : decode cX10_bottle 85 = .ok (.iload_n 1, 1) := by decide +kernel
theorem dX10_bottle_86 : decode cX10_bottle 86 = .ok (.iaload, 1) := by decide +kernel
theorem dX10_bottle_87 : decode cX10_bottle 87 = .ok (.aload_n 0, 1) := by decide +kernel
theorem dX10_bottle_88 : decode cX10_bottle 88 = .ok (.getfield 100, 3) := by decide +kernel
theorem dX10_bottle_91 : decode cX10_bottle 91 = .ok (.invokestatic 171, 3) := by decide +kernel
theorem dX10_bottle_94 : decode cX10_bottle 94 = .ok (.iload_n 2, 1) := by decide +kernel
theorem dX10_bottle_95 : decode cX10_bottle 95 = .ok (.invokevirtual 138, 3) := by decide +kernel
theorem dX10_bottle_98 : decode cX10_bottle 98 = .ok (.aload_n 0, 1) := by decide +kernel
theorem dX10_bottle_99 : decode cX10_bottle 99 = .ok (.getfield 64, 3) := by decide +kernel
theorem dX10_bottle_102 : decode cX10_bottle 102 = .ok (.iload_n 1, 1) := by decide +kernel
theorem dX10_bottle_103 : decode cX10_bottle 103 = .ok (.dup2, 1) := by decide +kernel
theorem dX10_bottle_104 : decode cX10_bottle 104 = .ok (.iaload, 1) := by decide +kernel
theorem dX10_bottle_105 : decode cX10_bottle 105 = .ok (.iload_n 2, 1) := by decide +kernel
theorem dX10_bottle_106 : decode cX10_bottle 106 = .ok (.iadd, 1) := by decide +kernel
theorem dX10_bottle_107 : decode cX10_bottle 107 = .ok (.iastore, 1) := by decide +kernel
theorem dX10_bottle_108 : decode cX10_bottle 108 = .ok (.aload_n 0, 1) := by decide +kernel
theorem dX10_bottle_109 : decode cX10_bottle 109 = .ok (.dup, 1) := by decide +kernel
theorem dX10_bottle_110 : decode cX10_bottle 110 = .ok (.getfield 174, 3) := by decide +kernel
theorem dX10_bottle_113 : decode cX10_bottle 113 = .ok (.iload_n 2, 1) := by decide +kernel
theorem dX10_bottle_114 : decode cX10_bottle 114 = .ok (.i2l, 1) := by decide +kernel
theorem dX10_bottle_115 : decode cX10_bottle 115 = .ok (.ladd, 1) := by decide +kernel
theorem dX10_bottle_116 : decode cX10_bottle 116 = .ok (.putfield 174, 3) := by decide +kernel
theorem dX10_bottle_119 : decode cX10_bottle 119 = .ok (.aload_n 0, 1) := by decide +kernel
theorem dX10_bottle_120 : decode cX10_bottle 120 = .ok (.dup, 1) := by decide +kernel
theorem dX10_bottle_121 : decode cX10_bottle 121 = .ok (.getfield 177, 3) := by decide +kernel
theorem dX10_bottle_124 : decode cX10_bottle 124 = .ok (.aload_n 0, 1) := by decide +kernel
theorem dX10_bottle_125 : decode cX10_bottle 125 = .ok (.getfield 67, 3) := by decide +kernel
theorem dX10_bottle_128 : decode cX10_bottle 128 = .ok (.i2l, 1) := by decide +kernel
theorem dX10_bottle_129 : decode cX10_bottle 129 = .ok (.iload_n 2, 1) := by decide +kernel
theorem dX10_bottle_130 : decode cX10_bottle 130 = .ok (.i2l, 1) := by decide +kernel
theorem dX10_bottle_131 : decode cX10_bottle 131 = .ok (.lmul, 1) := by decide +kernel
theorem dX10_bottle_132 : decode cX10_bottle 132 = .ok (.ladd, 1) := by decide +kernel
theorem dX10_bottle_133 : decode cX10_bottle 133 = .ok (.putfield 177, 3) := by decide +kernel
theorem dX10_bottle_136 : decode cX10_bottle 136 = .ok (.aload_n 0, 1) := by decide +kernel
theorem dX10_bottle_137 : decode cX10_bottle 137 = .ok (.getfield 71, 3) := by decide +kernel
theorem dX10_bottle_140 : decode cX10_bottle 140 = .ok (.aload_n 0, 1) := by decide +kernel
theorem dX10_bottle_141 : decode cX10_bottle 141 = .ok (.getfield 100, 3) := by decide +kernel
theorem dX10_bottle_144 : decode cX10_bottle 144 = .ok (.iload_n 1, 1) := by decide +kernel
theorem dX10_bottle_145 : decode cX10_bottle 145 = .ok (.iastore, 1) := by decide +kernel
theorem dX10_bottle_146 : decode cX10_bottle 146 = .ok (.aload_n 0, 1) := by decide +kernel
theorem dX10_bottle_147 : decode cX10_bottle 147 = .ok (.getfield 74, 3) := by decide +kernel
theorem dX10_bottle_150 : decode cX10_bottle 150 = .ok (.aload_n 0, 1) := by decide +kernel
theorem dX10_bottle_151 : decode cX10_bottle 151 = .ok (.getfield 100, 3) := by decide +kernel
theorem dX10_bottle_154 : decode cX10_bottle 154 = .ok (.aload_n 0, 1) := by decide +kernel
theorem dX10_bottle_155 : decode cX10_bottle 155 = .ok (.getfield 131, 3) := by decide +kernel
theorem dX10_bottle_158 : decode cX10_bottle 158 = .ok (.iastore, 1) := by decide +kernel
theorem dX10_bottle_159 : decode cX10_bottle 159 = .ok (.aload_n 0, 1) := by decide +kernel
theorem dX10_bottle_160 : decode cX10_bottle 160 = .ok (.getfield 77, 3) := by decide +kernel
theorem dX10_bottle_163 : decode cX10_bottle 163 = .ok (.aload_n 0, 1) := by decide +kernel
theorem dX10_bottle_164 : decode cX10_bottle 164 = .ok (.getfield 100, 3) := by decide +kernel
theorem dX10_bottle_167 : decode cX10_bottle 167 = .ok (.iconst 0, 1) := by decide +kernel
theorem dX10_bottle_168 : decode cX10_bottle 168 = .ok (.iastore, 1) := by decide +kernel
theorem dX10_bottle_169 : decode cX10_bottle 169 = .ok (.aload_n 0, 1) := by decide +kernel
theorem dX10_bottle_170 : decode cX10_bottle 170 = .ok (.getfield 80, 3) := by decide +kernel
theorem dX10_bottle_173 : decode cX10_bottle 173 = .ok (.aload_n 0, 1) := by decide +kernel
theorem dX10_bottle_174 : decode cX10_bottle 174 = .ok (.getfield 100, 3) := by decide +kernel
theorem dX10_bottle_177 : decode cX10_bottle 177 = .ok (.iconst (-1), 1) := by decide +kernel
theorem dX10_bottle_178 : decode cX10_bottle 178 = .ok (.iastore, 1) := by decide +kernel
theorem dX10_bottle_179 : decode cX10_bottle 179 = .ok (.aload_n 0, 1) := by decide +kernel
theorem dX10_bottle_180 : decode cX10_bottle 180 = .ok (.dup, 1) := by decide +kernel
theorem dX10_bottle_181 : decode cX10_bottle 181 = .ok (.getfield 100, 3) := by decide +kernel
theorem dX10_bottle_184 : decode cX10_bottle 184 = .ok (.iconst 1, 1) := by decide +kernel
theorem dX10_bottle_185 : decode cX10_bottle 185 = .ok (.iadd, 1) := by decide +kernel
theorem dX10_bottle_186 : decode cX10_bottle 186 = .ok (.putfield 100, 3) := by decide +kernel
theorem dX10_bottle_189 : decode cX10_bottle 189 = .ok (.aload_n 0, 1) := by decide +kernel
theorem dX10_bottle_190 : decode cX10_bottle 190 = .ok (.getfield 100, 3) := by decide +kernel
theorem dX10_bottle_193 : decode cX10_bottle 193 = .ok (.iconst 1, 1) := by decide +kernel
theorem dX10_bottle_194 : decode cX10_bottle 194 = .ok (.isub, 1) := by decide +kernel
theorem dX10_bottle_195 : decode cX10_bottle 195 = .ok (.ireturn, 1) := by decide +kernel
theorem dX10_treat_0 : decode cX10_treat 0 = .ok (.aload_n 0, 1) := by decide +kernel
theorem dX10_treat_1 : decode cX10_treat 1 = .ok (.iload_n 1, 1) := by decide +kernel
theorem dX10_treat_2 : decode cX10_treat 2 = .ok (.invokevirtual 180, 3) := by decide +kernel
theorem dX10_treat_5 : decode cX10_treat 5 = .ok (.ifCond .eq 16, 3) := by decide +kernel
theorem dX10_treat_8 : decode cX10_treat 8 = .ok (.iload_n 2, 1) := by decide +kernel
theorem dX10_treat_9 : decode cX10_treat 9 = .ok (.iconst 0, 1) := by decide +kernel
theorem dX10_treat_10 : decode cX10_treat 10 = .ok (.iconst 5, 1) := by decide +kernel
theorem dX10_treat_11 : decode cX10_treat 11 = .ok (.invokestatic 93, 3) := by decide +kernel
theorem dX10_treat_14 : decode cX10_treat 14 = .ok (.ifCond .eq 7, 3) := by decide +kernel
theorem dX10_treat_17 : decode cX10_treat 17 = .ok (.iconst 1, 1) := by decide +kernel
theorem dX10_treat_18 : decode cX10_treat 18 = .ok (.goto 4, 3) := by decide +kernel
theorem dX10_treat_21 : decode cX10_treat 21 = .ok (.iconst 0, 1) := by decide +kernel
theorem dX10_treat_22 : decode cX10_treat 22 = .ok (.istore_n 3, 1) := by decide +kernel
theorem dX10_treat_23 : decode cX10_treat 23 = .ok (.aload_n 0, 1) := by decide +kernel
theorem dX10_treat_24 : decode cX10_treat 24 = .ok (.iload_n 3, 1) := by decide +kernel
theorem dX10_treat_25 : decode cX10_treat 25 = .ok (.ifCond .ne 7, 3) := by decide +kernel
theorem dX10_treat_28 : decode cX10_treat 28 = .ok (.iconst 1, 1) := by decide +kernel
theorem dX10_treat_29 : decode cX10_treat 29 = .ok (.goto 18, 3) := by decide +kernel
theorem dX10_treat_32 : decode cX10_treat 32 = .ok (.aload_n 0, 1) := by decide +kernel
theorem dX10_treat_33 : decode cX10_treat 33 = .ok (.getfield 80, 3) := by decide +kernel
theorem dX10_treat_36 : decode cX10_treat 36 = .ok (.iload_n 1, 1) := by decide +kernel
theorem dX10_treat_37 : decode cX10_treat 37 = .ok (.iaload, 1) := by decide +kernel
theorem dX10_treat_38 : decode cX10_treat 38 = .ok (.iconst (-1), 1) := by decide +kernel
theorem dX10_treat_39 : decode cX10_treat 39 = .ok (.if_icmp .ne 7, 3) := by decide +kernel
theorem dX10_treat_42 : decode cX10_treat 42 = .ok (.iconst 0, 1) := by decide +kernel
theorem dX10_treat_43 : decode cX10_treat 43 = .ok (.goto 4, 3) := by decide +kernel
theorem dX10_treat_46 : decode cX10_treat 46 = .ok (.iconst 2, 1) := by decide +kernel
theorem dX10_treat_47 : decode cX10_treat 47 = .ok (.invokevirtual 107, 3) := by decide +kernel
theorem dX10_treat_50 : decode cX10_treat 50 = .ok (.ifCond .ne 5, 3) := by decide +kernel
theorem dX10_treat_53 : decode cX10_treat 53 = .ok (.iconst 0, 1) := by decide +kernel
theorem dX10_treat_54 : decode cX10_treat 54 = .ok (.ireturn, 1) := by decide +kernel
theorem dX10_treat_55 : decode cX10_treat 55 = .ok (.aload_n 0, 1) := by decide +kernel
theorem dX10_treat_56 : decode cX10_treat 56 = .ok (.getfield 77, 3) := by decide +kernel
theorem dX10_treat_59 : decode cX10_treat 59 = .ok (.iload_n 1, 1) := by decide +kernel
theorem dX10_treat_60 : decode cX10_treat 60 = .ok (.dup2, 1) := by decide +kernel
theorem dX10_treat_61 : decode cX10_treat 61 = .ok (.iaload, 1) := by decide +kernel
theorem dX10_treat_62 : decode cX10_treat 62 = .ok (.iconst 1, 1) := by decide +kernel
theorem dX10_treat_63 : decode cX10_treat 63 = .ok (.iload_n 2, 1) := by decide +kernel
theorem dX10_treat_64 : decode cX10_treat 64 = .ok (.ishl, 1) := by decide +kernel
theorem dX10_treat_65 : decode cX10_treat 65 = .ok (.ior, 1) := by decide +kernel
theorem dX10_treat_66 : decode cX10_treat 66 = .ok (.iastore, 1) := by decide +kernel
theorem dX10_treat_67 : decode cX10_treat 67 = .ok (.aload_n 0, 1) := by decide +kernel
theorem dX10_treat_68 : decode cX10_treat 68 = .ok (.getfield 77, 3) := by decide +kernel
theorem dX10_treat_71 : decode cX10_treat 71 = .ok (.iload_n 1, 1) := by decide +kernel
theorem dX10_treat_72 : decode cX10_treat 72 = .ok (.iaload, 1) := by decide +kernel
theorem dX10_treat_73 : decode cX10_treat 73 = .ok (.ireturn, 1) := by decide +kernel
theorem dX10_nitrateOf_0 : decode cX10_nitrateOf 0 = .ok (.lconst 0, 1) := by decide +kernel
theorem dX10_nitrateOf_1 : decode cX10_nitrateOf 1 = .ok (.lstore_n 2, 1) := by decide +kernel
theorem dX10_nitrateOf_2 : decode cX10_nitrateOf 2 = .ok (.aload_n 0, 1) := by decide +kernel
theorem dX10_nitrateOf_3 : decode cX10_nitrateOf 3 = .ok (.getfield 28, 3) := by decide +kernel
theorem dX10_nitrateOf_6 : decode cX10_nitrateOf 6 = .ok (.iload_n 1, 1) := by decide +kernel
theorem dX10_nitrateOf_7 : decode cX10_nitrateOf 7 = .ok (.iaload, 1) := by decide +kernel
theorem dX10_nitrateOf_8 : decode cX10_nitrateOf 8 = .ok (.istore 4, 2) := by decide +kernel
theorem dX10_nitrateOf_10 : decode cX10_nitrateOf 10 = .ok (.iload 4, 2) := by decide +kernel
theorem dX10_nitrateOf_12 : decode cX10_nitrateOf 12 = .ok (.iconst (-1), 1) := by decide +kernel
theorem dX10_nitrateOf_13 : decode cX10_nitrateOf 13 = .ok (.if_icmp .eq 35, 3) := by decide +kernel
theorem dX10_nitrateOf_16 : decode cX10_nitrateOf 16 = .ok (.lload_n 2, 1) := by decide +kernel
theorem dX10_nitrateOf_17 : decode cX10_nitrateOf 17 = .ok (.aload_n 0, 1) := by decide +kernel
theorem dX10_nitrateOf_18 : decode cX10_nitrateOf 18 = .ok (.getfield 40, 3) := by decide +kernel
theorem dX10_nitrateOf_21 : decode cX10_nitrateOf 21 = .ok (.iload 4, 2) := by decide +kernel
theorem dX10_nitrateOf_23 : decode cX10_nitrateOf 23 = .ok (.iaload, 1) := by decide +kernel
theorem dX10_nitrateOf_24 : decode cX10_nitrateOf 24 = .ok (.i2l, 1) := by decide +kernel
theorem dX10_nitrateOf_25 : decode cX10_nitrateOf 25 = .ok (.aload_n 0, 1) := by decide +kernel
theorem dX10_nitrateOf_26 : decode cX10_nitrateOf 26 = .ok (.getfield 49, 3) := by decide +kernel
theorem dX10_nitrateOf_29 : decode cX10_nitrateOf 29 = .ok (.iload 4, 2) := by decide +kernel
theorem dX10_nitrateOf_31 : decode cX10_nitrateOf 31 = .ok (.iaload, 1) := by decide +kernel
theorem dX10_nitrateOf_32 : decode cX10_nitrateOf 32 = .ok (.i2l, 1) := by decide +kernel
theorem dX10_nitrateOf_33 : decode cX10_nitrateOf 33 = .ok (.lmul, 1) := by decide +kernel
theorem dX10_nitrateOf_34 : decode cX10_nitrateOf 34 = .ok (.ladd, 1) := by decide +kernel
theorem dX10_nitrateOf_35 : decode cX10_nitrateOf 35 = .ok (.lstore_n 2, 1) := by decide +kernel
theorem dX10_nitrateOf_36 : decode cX10_nitrateOf 36 = .ok (.aload_n 0, 1) := by decide +kernel
theorem dX10_nitrateOf_37 : decode cX10_nitrateOf 37 = .ok (.getfield 37, 3) := by decide +kernel
theorem dX10_nitrateOf_40 : decode cX10_nitrateOf 40 = .ok (.iload 4, 2) := by decide +kernel
theorem dX10_nitrateOf_42 : decode cX10_nitrateOf 42 = .ok (.iaload, 1) := by decide +kernel
theorem dX10_nitrateOf_43 : decode cX10_nitrateOf 43 = .ok (.istore 4, 2) := by decide +kernel
theorem dX10_nitrateOf_45 : decode cX10_nitrateOf 45 = .ok (.goto (-35), 3) := by decide +kernel
theorem dX10_nitrateOf_48 : decode cX10_nitrateOf 48 = .ok (.lload_n 2, 1) := by decide +kernel
theorem dX10_nitrateOf_49 : decode cX10_nitrateOf 49 = .ok (.lreturn, 1) := by decide +kernel
theorem dX10_compoundsOf_0 : decode cX10_compoundsOf 0 = .ok (.iconst 0, 1) := by decide +kernel
theorem dX10_compoundsOf_1 : decode cX10_compoundsOf 1 = .ok (.istore_n 2, 1) := by decide +kernel
theorem dX10_compoundsOf_2 : decode cX10_compoundsOf 2 = .ok (.aload_n 0, 1) := by decide +kernel
theorem dX10_compoundsOf_3 : decode cX10_compoundsOf 3 = .ok (.getfield 28, 3) := by decide +kernel
theorem dX10_compoundsOf_6 : decode cX10_compoundsOf 6 = .ok (.iload_n 1, 1) := by decide +kernel
theorem dX10_compoundsOf_7 : decode cX10_compoundsOf 7 = .ok (.iaload, 1) := by decide +kernel
theorem dX10_compoundsOf_8 : decode cX10_compoundsOf 8 = .ok (.istore_n 3, 1) := by decide +kernel
theorem dX10_compoundsOf_9 : decode cX10_compoundsOf 9 = .ok (.iload_n 3, 1) := by decide +kernel
theorem dX10_compoundsOf_10 : decode cX10_compoundsOf 10 = .ok (.iconst (-1), 1) := by decide +kernel
theorem dX10_compoundsOf_11 : decode cX10_compoundsOf 11 = .ok (.if_icmp .eq 22, 3) := by decide +kernel
theorem dX10_compoundsOf_14 : decode cX10_compoundsOf 14 = .ok (.iload_n 2, 1) := by decide +kernel
theorem dX10_compoundsOf_15 : decode cX10_compoundsOf 15 = .ok (.aload_n 0, 1) := by decide +kernel
theorem dX10_compoundsOf_16 : decode cX10_compoundsOf 16 = .ok (.getfield 52, 3) := by decide +kernel
theorem dX10_compoundsOf_19 : decode cX10_compoundsOf 19 = .ok (.iload_n 3, 1) := by decide +kernel
theorem dX10_compoundsOf_20 : decode cX10_compoundsOf 20 = .ok (.iaload, 1) := by decide +kernel
theorem dX10_compoundsOf_21 : decode cX10_compoundsOf 21 = .ok (.ior, 1) := by decide +kernel
theorem dX10_compoundsOf_22 : decode cX10_compoundsOf 22 = .ok (.istore_n 2, 1) := by decide +kernel
theorem dX10_compoundsOf_23 : decode cX10_compoundsOf 23 = .ok (.aload_n 0, 1) := by decide +kernel
theorem dX10_compoundsOf_24 : decode cX10_compoundsOf 24 = .ok (.getfield 37, 3) := by decide +kernel
theorem dX10_compoundsOf_27 : decode cX10_compoundsOf 27 = .ok (.iload_n 3, 1) := by decide +kernel
theorem dX10_compoundsOf_28 : decode cX10_compoundsOf 28 = .ok (.iaload, 1) := by decide +kernel
theorem dX10_compoundsOf_29 : decode cX10_compoundsOf 29 = .ok (.istore_n 3, 1) := by decide +kernel
theorem dX10_compoundsOf_30 : decode cX10_compoundsOf 30 = .ok (.goto (-21), 3) := by decide +kernel
theorem dX10_compoundsOf_33 : decode cX10_compoundsOf 33 = .ok (.iload_n 2, 1) := by decide +kernel
theorem dX10_compoundsOf_34 : decode cX10_compoundsOf 34 = .ok (.ireturn, 1) := by decide +kernel
theorem dX10_fallOf_0 : decode cX10_fallOf 0 = .ok (.iconst (-1), 1) := by decide +kernel
theorem dX10_fallOf_1 : decode cX10_fallOf 1 = .ok (.istore_n 3, 1) := by decide +kernel
theorem dX10_fallOf_2 : decode cX10_fallOf 2 = .ok (.aload_n 0, 1) := by decide +kernel
theorem dX10_fallOf_3 : decode cX10_fallOf 3 = .ok (.getfield 28, 3) := by decide +kernel
theorem dX10_fallOf_6 : decode cX10_fallOf 6 = .ok (.iload_n 1, 1) := by decide +kernel
theorem dX10_fallOf_7 : decode cX10_fallOf 7 = .ok (.iaload, 1) := by decide +kernel
theorem dX10_fallOf_8 : decode cX10_fallOf 8 = .ok (.istore 4, 2) := by decide +kernel
theorem dX10_fallOf_10 : decode cX10_fallOf 10 = .ok (.iload 4, 2) := by decide +kernel
theorem dX10_fallOf_12 : decode cX10_fallOf 12 = .ok (.iconst (-1), 1) := by decide +kernel
theorem dX10_fallOf_13 : decode cX10_fallOf 13 = .ok (.if_icmp .eq 61, 3) := by decide +kernel
theorem dX10_fallOf_16 : decode cX10_fallOf 16 = .ok (.iload_n 3, 1) := by decide +kernel
theorem dX10_fallOf_17 : decode cX10_fallOf 17 = .ok (.iconst (-1), 1) := by decide +kernel
theorem dX10_fallOf_18 : decode cX10_fallOf 18 = .ok (.if_icmp .eq 32, 3) := by decide +kernel
theorem dX10_fallOf_21 : decode cX10_fallOf 21 = .ok (.iload_n 2, 1) := by decide +kernel
theorem dX10_fallOf_22 : decode cX10_fallOf 22 = .ok (.ifCond .eq 17, 3) := by decide +kernel
theorem dX10_fallOf_25 : decode cX10_fallOf 25 = .ok (.aload_n 0, 1) := by decide +kernel
theorem dX10_fallOf_26 : decode cX10_fallOf 26 = .ok (.getfield 46, 3) := by decide +kernel
theorem dX10_fallOf_29 : decode cX10_fallOf 29 = .ok (.iload 4, 2) := by decide +kernel
theorem dX10_fallOf_31 : decode cX10_fallOf 31 = .ok (.iaload, 1) := by decide +kernel
theorem dX10_fallOf_32 : decode cX10_fallOf 32 = .ok (.iload_n 3, 1) := by decide +kernel
theorem dX10_fallOf_33 : decode cX10_fallOf 33 = .ok (.if_icmp .le 27, 3) := by decide +kernel
theorem dX10_fallOf_36 : decode cX10_fallOf 36 = .ok (.goto 14, 3) := by decide +kernel
theorem dX10_fallOf_39 : decode cX10_fallOf 39 = .ok (.aload_n 0, 1) := by decide +kernel
theorem dX10_fallOf_40 : decode cX10_fallOf 40 = .ok (.getfield 46, 3) := by decide +kernel
theorem dX10_fallOf_43 : decode cX10_fallOf 43 = .ok (.iload 4, 2) := by decide +kernel
theorem dX10_fallOf_45 : decode cX10_fallOf 45 = .ok (.iaload, 1) := by decide +kernel
theorem dX10_fallOf_46 : decode cX10_fallOf 46 = .ok (.iload_n 3, 1) := by decide +kernel
theorem dX10_fallOf_47 : decode cX10_fallOf 47 = .ok (.if_icmp .ge 13, 3) := by decide +kernel
theorem dX10_fallOf_50 : decode cX10_fallOf 50 = .ok (.aload_n 0, 1) := by decide +kernel
theorem dX10_fallOf_51 : decode cX10_fallOf 51 = .ok (.getfield 46, 3) := by decide +kernel
theorem dX10_fallOf_54 : decode cX10_fallOf 54 = .ok (.iload 4, 2) := by decide +kernel
theorem dX10_fallOf_56 : decode cX10_fallOf 56 = .ok (.iaload, 1) := by decide +kernel
theorem dX10_fallOf_57 : decode cX10_fallOf 57 = .ok (.goto 4, 3) := by decide +kernel
theorem dX10_fallOf_60 : decode cX10_fallOf 60 = .ok (.iload_n 3, 1) := by decide +kernel
theorem dX10_fallOf_61 : decode cX10_fallOf 61 = .ok (.istore_n 3, 1) := by decide +kernel
theorem dX10_fallOf_62 : decode cX10_fallOf 62 = .ok (.aload_n 0, 1) := by decide +kernel
theorem dX10_fallOf_63 : decode cX10_fallOf 63 = .ok (.getfield 37, 3) := by decide +kernel
theorem dX10_fallOf_66 : decode cX10_fallOf 66 = .ok (.iload 4, 2) := by decide +kernel
theorem dX10_fallOf_68 : decode cX10_fallOf 68 = .ok (.iaload, 1) := by decide +kernel
theorem dX10_fallOf_69 : decode cX10_fallOf 69 = .ok (.istore 4, 2) := by decide +kernel
theorem dX10_fallOf_71 : decode cX10_fallOf 71 = .ok (.goto (-61), 3) := by decide +kernel
theorem dX10_fallOf_74 : decode cX10_fallOf 74 = .ok (.iload_n 3, 1) := by decide +kernel
theorem dX10_fallOf_75 : decode cX10_fallOf 75 = .ok (.ireturn, 1) := by decide +kernel
theorem dX10_isWater_0 : decode cX10_isWater 0 = .ok (.iload_n 1, 1) := by decide +kernel
theorem dX10_isWater_1 : decode cX10_isWater 1 = .ok (.invokestatic 171, 3) := by decide +kernel
theorem dX10_isWater_4 : decode cX10_isWater 4 = .ok (.istore_n 3, 1) := by decide +kernel
theorem dX10_isWater_5 : decode cX10_isWater 5 = .ok (.iload_n 2, 1) := by decide +kernel
theorem dX10_isWater_6 : decode cX10_isWater 6 = .ok (.ifCond .ne 7, 3) := by decide +kernel
theorem dX10_isWater_9 : decode cX10_isWater 9 = .ok (.iconst 1, 1) := by decide +kernel
theorem dX10_isWater_10 : decode cX10_isWater 10 = .ok (.goto 4, 3) := by decide +kernel
theorem dX10_isWater_13 : decode cX10_isWater 13 = .ok (.iconst 3, 1) := by decide +kernel
theorem dX10_isWater_14 : decode cX10_isWater 14 = .ok (.aload_n 0, 1) := by decide +kernel
theorem dX10_isWater_15 : decode cX10_isWater 15 = .ok (.getfield 183, 3) := by decide +kernel
theorem dX10_isWater_18 : decode cX10_isWater 18 = .ok (.iconst (-1), 1) := by decide +kernel
theorem dX10_isWater_19 : decode cX10_isWater 19 = .ok (.ixor, 1) := by decide +kernel
theorem dX10_isWater_20 : decode cX10_isWater 20 = .ok (.iand, 1) := by decide +kernel
theorem dX10_isWater_21 : decode cX10_isWater 21 = .ok (.istore 4, 2) := by decide +kernel
theorem dX10_isWater_23 : decode cX10_isWater 23 = .ok (.aload_n 0, 1) := by decide +kernel
theorem dX10_isWater_24 : decode cX10_isWater 24 = .ok (.getfield 77, 3) := by decide +kernel
theorem dX10_isWater_27 : decode cX10_isWater 27 = .ok (.iload_n 1, 1) := by decide +kernel
theorem dX10_isWater_28 : decode cX10_isWater 28 = .ok (.iaload, 1) := by decide +kernel
theorem dX10_isWater_29 : decode cX10_isWater 29 = .ok (.iload 4, 2) := by decide +kernel
theorem dX10_isWater_31 : decode cX10_isWater 31 = .ok (.iconst (-1), 1) := by decide +kernel
theorem dX10_isWater_32 : decode cX10_isWater 32 = .ok (.ixor, 1) := by decide +kernel
theorem dX10_isWater_33 : decode cX10_isWater 33 = .ok (.iand, 1) := by decide +kernel
theorem dX10_isWater_34 : decode cX10_isWater 34 = .ok (.ifCond .ne 7, 3) := by decide +kernel
theorem dX10_isWater_37 : decode cX10_isWater 37 = .ok (.iconst 1, 1) := by decide +kernel
theorem dX10_isWater_38 : decode cX10_isWater 38 = .ok (.goto 4, 3) := by decide +kernel
theorem dX10_isWater_41 : decode cX10_isWater 41 = .ok (.iconst 0, 1) := by decide +kernel
theorem dX10_isWater_42 : decode cX10_isWater 42 = .ok (.istore 5, 2) := by decide +kernel
theorem dX10_isWater_44 : decode cX10_isWater 44 = .ok (.aload_n 0, 1) := by decide +kernel
theorem dX10_isWater_45 : decode cX10_isWater 45 = .ok (.getfield 74, 3) := by decide +kernel
theorem dX10_isWater_48 : decode cX10_isWater 48 = .ok (.iload_n 1, 1) := by decide +kernel
theorem dX10_isWater_49 : decode cX10_isWater 49 = .ok (.iaload, 1) := by decide +kernel
theorem dX10_isWater_50 : decode cX10_isWater 50 = .ok (.aload_n 0, 1) := by decide +kernel
theorem dX10_isWater_51 : decode cX10_isWater 51 = .ok (.iload_n 3, 1) := by decide +kernel
theorem dX10_isWater_52 : decode cX10_isWater 52 = .ok (.iconst 1, 1) := by decide +kernel
theorem dX10_isWater_53 : decode cX10_isWater 53 = .ok (.invokevirtual 186, 3) := by decide +kernel
theorem dX10_isWater_56 : decode cX10_isWater 56 = .ok (.isub, 1) := by decide +kernel
theorem dX10_isWater_57 : decode cX10_isWater 57 = .ok (.bipush 10, 2) := by decide +kernel
theorem dX10_isWater_59 : decode cX10_isWater 59 = .ok (.if_icmp .lt 7, 3) := by decide +kernel
theorem dX10_isWater_62 : decode cX10_isWater 62 = .ok (.iconst 1, 1) := by decide +kernel
theorem dX10_isWater_63 : decode cX10_isWater 63 = .ok (.goto 4, 3) := by decide +kernel
theorem dX10_isWater_66 : decode cX10_isWater 66 = .ok (.iconst 0, 1) := by decide +kernel
theorem dX10_isWater_67 : decode cX10_isWater 67 = .ok (.istore 6, 2) := by decide +kernel
theorem dX10_isWater_69 : decode cX10_isWater 69 = .ok (.iload_n 2, 1) := by decide +kernel
theorem dX10_isWater_70 : decode cX10_isWater 70 = .ok (.ifCond .ne 47, 3) := by decide +kernel
theorem dX10_isWater_73 : decode cX10_isWater 73 = .ok (.iload 5, 2) := by decide +kernel
theorem dX10_isWater_75 : decode cX10_isWater 75 = .ok (.ifCond .eq 40, 3) := by decide +kernel
theorem dX10_isWater_78 : decode cX10_isWater 78 = .ok (.aload_n 0, 1) := by decide +kernel
theorem dX10_isWater_79 : decode cX10_isWater 79 = .ok (.iload_n 3, 1) := by decide +kernel
theorem dX10_isWater_80 : decode cX10_isWater 80 = .ok (.invokevirtual 190, 3) := by decide +kernel
theorem dX10_isWater_83 : decode cX10_isWater 83 = .ok (.ifCond .ne 32, 3) := by decide +kernel
theorem dX10_isWater_86 : decode cX10_isWater 86 = .ok (.iload 6, 2) := by decide +kernel
theorem dX10_isWater_88 : decode cX10_isWater 88 = .ok (.ifCond .eq 27, 3) := by decide +kernel
theorem dX10_isWater_91 : decode cX10_isWater 91 = .ok (.aload_n 0, 1) := by decide +kernel
theorem dX10_isWater_92 : decode cX10_isWater 92 = .ok (.iload_n 3, 1) := by decide +kernel
theorem dX10_isWater_93 : decode cX10_isWater 93 = .ok (.invokevirtual 193, 3) := by decide +kernel
theorem dX10_isWater_96 : decode cX10_isWater 96 = .ok (.ldc2_w 197, 3) := by decide +kernel
theorem dX10_isWater_99 : decode cX10_isWater 99 = .ok (.aload_n 0, 1) := by decide +kernel
theorem dX10_isWater_100 : decode cX10_isWater 100 = .ok (.getfield 34, 3) := by decide +kernel
theorem dX10_isWater_103 : decode cX10_isWater 103 = .ok (.iload_n 3, 1) := by decide +kernel
theorem dX10_isWater_104 : decode cX10_isWater 104 = .ok (.iaload, 1) := by decide +kernel
theorem dX10_isWater_105 : decode cX10_isWater 105 = .ok (.i2l, 1) := by decide +kernel
theorem dX10_isWater_106 : decode cX10_isWater 106 = .ok (.lmul, 1) := by decide +kernel
theorem dX10_isWater_107 : decode cX10_isWater 107 = .ok (.lcmp, 1) := by decide +kernel
theorem dX10_isWater_108 : decode cX10_isWater 108 = .ok (.ifCond .gt 7, 3) := by decide +kernel
theorem dX10_isWater_111 : decode cX10_isWater 111 = .ok (.iconst 1, 1) := by decide +kernel
theorem dX10_isWater_112 : decode cX10_isWater 112 = .ok (.goto 4, 3) := by decide +kernel
theorem dX10_isWater_115 : decode cX10_isWater 115 = .ok (.iconst 0, 1) := by decide +kernel
theorem dX10_isWater_116 : decode cX10_isWater 116 = .ok (.ireturn, 1) := by decide +kernel
theorem dX10_isWater_117 : decode cX10_isWater 117 = .ok (.iload_n 2, 1) := by decide +kernel
theorem dX10_isWater_118 : decode cX10_isWater 118 = .ok (.iconst 1, 1) := by decide +kernel
theorem dX10_isWater_119 : decode cX10_isWater 119 = .ok (.if_icmp .ne 28, 3) := by decide +kernel
theorem dX10_isWater_122 : decode cX10_isWater 122 = .ok (.iload 5, 2) := by decide +kernel
theorem dX10_isWater_124 : decode cX10_isWater 124 = .ok (.ifCond .eq 27, 3) := by decide +kernel
theorem dX10_isWater_127 : decode cX10_isWater 127 = .ok (.aload_n 0, 1) := by decide +kernel
theorem dX10_isWater_128 : decode cX10_isWater 128 = .ok (.iload_n 3, 1) := by decide +kernel
theorem dX10_isWater_129 : decode cX10_isWater 129 = .ok (.invokevirtual 193, 3) := by decide +kernel
theorem dX10_isWater_132 : decode cX10_isWater 132 = .ok (.ldc2_w 199, 3) := by decide +kernel
theorem dX10_isWater_135 : decode cX10_isWater 135 = .ok (.aload_n 0, 1) := by decide +kernel
theorem dX10_isWater_136 : decode cX10_isWater 136 = .ok (.getfield 34, 3) := by decide +kernel
theorem dX10_isWater_139 : decode cX10_isWater 139 = .ok (.iload_n 3, 1) := by decide +kernel
theorem dX10_isWater_140 : decode cX10_isWater 140 = .ok (.iaload, 1) := by decide +kernel
theorem dX10_isWater_141 : decode cX10_isWater 141 = .ok (.i2l, 1) := by decide +kernel
theorem dX10_isWater_142 : decode cX10_isWater 142 = .ok (.lmul, 1) := by decide +kernel
theorem dX10_isWater_143 : decode cX10_isWater 143 = .ok (.lcmp, 1) := by decide +kernel
theorem dX10_isWater_144 : decode cX10_isWater 144 = .ok (.ifCond .gt 7, 3) := by decide +kernel
theorem dX10_isWater_147 : decode cX10_isWater 147 = .ok (.iconst 1, 1) := by decide +kernel
theorem dX10_isWater_148 : decode cX10_isWater 148 = .ok (.goto 4, 3) := by decide +kernel
theorem dX10_isWater_151 : decode cX10_isWater 151 = .ok (.iconst 0, 1) := by decide +kernel
theorem dX10_isWater_152 : decode cX10_isWater 152 = .ok (.ireturn, 1) := by decide +kernel
theorem dX10_label_0 : decode cX10_label 0 = .ok (.aload_n 0, 1) := by decide +kernel
theorem dX10_label_1 : decode cX10_label 1 = .ok (.iload_n 1, 1) := by decide +kernel
theorem dX10_label_2 : decode cX10_label 2 = .ok (.invokevirtual 180, 3) := by decide +kernel
theorem dX10_label_5 : decode cX10_label 5 = .ok (.istore_n 3, 1) := by decide +kernel
theorem dX10_label_6 : decode cX10_label 6 = .ok (.iload_n 2, 1) := by decide +kernel
theorem dX10_label_7 : decode cX10_label 7 = .ok (.iconst 0, 1) := by decide +kernel
theorem dX10_label_8 : decode cX10_label 8 = .ok (.iconst 2, 1) := by decide +kernel
theorem dX10_label_9 : decode cX10_label 9 = .ok (.invokestatic 93, 3) := by decide +kernel
theorem dX10_label_12 : decode cX10_label 12 = .ok (.istore 4, 2) := by decide +kernel
theorem dX10_label_14 : decode cX10_label 14 = .ok (.aload_n 0, 1) := by decide +kernel
theorem dX10_label_15 : decode cX10_label 15 = .ok (.iload_n 3, 1) := by decide +kernel
theorem dX10_label_16 : decode cX10_label 16 = .ok (.ifCond .ne 7, 3) := by decide +kernel
theorem dX10_label_19 : decode cX10_label 19 = .ok (.iconst 1, 1) := by decide +kernel
theorem dX10_label_20 : decode cX10_label 20 = .ok (.goto 27, 3) := by decide +kernel
theorem dX10_label_23 : decode cX10_label 23 = .ok (.iload 4, 2) := by decide +kernel
theorem dX10_label_25 : decode cX10_label 25 = .ok (.ifCond .ne 7, 3) := by decide +kernel
theorem dX10_label_28 : decode cX10_label 28 = .ok (.iconst 2, 1) := by decide +kernel
theorem dX10_label_29 : decode cX10_label 29 = .ok (.goto 18, 3) := by decide +kernel
theorem dX10_label_32 : decode cX10_label 32 = .ok (.aload_n 0, 1) := by decide +kernel
theorem dX10_label_33 : decode cX10_label 33 = .ok (.getfield 80, 3) := by decide +kernel
theorem dX10_label_36 : decode cX10_label 36 = .ok (.iload_n 1, 1) := by decide +kernel
theorem dX10_label_37 : decode cX10_label 37 = .ok (.iaload, 1) := by decide +kernel
theorem dX10_label_38 : decode cX10_label 38 = .ok (.iconst (-1), 1) := by decide +kernel
theorem dX10_label_39 : decode cX10_label 39 = .ok (.if_icmp .eq 7, 3) := by decide +kernel
theorem dX10_label_42 : decode cX10_label 42 = .ok (.iconst 3, 1) := by decide +kernel
theorem dX10_label_43 : decode cX10_label 43 = .ok (.goto 4, 3) := by decide +kernel
theorem dX10_label_46 : decode cX10_label 46 = .ok (.iconst 0, 1) := by decide +kernel
theorem dX10_label_47 : decode cX10_label 47 = .ok (.invokevirtual 107, 3) := by decide +kernel
theorem dX10_label_50 : decode cX10_label 50 = .ok (.ifCond .ne 5, 3) := by decide +kernel
theorem dX10_label_53 : decode cX10_label 53 = .ok (.iconst 0, 1) := by decide +kernel
theorem dX10_label_54 : decode cX10_label 54 = .ok (.ireturn, 1) := by decide +kernel
theorem dX10_label_55 : decode cX10_label 55 = .ok (.aload_n 0, 1) := by decide +kernel
theorem dX10_label_56 : decode cX10_label 56 = .ok (.getfield 80, 3) := by decide +kernel
theorem dX10_label_59 : decode cX10_label 59 = .ok (.iload_n 1, 1) := by decide +kernel
theorem dX10_label_60 : decode cX10_label 60 = .ok (.iload_n 2, 1) := by decide +kernel
theorem dX10_label_61 : decode cX10_label 61 = .ok (.iastore, 1) := by decide +kernel
theorem dX10_label_62 : decode cX10_label 62 = .ok (.aload_n 0, 1) := by decide +kernel
theorem dX10_label_63 : decode cX10_label 63 = .ok (.getfield 83, 3) := by decide +kernel
theorem dX10_label_66 : decode cX10_label 66 = .ok (.iload_n 1, 1) := by decide +kernel
theorem dX10_label_67 : decode cX10_label 67 = .ok (.aload_n 0, 1) := by decide +kernel
theorem dX10_label_68 : decode cX10_label 68 = .ok (.iload_n 1, 1) := by decide +kernel
theorem dX10_label_69 : decode cX10_label 69 = .ok (.iload_n 2, 1) := by decide +kernel
theorem dX10_label_70 : decode cX10_label 70 = .ok (.invokevirtual 201, 3) := by decide +kernel
theorem dX10_label_73 : decode cX10_label 73 = .ok (.bastore, 1) := by decide +kernel
theorem dX10_label_74 : decode cX10_label 74 = .ok (.aload_n 0, 1) := by decide +kernel
theorem dX10_label_75 : decode cX10_label 75 = .ok (.getfield 83, 3) := by decide +kernel
theorem dX10_label_78 : decode cX10_label 78 = .ok (.iload_n 1, 1) := by decide +kernel
theorem dX10_label_79 : decode cX10_label 79 = .ok (.baload, 1) := by decide +kernel
theorem dX10_label_80 : decode cX10_label 80 = .ok (.ireturn, 1) := by decide +kernel
theorem dX10_forbid_0 : decode cX10_forbid 0 = .ok (.iload_n 1, 1) := by decide +kernel
theorem dX10_forbid_1 : decode cX10_forbid 1 = .ok (.iconst 0, 1) := by decide +kernel
theorem dX10_forbid_2 : decode cX10_forbid 2 = .ok (.iconst 5, 1) := by decide +kernel
theorem dX10_forbid_3 : decode cX10_forbid 3 = .ok (.invokestatic 93, 3) := by decide +kernel
theorem dX10_forbid_6 : decode cX10_forbid 6 = .ok (.istore_n 2, 1) := by decide +kernel
theorem dX10_forbid_7 : decode cX10_forbid 7 = .ok (.aload_n 0, 1) := by decide +kernel
theorem dX10_forbid_8 : decode cX10_forbid 8 = .ok (.iload_n 2, 1) := by decide +kernel
theorem dX10_forbid_9 : decode cX10_forbid 9 = .ok (.ifCond .ne 7, 3) := by decide +kernel
theorem dX10_forbid_12 : decode cX10_forbid 12 = .ok (.iconst 1, 1) := by decide +kernel
theorem dX10_forbid_13 : decode cX10_forbid 13 = .ok (.goto 20, 3) := by decide +kernel
theorem dX10_forbid_16 : decode cX10_forbid 16 = .ok (.aload_n 0, 1) := by decide +kernel
theorem dX10_forbid_17 : decode cX10_forbid 17 = .ok (.getfield 183, 3) := by decide +kernel
theorem dX10_forbid_20 : decode cX10_forbid 20 = .ok (.iload_n 1, 1) := by decide +kernel
theorem dX10_forbid_21 : decode cX10_forbid 21 = .ok (.ishr, 1) := by decide +kernel
theorem dX10_forbid_22 : decode cX10_forbid 22 = .ok (.iconst 1, 1) := by decide +kernel
theorem dX10_forbid_23 : decode cX10_forbid 23 = .ok (.iand, 1) := by decide +kernel
theorem dX10_forbid_24 : decode cX10_forbid 24 = .ok (.iconst 1, 1) := by decide +kernel
theorem dX10_forbid_25 : decode cX10_forbid 25 = .ok (.if_icmp .ne 7, 3) := by decide +kernel
theorem dX10_forbid_28 : decode cX10_forbid 28 = .ok (.iconst 2, 1) := by decide +kernel
theorem dX10_forbid_29 : decode cX10_forbid 29 = .ok (.goto 4, 3) := by decide +kernel
theorem dX10_forbid_32 : decode cX10_forbid 32 = .ok (.iconst 0, 1) := by decide +kernel
theorem dX10_forbid_33 : decode cX10_forbid 33 = .ok (.invokevirtual 107, 3) := by decide +kernel
theorem dX10_forbid_36 : decode cX10_forbid 36 = .ok (.ifCond .ne 5, 3) := by decide +kernel
theorem dX10_forbid_39 : decode cX10_forbid 39 = .ok (.iconst 0, 1) := by decide +kernel
theorem dX10_forbid_40 : decode cX10_forbid 40 = .ok (.ireturn, 1) := by decide +kernel
theorem dX10_forbid_41 : decode cX10_forbid 41 = .ok (.aload_n 0, 1) := by decide +kernel
theorem dX10_forbid_42 : decode cX10_forbid 42 = .ok (.dup, 1) := by decide +kernel
theorem dX10_forbid_43 : decode cX10_forbid 43 = .ok (.getfield 183, 3) := by decide +kernel
theorem dX10_forbid_46 : decode cX10_forbid 46 = .ok (.iconst 1, 1) := by decide +kernel
theorem dX10_forbid_47 : decode cX10_forbid 47 = .ok (.iload_n 1, 1) := by decide +kernel
theorem dX10_forbid_48 : decode cX10_forbid 48 = .ok (.ishl, 1) := by decide +kernel
theorem dX10_forbid_49 : decode cX10_forbid 49 = .ok (.ior, 1) := by decide +kernel
theorem dX10_forbid_50 : decode cX10_forbid 50 = .ok (.putfield 183, 3) := by decide +kernel
theorem dX10_forbid_53 : decode cX10_forbid 53 = .ok (.iconst 0, 1) := by decide +kernel
theorem dX10_forbid_54 : decode cX10_forbid 54 = .ok (.istore_n 3, 1) := by decide +kernel
theorem dX10_forbid_55 : decode cX10_forbid 55 = .ok (.iconst 0, 1) := by decide +kernel
theorem dX10_forbid_56 : decode cX10_forbid 56 = .ok (.istore 4, 2) := by decide +kernel
theorem dX10_forbid_58 : decode cX10_forbid 58 = .ok (.iload 4, 2) := by decide +kernel
theorem dX10_forbid_60 : decode cX10_forbid 60 = .ok (.aload_n 0, 1) := by decide +kernel
theorem dX10_forbid_61 : decode cX10_forbid 61 = .ok (.getfield 100, 3) := by decide +kernel
theorem dX10_forbid_64 : decode cX10_forbid 64 = .ok (.if_icmp .ge 102, 3) := by decide +kernel
theorem dX10_forbid_67 : decode cX10_forbid 67 = .ok (.aload_n 0, 1) := by decide +kernel
theorem dX10_forbid_68 : decode cX10_forbid 68 = .ok (.getfield 77, 3) := by decide +kernel
theorem dX10_forbid_71 : decode cX10_forbid 71 = .ok (.iload 4, 2) := by decide +kernel
theorem dX10_forbid_73 : decode cX10_forbid 73 = .ok (.iaload, 1) := by decide +kernel
theorem dX10_forbid_74 : decode cX10_forbid 74 = .ok (.iload_n 1, 1) := by decide +kernel
theorem dX10_forbid_75 : decode cX10_forbid 75 = .ok (.ishr, 1) := by decide +kernel
theorem dX10_forbid_76 : decode cX10_forbid 76 = .ok (.iconst 1, 1) := by decide +kernel
theorem dX10_forbid_77 : decode cX10_forbid 77 = .ok (.iand, 1) := by decide +kernel
theorem dX10_forbid_78 : decode cX10_forbid 78 = .ok (.iconst 1, 1) := by decide +kernel
theorem dX10_forbid_79 : decode cX10_forbid 79 = .ok (.if_icmp .ne 38, 3) := by decide +kernel
theorem dX10_forbid_82 : decode cX10_forbid 82 = .ok (.aload_n 0, 1) := by decide +kernel
theorem dX10_forbid_83 : decode cX10_forbid 83 = .ok (.getfield 80, 3) := by decide +kernel
theorem dX10_forbid_86 : decode cX10_forbid 86 = .ok (.iload 4, 2) := by decide +kernel
theorem dX10_forbid_88 : decode cX10_forbid 88 = .ok (.iaload, 1) := by decide +kernel
theorem dX10_forbid_89 : decode cX10_forbid 89 = .ok (.ifCond .eq 14, 3) := by decide +kernel
theorem dX10_forbid_92 : decode cX10_forbid 92 = .ok (.aload_n 0, 1) := by decide +kernel
theorem dX10_forbid_93 : decode cX10_forbid 93 = .ok (.getfield 80, 3) := by decide +kernel
theorem dX10_forbid_96 : decode cX10_forbid 96 = .ok (.iload 4, 2) := by decide +kernel
theorem dX10_forbid_98 : decode cX10_forbid 98 = .ok (.iaload, 1) := by decide +kernel
theorem dX10_forbid_99 : decode cX10_forbid 99 = .ok (.iconst 1, 1) := by decide +kernel
theorem dX10_forbid_100 : decode cX10_forbid 100 = .ok (.if_icmp .ne 17, 3) := by decide +kernel
theorem dX10_forbid_103 : decode cX10_forbid 103 = .ok (.aload_n 0, 1) := by decide +kernel
theorem dX10_forbid_104 : decode cX10_forbid 104 = .ok (.getfield 87, 3) := by decide +kernel
theorem dX10_forbid_107 : decode cX10_forbid 107 = .ok (.iload 4, 2) := by decide +kernel
theorem dX10_forbid_109 : decode cX10_forbid 109 = .ok (.baload, 1) := by decide +kernel
theorem dX10_forbid_110 : decode cX10_forbid 110 = .ok (.ifCond .ne 7, 3) := by decide +kernel
theorem dX10_forbid_113 : decode cX10_forbid 113 = .ok (.iconst 1, 1) := by decide +kernel
theorem dX10_forbid_114 : decode cX10_forbid 114 = .ok (.goto 4, 3) := by decide +kernel
theorem dX10_forbid_117 : decode cX10_forbid 117 = .ok (.iconst 0, 1) := by decide +kernel
theorem dX10_forbid_118 : decode cX10_forbid 118 = .ok (.istore 5, 2) := by decide +kernel
theorem dX10_forbid_120 : decode cX10_forbid 120 = .ok (.iload_n 3, 1) := by decide +kernel
theorem dX10_forbid_121 : decode cX10_forbid 121 = .ok (.iload 5, 2) := by decide +kernel
theorem dX10_forbid_123 : decode cX10_forbid 123 = .ok (.ifCond .eq 7, 3) := by decide +kernel
theorem dX10_forbid_126 : decode cX10_forbid 126 = .ok (.iconst 1, 1) := by decide +kernel
theorem dX10_forbid_127 : decode cX10_forbid 127 = .ok (.goto 4, 3) := by decide +kernel
theorem dX10_forbid_130 : decode cX10_forbid 130 = .ok (.iconst 0, 1) := by decide +kernel
theorem dX10_forbid_131 : decode cX10_forbid 131 = .ok (.iadd, 1) := by decide +kernel
theorem dX10_forbid_132 : decode cX10_forbid 132 = .ok (.istore_n 3, 1) := by decide +kernel
theorem dX10_forbid_133 : decode cX10_forbid 133 = .ok (.aload_n 0, 1) := by decide +kernel
theorem dX10_forbid_134 : decode cX10_forbid 134 = .ok (.getfield 87, 3) := by decide +kernel
theorem dX10_forbid_137 : decode cX10_forbid 137 = .ok (.iload 4, 2) := by decide +kernel
theorem dX10_forbid_139 : decode cX10_forbid 139 = .ok (.aload_n 0, 1) := by decide +kernel
theorem dX10_forbid_140 : decode cX10_forbid 140 = .ok (.getfield 87, 3) := by decide +kernel
theorem dX10_forbid_143 : decode cX10_forbid 143 = .ok (.iload 4, 2) := by decide +kernel
theorem dX10_forbid_145 : decode cX10_forbid 145 = .ok (.baload, 1) := by decide +kernel
theorem dX10_forbid_146 : decode cX10_forbid 146 = .ok (.ifCond .ne 8, 3) := by decide +kernel
theorem dX10_forbid_149 : decode cX10_forbid 149 = .ok (.iload 5, 2) := by decide +kernel
theorem dX10_forbid_151 : decode cX10_forbid 151 = .ok (.ifCond .eq 7, 3) := by decide +kernel
theorem dX10_forbid_154 : decode cX10_forbid 154 = .ok (.iconst 1, 1) := by decide +kernel
theorem dX10_forbid_155 : decode cX10_forbid 155 = .ok (.goto 4, 3) := by decide +kernel
theorem dX10_forbid_158 : decode cX10_forbid 158 = .ok (.iconst 0, 1) := by decide +kernel
theorem dX10_forbid_159 : decode cX10_forbid 159 = .ok (.bastore, 1) := by decide +kernel
theorem dX10_forbid_160 : decode cX10_forbid 160 = .ok (.iinc 4 1, 3) := by decide +kernel
theorem dX10_forbid_163 : decode cX10_forbid 163 = .ok (.goto (-105), 3) := by decide +kernel
theorem dX10_forbid_166 : decode cX10_forbid 166 = .ok (.iload_n 3, 1) := by decide +kernel
theorem dX10_forbid_167 : decode cX10_forbid 167 = .ok (.ireturn, 1) := by decide +kernel
theorem dX10_year_0 : decode cX10_year 0 = .ok (.aload_n 0, 1) := by decide +kernel
theorem dX10_year_1 : decode cX10_year 1 = .ok (.iconst 0, 1) := by decide +kernel
theorem dX10_year_2 : decode cX10_year 2 = .ok (.putfield 90, 3) := by decide +kernel
theorem dX10_year_5 : decode cX10_year 5 = .ok (.aload_n 0, 1) := by decide +kernel
theorem dX10_year_6 : decode cX10_year 6 = .ok (.getfield 131, 3) := by decide +kernel
theorem dX10_year_9 : decode cX10_year 9 = .ok (.ireturn, 1) := by decide +kernel
theorem dX10_cellOf_0 : decode cX10_cellOf 0 = .ok (.aload_n 0, 1) := by decide +kernel
theorem dX10_cellOf_1 : decode cX10_cellOf 1 = .ok (.iload_n 1, 1) := by decide +kernel
theorem dX10_cellOf_2 : decode cX10_cellOf 2 = .ok (.invokestatic 103, 3) := by decide +kernel
theorem dX10_cellOf_5 : decode cX10_cellOf 5 = .ok (.ifCond .ne 7, 3) := by decide +kernel
theorem dX10_cellOf_8 : decode cX10_cellOf 8 = .ok (.iconst 1, 1) := by decide +kernel
theorem dX10_cellOf_9 : decode cX10_cellOf 9 = .ok (.goto 18, 3) := by decide +kernel
theorem dX10_cellOf_12 : decode cX10_cellOf 12 = .ok (.iload_n 2, 1) := by decide +kernel
theorem dX10_cellOf_13 : decode cX10_cellOf 13 = .ok (.iconst 0, 1) := by decide +kernel
theorem dX10_cellOf_14 : decode cX10_cellOf 14 = .ok (.bipush 6, 2) := by decide +kernel
theorem dX10_cellOf_16 : decode cX10_cellOf 16 = .ok (.invokestatic 93, 3) := by decide +kernel
theorem dX10_cellOf_19 : decode cX10_cellOf 19 = .ok (.ifCond .eq 7, 3) := by decide +kernel
theorem dX10_cellOf_22 : decode cX10_cellOf 22 = .ok (.iconst 0, 1) := by decide +kernel
theorem dX10_cellOf_23 : decode cX10_cellOf 23 = .ok (.goto 4, 3) := by decide +kernel
theorem dX10_cellOf_26 : decode cX10_cellOf 26 = .ok (.iconst 2, 1) := by decide +kernel
theorem dX10_cellOf_27 : decode cX10_cellOf 27 = .ok (.invokevirtual 107, 3) := by decide +kernel
theorem dX10_cellOf_30 : decode cX10_cellOf 30 = .ok (.ifCond .ne 5, 3) := by decide +kernel
theorem dX10_cellOf_33 : decode cX10_cellOf 33 = .ok (.iconst 0, 1) := by decide +kernel
theorem dX10_cellOf_34 : decode cX10_cellOf 34 = .ok (.ireturn, 1) := by decide +kernel
theorem dX10_cellOf_35 : decode cX10_cellOf 35 = .ok (.iload_n 2, 1) := by decide +kernel
theorem dX10_cellOf_36 : decode cX10_cellOf 36 = .ok (.tableswitch 81 0 5 #[40, 47, 54, 61, 68, 74], 40) := by decide +kernel
theorem dX10_cellOf_76 : decode cX10_cellOf 76 = .ok (.aload_n 0, 1) := by decide +kernel
theorem dX10_cellOf_77 : decode cX10_cellOf 77 = .ok (.getfield 34, 3) := by decide +kernel
theorem dX10_cellOf_80 : decode cX10_cellOf 80 = .ok (.iload_n 1, 1) := by decide +kernel
theorem dX10_cellOf_81 : decode cX10_cellOf 81 = .ok (.iaload, 1) := by decide +kernel
theorem dX10_cellOf_82 : decode cX10_cellOf 82 = .ok (.ireturn, 1) := by decide +kernel
theorem dX10_cellOf_83 : decode cX10_cellOf 83 = .ok (.aload_n 0, 1) := by decide +kernel
theorem dX10_cellOf_84 : decode cX10_cellOf 84 = .ok (.getfield 7, 3) := by decide +kernel
theorem dX10_cellOf_87 : decode cX10_cellOf 87 = .ok (.iload_n 1, 1) := by decide +kernel
theorem dX10_cellOf_88 : decode cX10_cellOf 88 = .ok (.iaload, 1) := by decide +kernel
theorem dX10_cellOf_89 : decode cX10_cellOf 89 = .ok (.ireturn, 1) := by decide +kernel
theorem dX10_cellOf_90 : decode cX10_cellOf 90 = .ok (.aload_n 0, 1) := by decide +kernel
theorem dX10_cellOf_91 : decode cX10_cellOf 91 = .ok (.getfield 13, 3) := by decide +kernel
theorem dX10_cellOf_94 : decode cX10_cellOf 94 = .ok (.iload_n 1, 1) := by decide +kernel
theorem dX10_cellOf_95 : decode cX10_cellOf 95 = .ok (.iaload, 1) := by decide +kernel
theorem dX10_cellOf_96 : decode cX10_cellOf 96 = .ok (.ireturn, 1) := by decide +kernel
theorem dX10_cellOf_97 : decode cX10_cellOf 97 = .ok (.aload_n 0, 1) := by decide +kernel
theorem dX10_cellOf_98 : decode cX10_cellOf 98 = .ok (.getfield 16, 3) := by decide +kernel
theorem dX10_cellOf_101 : decode cX10_cellOf 101 = .ok (.iload_n 1, 1) := by decide +kernel
theorem dX10_cellOf_102 : decode cX10_cellOf 102 = .ok (.iaload, 1) := by decide +kernel
theorem dX10_cellOf_103 : decode cX10_cellOf 103 = .ok (.ireturn, 1) := by decide +kernel
theorem dX10_cellOf_104 : decode cX10_cellOf 104 = .ok (.aload_n 0, 1) := by decide +kernel
theorem dX10_cellOf_105 : decode cX10_cellOf 105 = .ok (.iload_n 1, 1) := by decide +kernel
theorem dX10_cellOf_106 : decode cX10_cellOf 106 = .ok (.invokevirtual 113, 3) := by decide +kernel
theorem dX10_cellOf_109 : decode cX10_cellOf 109 = .ok (.ireturn, 1) := by decide +kernel
theorem dX10_cellOf_110 : decode cX10_cellOf 110 = .ok (.aload_n 0, 1) := by decide +kernel
theorem dX10_cellOf_111 : decode cX10_cellOf 111 = .ok (.getfield 22, 3) := by decide +kernel
theorem dX10_cellOf_114 : decode cX10_cellOf 114 = .ok (.iload_n 1, 1) := by decide +kernel
theorem dX10_cellOf_115 : decode cX10_cellOf 115 = .ok (.iaload, 1) := by decide +kernel
theorem dX10_cellOf_116 : decode cX10_cellOf 116 = .ok (.ireturn, 1) := by decide +kernel
theorem dX10_cellOf_117 : decode cX10_cellOf 117 = .ok (.aload_n 0, 1) := by decide +kernel
theorem dX10_cellOf_118 : decode cX10_cellOf 118 = .ok (.getfield 28, 3) := by decide +kernel
theorem dX10_cellOf_121 : decode cX10_cellOf 121 = .ok (.iload_n 1, 1) := by decide +kernel
theorem dX10_cellOf_122 : decode cX10_cellOf 122 = .ok (.iaload, 1) := by decide +kernel
theorem dX10_cellOf_123 : decode cX10_cellOf 123 = .ok (.iconst (-1), 1) := by decide +kernel
theorem dX10_cellOf_124 : decode cX10_cellOf 124 = .ok (.if_icmp .ne 7, 3) := by decide +kernel
theorem dX10_cellOf_127 : decode cX10_cellOf 127 = .ok (.iconst (-1), 1) := by decide +kernel
theorem dX10_cellOf_128 : decode cX10_cellOf 128 = .ok (.goto 14, 3) := by decide +kernel
theorem dX10_cellOf_131 : decode cX10_cellOf 131 = .ok (.aload_n 0, 1) := by decide +kernel
theorem dX10_cellOf_132 : decode cX10_cellOf 132 = .ok (.getfield 46, 3) := by decide +kernel
theorem dX10_cellOf_135 : decode cX10_cellOf 135 = .ok (.aload_n 0, 1) := by decide +kernel
theorem dX10_cellOf_136 : decode cX10_cellOf 136 = .ok (.getfield 28, 3) := by decide +kernel
theorem dX10_cellOf_139 : decode cX10_cellOf 139 = .ok (.iload_n 1, 1) := by decide +kernel
theorem dX10_cellOf_140 : decode cX10_cellOf 140 = .ok (.iaload, 1) := by decide +kernel
theorem dX10_cellOf_141 : decode cX10_cellOf 141 = .ok (.iaload, 1) := by decide +kernel
theorem dX10_cellOf_142 : decode cX10_cellOf 142 = .ok (.ireturn, 1) := by decide +kernel
theorem dX10_flow_0 : decode cX10_flow 0 = .ok (.aload_n 0, 1) := by decide +kernel
theorem dX10_flow_1 : decode cX10_flow 1 = .ok (.iload_n 1, 1) := by decide +kernel
theorem dX10_flow_2 : decode cX10_flow 2 = .ok (.iconst 0, 1) := by decide +kernel
theorem dX10_flow_3 : decode cX10_flow 3 = .ok (.iconst 3, 1) := by decide +kernel
theorem dX10_flow_4 : decode cX10_flow 4 = .ok (.invokestatic 93, 3) := by decide +kernel
theorem dX10_flow_7 : decode cX10_flow 7 = .ok (.ifCond .eq 7, 3) := by decide +kernel
theorem dX10_flow_10 : decode cX10_flow 10 = .ok (.iconst 0, 1) := by decide +kernel
theorem dX10_flow_11 : decode cX10_flow 11 = .ok (.goto 4, 3) := by decide +kernel
theorem dX10_flow_14 : decode cX10_flow 14 = .ok (.iconst 1, 1) := by decide +kernel
theorem dX10_flow_15 : decode cX10_flow 15 = .ok (.invokevirtual 107, 3) := by decide +kernel
theorem dX10_flow_18 : decode cX10_flow 18 = .ok (.ifCond .ne 5, 3) := by decide +kernel
theorem dX10_flow_21 : decode cX10_flow 21 = .ok (.iconst 0, 1) := by decide +kernel
theorem dX10_flow_22 : decode cX10_flow 22 = .ok (.ireturn, 1) := by decide +kernel
theorem dX10_flow_23 : decode cX10_flow 23 = .ok (.iload_n 1, 1) := by decide +kernel
theorem dX10_flow_24 : decode cX10_flow 24 = .ok (.ifCond .ne 13, 3) := by decide +kernel
theorem dX10_flow_27 : decode cX10_flow 27 = .ok (.aload_n 0, 1) := by decide +kernel
theorem dX10_flow_28 : decode cX10_flow 28 = .ok (.getfield 34, 3) := by decide +kernel
theorem dX10_flow_31 : decode cX10_flow 31 = .ok (.bipush 10, 2) := by decide +kernel
theorem dX10_flow_33 : decode cX10_flow 33 = .ok (.iaload, 1) := by decide +kernel
theorem dX10_flow_34 : decode cX10_flow 34 = .ok (.goto 39, 3) := by decide +kernel
theorem dX10_flow_37 : decode cX10_flow 37 = .ok (.iload_n 1, 1) := by decide +kernel
theorem dX10_flow_38 : decode cX10_flow 38 = .ok (.iconst 1, 1) := by decide +kernel
theorem dX10_flow_39 : decode cX10_flow 39 = .ok (.if_icmp .ne 13, 3) := by decide +kernel
theorem dX10_flow_42 : decode cX10_flow 42 = .ok (.aload_n 0, 1) := by decide +kernel
theorem dX10_flow_43 : decode cX10_flow 43 = .ok (.bipush 10, 2) := by decide +kernel
theorem dX10_flow_45 : decode cX10_flow 45 = .ok (.invokevirtual 193, 3) := by decide +kernel
theorem dX10_flow_48 : decode cX10_flow 48 = .ok (.l2i, 1) := by decide +kernel
theorem dX10_flow_49 : decode cX10_flow 49 = .ok (.goto 24, 3) := by decide +kernel
theorem dX10_flow_52 : decode cX10_flow 52 = .ok (.iload_n 1, 1) := by decide +kernel
theorem dX10_flow_53 : decode cX10_flow 53 = .ok (.iconst 2, 1) := by decide +kernel
theorem dX10_flow_54 : decode cX10_flow 54 = .ok (.if_icmp .ne 12, 3) := by decide +kernel
theorem dX10_flow_57 : decode cX10_flow 57 = .ok (.aload_n 0, 1) := by decide +kernel
theorem dX10_flow_58 : decode cX10_flow 58 = .ok (.bipush 10, 2) := by decide +kernel
theorem dX10_flow_60 : decode cX10_flow 60 = .ok (.invokevirtual 190, 3) := by decide +kernel
theorem dX10_flow_63 : decode cX10_flow 63 = .ok (.goto 10, 3) := by decide +kernel
theorem dX10_flow_66 : decode cX10_flow 66 = .ok (.aload_n 0, 1) := by decide +kernel
theorem dX10_flow_67 : decode cX10_flow 67 = .ok (.bipush 10, 2) := by decide +kernel
theorem dX10_flow_69 : decode cX10_flow 69 = .ok (.iconst 0, 1) := by decide +kernel
theorem dX10_flow_70 : decode cX10_flow 70 = .ok (.invokevirtual 186, 3) := by decide +kernel
theorem dX10_flow_73 : decode cX10_flow 73 = .ok (.ireturn, 1) := by decide +kernel
theorem dX10_wellOf_0 : decode cX10_wellOf 0 = .ok (.aload_n 0, 1) := by decide +kernel
theorem dX10_wellOf_1 : decode cX10_wellOf 1 = .ok (.aload_n 0, 1) := by decide +kernel
theorem dX10_wellOf_2 : decode cX10_wellOf 2 = .ok (.iload_n 1, 1) := by decide +kernel
theorem dX10_wellOf_3 : decode cX10_wellOf 3 = .ok (.invokevirtual 165, 3) := by decide +kernel
theorem dX10_wellOf_6 : decode cX10_wellOf 6 = .ok (.ifCond .ne 7, 3) := by decide +kernel
theorem dX10_wellOf_9 : decode cX10_wellOf 9 = .ok (.iconst 1, 1) := by decide +kernel
theorem dX10_wellOf_10 : decode cX10_wellOf 10 = .ok (.goto 17, 3) := by decide +kernel
theorem dX10_wellOf_13 : decode cX10_wellOf 13 = .ok (.iload_n 2, 1) := by decide +kernel
theorem dX10_wellOf_14 : decode cX10_wellOf 14 = .ok (.iconst 0, 1) := by decide +kernel
theorem dX10_wellOf_15 : decode cX10_wellOf 15 = .ok (.iconst 3, 1) := by decide +kernel
theorem dX10_wellOf_16 : decode cX10_wellOf 16 = .ok (.invokestatic 93, 3) := by decide +kernel
theorem dX10_wellOf_19 : decode cX10_wellOf 19 = .ok (.ifCond .eq 7, 3) := by decide +kernel
theorem dX10_wellOf_22 : decode cX10_wellOf 22 = .ok (.iconst 0, 1) := by decide +kernel
theorem dX10_wellOf_23 : decode cX10_wellOf 23 = .ok (.goto 4, 3) := by decide +kernel
theorem dX10_wellOf_26 : decode cX10_wellOf 26 = .ok (.iconst 2, 1) := by decide +kernel
theorem dX10_wellOf_27 : decode cX10_wellOf 27 = .ok (.invokevirtual 107, 3) := by decide +kernel
theorem dX10_wellOf_30 : decode cX10_wellOf 30 = .ok (.ifCond .ne 5, 3) := by decide +kernel
theorem dX10_wellOf_33 : decode cX10_wellOf 33 = .ok (.iconst 0, 1) := by decide +kernel
theorem dX10_wellOf_34 : decode cX10_wellOf 34 = .ok (.ireturn, 1) := by decide +kernel
theorem dX10_wellOf_35 : decode cX10_wellOf 35 = .ok (.iload_n 2, 1) := by decide +kernel
theorem dX10_wellOf_36 : decode cX10_wellOf 36 = .ok (.ifCond .ne 12, 3) := by decide +kernel
theorem dX10_wellOf_39 : decode cX10_wellOf 39 = .ok (.aload_n 0, 1) := by decide +kernel
theorem dX10_wellOf_40 : decode cX10_wellOf 40 = .ok (.getfield 58, 3) := by decide +kernel
theorem dX10_wellOf_43 : decode cX10_wellOf 43 = .ok (.iload_n 1, 1) := by decide +kernel
theorem dX10_wellOf_44 : decode cX10_wellOf 44 = .ok (.iaload, 1) := by decide +kernel
theorem dX10_wellOf_45 : decode cX10_wellOf 45 = .ok (.goto 36, 3) := by decide +kernel
theorem dX10_wellOf_48 : decode cX10_wellOf 48 = .ok (.iload_n 2, 1) := by decide +kernel
theorem dX10_wellOf_49 : decode cX10_wellOf 49 = .ok (.iconst 1, 1) := by decide +kernel
theorem dX10_wellOf_50 : decode cX10_wellOf 50 = .ok (.if_icmp .ne 12, 3) := by decide +kernel
theorem dX10_wellOf_53 : decode cX10_wellOf 53 = .ok (.aload_n 0, 1) := by decide +kernel
theorem dX10_wellOf_54 : decode cX10_wellOf 54 = .ok (.getfield 61, 3) := by decide +kernel
theorem dX10_wellOf_57 : decode cX10_wellOf 57 = .ok (.iload_n 1, 1) := by decide +kernel
theorem dX10_wellOf_58 : decode cX10_wellOf 58 = .ok (.iaload, 1) := by decide +kernel
theorem dX10_wellOf_59 : decode cX10_wellOf 59 = .ok (.goto 22, 3) := by decide +kernel
theorem dX10_wellOf_62 : decode cX10_wellOf 62 = .ok (.iload_n 2, 1) := by decide +kernel
theorem dX10_wellOf_63 : decode cX10_wellOf 63 = .ok (.iconst 2, 1) := by decide +kernel
theorem dX10_wellOf_64 : decode cX10_wellOf 64 = .ok (.if_icmp .ne 12, 3) := by decide +kernel
theorem dX10_wellOf_67 : decode cX10_wellOf 67 = .ok (.aload_n 0, 1) := by decide +kernel
theorem dX10_wellOf_68 : decode cX10_wellOf 68 = .ok (.getfield 64, 3) := by decide +kernel
theorem dX10_wellOf_71 : decode cX10_wellOf 71 = .ok (.iload_n 1, 1) := by decide +kernel
theorem dX10_wellOf_72 : decode cX10_wellOf 72 = .ok (.iaload, 1) := by decide +kernel
theorem dX10_wellOf_73 : decode cX10_wellOf 73 = .ok (.goto 8, 3) := by decide +kernel
theorem dX10_wellOf_76 : decode cX10_wellOf 76 = .ok (.aload_n 0, 1) := by decide +kernel
theorem dX10_wellOf_77 : decode cX10_wellOf 77 = .ok (.iload_n 1, 1) := by decide +kernel
theorem dX10_wellOf_78 : decode cX10_wellOf 78 = .ok (.invokevirtual 168, 3) := by decide +kernel
theorem dX10_wellOf_81 : decode cX10_wellOf 81 = .ok (.ireturn, 1) := by decide +kernel
theorem dX10_lotOf_0 : decode cX10_lotOf 0 = .ok (.aload_n 0, 1) := by decide +kernel
theorem dX10_lotOf_1 : decode cX10_lotOf 1 = .ok (.aload_n 0, 1) := by decide +kernel
theorem dX10_lotOf_2 : decode cX10_lotOf 2 = .ok (.iload_n 1, 1) := by decide +kernel
theorem dX10_lotOf_3 : decode cX10_lotOf 3 = .ok (.invokevirtual 180, 3) := by decide +kernel
theorem dX10_lotOf_6 : decode cX10_lotOf 6 = .ok (.ifCond .ne 7, 3) := by decide +kernel
theorem dX10_lotOf_9 : decode cX10_lotOf 9 = .ok (.iconst 1, 1) := by decide +kernel
theorem dX10_lotOf_10 : decode cX10_lotOf 10 = .ok (.goto 18, 3) := by decide +kernel
theorem dX10_lotOf_13 : decode cX10_lotOf 13 = .ok (.iload_n 2, 1) := by decide +kernel
theorem dX10_lotOf_14 : decode cX10_lotOf 14 = .ok (.iconst 0, 1) := by decide +kernel
theorem dX10_lotOf_15 : decode cX10_lotOf 15 = .ok (.bipush 10, 2) := by decide +kernel
theorem dX10_lotOf_17 : decode cX10_lotOf 17 = .ok (.invokestatic 93, 3) := by decide +kernel
theorem dX10_lotOf_20 : decode cX10_lotOf 20 = .ok (.ifCond .eq 7, 3) := by decide +kernel
theorem dX10_lotOf_23 : decode cX10_lotOf 23 = .ok (.iconst 0, 1) := by decide +kernel
theorem dX10_lotOf_24 : decode cX10_lotOf 24 = .ok (.goto 4, 3) := by decide +kernel
theorem dX10_lotOf_27 : decode cX10_lotOf 27 = .ok (.iconst 2, 1) := by decide +kernel
theorem dX10_lotOf_28 : decode cX10_lotOf 28 = .ok (.invokevirtual 107, 3) := by decide +kernel
theorem dX10_lotOf_31 : decode cX10_lotOf 31 = .ok (.ifCond .ne 5, 3) := by decide +kernel
theorem dX10_lotOf_34 : decode cX10_lotOf 34 = .ok (.iconst 0, 1) := by decide +kernel
theorem dX10_lotOf_35 : decode cX10_lotOf 35 = .ok (.ireturn, 1) := by decide +kernel
theorem dX10_lotOf_36 : decode cX10_lotOf 36 = .ok (.iload_n 1, 1) := by decide +kernel
theorem dX10_lotOf_37 : decode cX10_lotOf 37 = .ok (.invokestatic 171, 3) := by decide +kernel
theorem dX10_lotOf_40 : decode cX10_lotOf 40 = .ok (.istore_n 3, 1) := by decide +kernel
theorem dX10_lotOf_41 : decode cX10_lotOf 41 = .ok (.iload_n 2, 1) := by decide +kernel
theorem dX10_lotOf_42 : decode cX10_lotOf 42 = .ok (.tableswitch 159 0 9 #[54, 61, 68, 75, 82, 88, 102, 116, 123, 130], 54) := by decide +kernel
theorem dX10_lotOf_96 : decode cX10_lotOf 96 = .ok (.aload_n 0, 1) := by decide +kernel
theorem dX10_lotOf_97 : decode cX10_lotOf 97 = .ok (.getfield 71, 3) := by decide +kernel
theorem dX10_lotOf_100 : decode cX10_lotOf 100 = .ok (.iload_n 1, 1) := by decide +kernel
theorem dX10_lotOf_101 : decode cX10_lotOf 101 = .ok (.iaload, 1) := by decide +kernel
theorem dX10_lotOf_102 : decode cX10_lotOf 102 = .ok (.ireturn, 1) := by decide +kernel
theorem dX10_lotOf_103 : decode cX10_lotOf 103 = .ok (.aload_n 0, 1) := by decide +kernel
theorem dX10_lotOf_104 : decode cX10_lotOf 104 = .ok (.getfield 34, 3) := by decide +kernel
theorem dX10_lotOf_107 : decode cX10_lotOf 107 = .ok (.iload_n 3, 1) := by decide +kernel
theorem dX10_lotOf_108 : decode cX10_lotOf 108 = .ok (.iaload, 1) := by decide +kernel
theorem dX10_lotOf_109 : decode cX10_lotOf 109 = .ok (.ireturn, 1) := by decide +kernel
theorem dX10_lotOf_110 : decode cX10_lotOf 110 = .ok (.aload_n 0, 1) := by decide +kernel
theorem dX10_lotOf_111 : decode cX10_lotOf 111 = .ok (.iload_n 3, 1) := by decide +kernel
theorem dX10_lotOf_112 : decode cX10_lotOf 112 = .ok (.invokevirtual 193, 3) := by decide +kernel
theorem dX10_lotOf_115 : decode cX10_lotOf 115 = .ok (.l2i, 1) := by decide +kernel
theorem dX10_lotOf_116 : decode cX10_lotOf 116 = .ok (.ireturn, 1) := by decide +kernel
theorem dX10_lotOf_117 : decode cX10_lotOf 117 = .ok (.aload_n 0, 1) := by decide +kernel
theorem dX10_lotOf_118 : decode cX10_lotOf 118 = .ok (.getfield 74, 3) := by decide +kernel
theorem dX10_lotOf_121 : decode cX10_lotOf 121 = .ok (.iload_n 1, 1) := by decide +kernel
theorem dX10_lotOf_122 : decode cX10_lotOf 122 = .ok (.iaload, 1) := by decide +kernel
theorem dX10_lotOf_123 : decode cX10_lotOf 123 = .ok (.ireturn, 1) := by decide +kernel
theorem dX10_lotOf_124 : decode cX10_lotOf 124 = .ok (.aload_n 0, 1) := by decide +kernel
theorem dX10_lotOf_125 : decode cX10_lotOf 125 = .ok (.iload_n 3, 1) := by decide +kernel
theorem dX10_lotOf_126 : decode cX10_lotOf 126 = .ok (.invokevirtual 190, 3) := by decide +kernel
theorem dX10_lotOf_129 : decode cX10_lotOf 129 = .ok (.ireturn, 1) := by decide +kernel
theorem dX10_lotOf_130 : decode cX10_lotOf 130 = .ok (.aload_n 0, 1) := by decide +kernel
theorem dX10_lotOf_131 : decode cX10_lotOf 131 = .ok (.getfield 74, 3) := by decide +kernel
theorem dX10_lotOf_134 : decode cX10_lotOf 134 = .ok (.iload_n 1, 1) := by decide +kernel
theorem dX10_lotOf_135 : decode cX10_lotOf 135 = .ok (.iaload, 1) := by decide +kernel
theorem dX10_lotOf_136 : decode cX10_lotOf 136 = .ok (.aload_n 0, 1) := by decide +kernel
theorem dX10_lotOf_137 : decode cX10_lotOf 137 = .ok (.iload_n 3, 1) := by decide +kernel
theorem dX10_lotOf_138 : decode cX10_lotOf 138 = .ok (.iconst 1, 1) := by decide +kernel
theorem dX10_lotOf_139 : decode cX10_lotOf 139 = .ok (.invokevirtual 186, 3) := by decide +kernel
theorem dX10_lotOf_142 : decode cX10_lotOf 142 = .ok (.isub, 1) := by decide +kernel
theorem dX10_lotOf_143 : decode cX10_lotOf 143 = .ok (.ireturn, 1) := by decide +kernel
theorem dX10_lotOf_144 : decode cX10_lotOf 144 = .ok (.aload_n 0, 1) := by decide +kernel
theorem dX10_lotOf_145 : decode cX10_lotOf 145 = .ok (.getfield 74, 3) := by decide +kernel
theorem dX10_lotOf_148 : decode cX10_lotOf 148 = .ok (.iload_n 1, 1) := by decide +kernel
theorem dX10_lotOf_149 : decode cX10_lotOf 149 = .ok (.iaload, 1) := by decide +kernel
theorem dX10_lotOf_150 : decode cX10_lotOf 150 = .ok (.aload_n 0, 1) := by decide +kernel
theorem dX10_lotOf_151 : decode cX10_lotOf 151 = .ok (.iload_n 3, 1) := by decide +kernel
theorem dX10_lotOf_152 : decode cX10_lotOf 152 = .ok (.iconst 0, 1) := by decide +kernel
theorem dX10_lotOf_153 : decode cX10_lotOf 153 = .ok (.invokevirtual 186, 3) := by decide +kernel
theorem dX10_lotOf_156 : decode cX10_lotOf 156 = .ok (.isub, 1) := by decide +kernel
theorem dX10_lotOf_157 : decode cX10_lotOf 157 = .ok (.ireturn, 1) := by decide +kernel
theorem dX10_lotOf_158 : decode cX10_lotOf 158 = .ok (.aload_n 0, 1) := by decide +kernel
theorem dX10_lotOf_159 : decode cX10_lotOf 159 = .ok (.getfield 77, 3) := by decide +kernel
theorem dX10_lotOf_162 : decode cX10_lotOf 162 = .ok (.iload_n 1, 1) := by decide +kernel
theorem dX10_lotOf_163 : decode cX10_lotOf 163 = .ok (.iaload, 1) := by decide +kernel
theorem dX10_lotOf_164 : decode cX10_lotOf 164 = .ok (.ireturn, 1) := by decide +kernel
theorem dX10_lotOf_165 : decode cX10_lotOf 165 = .ok (.aload_n 0, 1) := by decide +kernel
theorem dX10_lotOf_166 : decode cX10_lotOf 166 = .ok (.getfield 80, 3) := by decide +kernel
theorem dX10_lotOf_169 : decode cX10_lotOf 169 = .ok (.iload_n 1, 1) := by decide +kernel
theorem dX10_lotOf_170 : decode cX10_lotOf 170 = .ok (.iaload, 1) := by decide +kernel
theorem dX10_lotOf_171 : decode cX10_lotOf 171 = .ok (.ireturn, 1) := by decide +kernel
theorem dX10_lotOf_172 : decode cX10_lotOf 172 = .ok (.aload_n 0, 1) := by decide +kernel
theorem dX10_lotOf_173 : decode cX10_lotOf 173 = .ok (.getfield 80, 3) := by decide +kernel
theorem dX10_lotOf_176 : decode cX10_lotOf 176 = .ok (.iload_n 1, 1) := by decide +kernel
theorem dX10_lotOf_177 : decode cX10_lotOf 177 = .ok (.iaload, 1) := by decide +kernel
theorem dX10_lotOf_178 : decode cX10_lotOf 178 = .ok (.iconst (-1), 1) := by decide +kernel
theorem dX10_lotOf_179 : decode cX10_lotOf 179 = .ok (.if_icmp .ne 7, 3) := by decide +kernel
theorem dX10_lotOf_182 : decode cX10_lotOf 182 = .ok (.iconst (-1), 1) := by decide +kernel
theorem dX10_lotOf_183 : decode cX10_lotOf 183 = .ok (.goto 17, 3) := by decide +kernel
theorem dX10_lotOf_186 : decode cX10_lotOf 186 = .ok (.aload_n 0, 1) := by decide +kernel
theorem dX10_lotOf_187 : decode cX10_lotOf 187 = .ok (.getfield 83, 3) := by decide +kernel
theorem dX10_lotOf_190 : decode cX10_lotOf 190 = .ok (.iload_n 1, 1) := by decide +kernel
theorem dX10_lotOf_191 : decode cX10_lotOf 191 = .ok (.baload, 1) := by decide +kernel
theorem dX10_lotOf_192 : decode cX10_lotOf 192 = .ok (.ifCond .eq 7, 3) := by decide +kernel
theorem dX10_lotOf_195 : decode cX10_lotOf 195 = .ok (.iconst 1, 1) := by decide +kernel
theorem dX10_lotOf_196 : decode cX10_lotOf 196 = .ok (.goto 4, 3) := by decide +kernel
theorem dX10_lotOf_199 : decode cX10_lotOf 199 = .ok (.iconst 0, 1) := by decide +kernel
theorem dX10_lotOf_200 : decode cX10_lotOf 200 = .ok (.ireturn, 1) := by decide +kernel
theorem dX10_lotOf_201 : decode cX10_lotOf 201 = .ok (.aload_n 0, 1) := by decide +kernel
theorem dX10_lotOf_202 : decode cX10_lotOf 202 = .ok (.getfield 87, 3) := by decide +kernel
theorem dX10_lotOf_205 : decode cX10_lotOf 205 = .ok (.iload_n 1, 1) := by decide +kernel
theorem dX10_lotOf_206 : decode cX10_lotOf 206 = .ok (.baload, 1) := by decide +kernel
theorem dX10_lotOf_207 : decode cX10_lotOf 207 = .ok (.ifCond .eq 7, 3) := by decide +kernel
theorem dX10_lotOf_210 : decode cX10_lotOf 210 = .ok (.iconst 1, 1) := by decide +kernel
theorem dX10_lotOf_211 : decode cX10_lotOf 211 = .ok (.goto 4, 3) := by decide +kernel
theorem dX10_lotOf_214 : decode cX10_lotOf 214 = .ok (.iconst 0, 1) := by decide +kernel
theorem dX10_lotOf_215 : decode cX10_lotOf 215 = .ok (.ireturn, 1) := by decide +kernel
theorem dX10_meanAge_0 : decode cX10_meanAge 0 = .ok (.lconst 0, 1) := by decide +kernel
theorem dX10_meanAge_1 : decode cX10_meanAge 1 = .ok (.lstore_n 2, 1) := by decide +kernel
theorem dX10_meanAge_2 : decode cX10_meanAge 2 = .ok (.aload_n 0, 1) := by decide +kernel
theorem dX10_meanAge_3 : decode cX10_meanAge 3 = .ok (.getfield 28, 3) := by decide +kernel
theorem dX10_meanAge_6 : decode cX10_meanAge 6 = .ok (.iload_n 1, 1) := by decide +kernel
theorem dX10_meanAge_7 : decode cX10_meanAge 7 = .ok (.invokestatic 171, 3) := by decide +kernel
theorem dX10_meanAge_10 : decode cX10_meanAge 10 = .ok (.iaload, 1) := by decide +kernel
theorem dX10_meanAge_11 : decode cX10_meanAge 11 = .ok (.istore 4, 2) := by decide +kernel
theorem dX10_meanAge_13 : decode cX10_meanAge 13 = .ok (.iload 4, 2) := by decide +kernel
theorem dX10_meanAge_15 : decode cX10_meanAge 15 = .ok (.iconst (-1), 1) := by decide +kernel
theorem dX10_meanAge_16 : decode cX10_meanAge 16 = .ok (.if_icmp .eq 42, 3) := by decide +kernel
theorem dX10_meanAge_19 : decode cX10_meanAge 19 = .ok (.lload_n 2, 1) := by decide +kernel
theorem dX10_meanAge_20 : decode cX10_meanAge 20 = .ok (.aload_n 0, 1) := by decide +kernel
theorem dX10_meanAge_21 : decode cX10_meanAge 21 = .ok (.getfield 40, 3) := by decide +kernel
theorem dX10_meanAge_24 : decode cX10_meanAge 24 = .ok (.iload 4, 2) := by decide +kernel
theorem dX10_meanAge_26 : decode cX10_meanAge 26 = .ok (.iaload, 1) := by decide +kernel
theorem dX10_meanAge_27 : decode cX10_meanAge 27 = .ok (.i2l, 1) := by decide +kernel
theorem dX10_meanAge_28 : decode cX10_meanAge 28 = .ok (.aload_n 0, 1) := by decide +kernel
theorem dX10_meanAge_29 : decode cX10_meanAge 29 = .ok (.getfield 74, 3) := by decide +kernel
theorem dX10_meanAge_32 : decode cX10_meanAge 32 = .ok (.iload_n 1, 1) := by decide +kernel
theorem dX10_meanAge_33 : decode cX10_meanAge 33 = .ok (.iaload, 1) := by decide +kernel
theorem dX10_meanAge_34 : decode cX10_meanAge 34 = .ok (.aload_n 0, 1) := by decide +kernel
theorem dX10_meanAge_35 : decode cX10_meanAge 35 = .ok (.getfield 46, 3) := by decide +kernel
theorem dX10_meanAge_38 : decode cX10_meanAge 38 = .ok (.iload 4, 2) := by decide +kernel
theorem dX10_meanAge_40 : decode cX10_meanAge 40 = .ok (.iaload, 1) := by decide +kernel
theorem dX10_meanAge_41 : decode cX10_meanAge 41 = .ok (.isub, 1) := by decide +kernel
theorem dX10_meanAge_42 : decode cX10_meanAge 42 = .ok (.i2l, 1) := by decide +kernel
theorem dX10_meanAge_43 : decode cX10_meanAge 43 = .ok (.lmul, 1) := by decide +kernel
theorem dX10_meanAge_44 : decode cX10_meanAge 44 = .ok (.ladd, 1) := by decide +kernel
theorem dX10_meanAge_45 : decode cX10_meanAge 45 = .ok (.lstore_n 2, 1) := by decide +kernel
theorem dX10_meanAge_46 : decode cX10_meanAge 46 = .ok (.aload_n 0, 1) := by decide +kernel
theorem dX10_meanAge_47 : decode cX10_meanAge 47 = .ok (.getfield 37, 3) := by decide +kernel
theorem dX10_meanAge_50 : decode cX10_meanAge 50 = .ok (.iload 4, 2) := by decide +kernel
theorem dX10_meanAge_52 : decode cX10_meanAge 52 = .ok (.iaload, 1) := by decide +kernel
theorem dX10_meanAge_53 : decode cX10_meanAge 53 = .ok (.istore 4, 2) := by decide +kernel
theorem dX10_meanAge_55 : decode cX10_meanAge 55 = .ok (.goto (-42), 3) := by decide +kernel
theorem dX10_meanAge_58 : decode cX10_meanAge 58 = .ok (.lload_n 2, 1) := by decide +kernel
theorem dX10_meanAge_59 : decode cX10_meanAge 59 = .ok (.l2f, 1) := by decide +kernel
theorem dX10_meanAge_60 : decode cX10_meanAge 60 = .ok (.aload_n 0, 1) := by decide +kernel
theorem dX10_meanAge_61 : decode cX10_meanAge 61 = .ok (.getfield 34, 3) := by decide +kernel
theorem dX10_meanAge_64 : decode cX10_meanAge 64 = .ok (.iload_n 1, 1) := by decide +kernel
theorem dX10_meanAge_65 : decode cX10_meanAge 65 = .ok (.invokestatic 171, 3) := by decide +kernel
theorem dX10_meanAge_68 : decode cX10_meanAge 68 = .ok (.iaload, 1) := by decide +kernel
theorem dX10_meanAge_69 : decode cX10_meanAge 69 = .ok (.i2f, 1) := by decide +kernel
theorem dX10_meanAge_70 : decode cX10_meanAge 70 = .ok (.fdiv, 1) := by decide +kernel
theorem dX10_meanAge_71 : decode cX10_meanAge 71 = .ok (.freturn, 1) := by decide +kernel
theorem dX10_age_0 : decode cX10_age 0 = .ok (.aload_n 0, 1) := by decide +kernel
theorem dX10_age_1 : decode cX10_age 1 = .ok (.aload_n 0, 1) := by decide +kernel
theorem dX10_age_2 : decode cX10_age 2 = .ok (.iload_n 1, 1) := by decide +kernel
theorem dX10_age_3 : decode cX10_age 3 = .ok (.invokevirtual 180, 3) := by decide +kernel
theorem dX10_age_6 : decode cX10_age 6 = .ok (.ifCond .eq 7, 3) := by decide +kernel
theorem dX10_age_9 : decode cX10_age 9 = .ok (.iconst 0, 1) := by decide +kernel
theorem dX10_age_10 : decode cX10_age 10 = .ok (.goto 4, 3) := by decide +kernel
theorem dX10_age_13 : decode cX10_age 13 = .ok (.iconst 1, 1) := by decide +kernel
theorem dX10_age_14 : decode cX10_age 14 = .ok (.invokevirtual 107, 3) := by decide +kernel
theorem dX10_age_17 : decode cX10_age 17 = .ok (.ifCond .eq 11, 3) := by decide +kernel
theorem dX10_age_20 : decode cX10_age 20 = .ok (.aload_n 0, 1) := by decide +kernel
theorem dX10_age_21 : decode cX10_age 21 = .ok (.iload_n 1, 1) := by decide +kernel
theorem dX10_age_22 : decode cX10_age 22 = .ok (.invokevirtual 205, 3) := by decide +kernel
theorem dX10_age_25 : decode cX10_age 25 = .ok (.goto 4, 3) := by decide +kernel
theorem dX10_age_28 : decode cX10_age 28 = .ok (.fconst 0, 1) := by decide +kernel
theorem dX10_age_29 : decode cX10_age 29 = .ok (.freturn, 1) := by decide +kernel
theorem dX10_bestOf_0 : decode cX10_bestOf 0 = .ok (.aload_n 0, 1) := by decide +kernel
theorem dX10_bestOf_1 : decode cX10_bestOf 1 = .ok (.iload_n 1, 1) := by decide +kernel
theorem dX10_bestOf_2 : decode cX10_bestOf 2 = .ok (.iconst 0, 1) := by decide +kernel
theorem dX10_bestOf_3 : decode cX10_bestOf 3 = .ok (.invokevirtual 201, 3) := by decide +kernel
theorem dX10_bestOf_6 : decode cX10_bestOf 6 = .ok (.ifCond .eq 7, 3) := by decide +kernel
theorem dX10_bestOf_9 : decode cX10_bestOf 9 = .ok (.iconst 0, 1) := by decide +kernel
theorem dX10_bestOf_10 : decode cX10_bestOf 10 = .ok (.goto 17, 3) := by decide +kernel
theorem dX10_bestOf_13 : decode cX10_bestOf 13 = .ok (.aload_n 0, 1) := by decide +kernel
theorem dX10_bestOf_14 : decode cX10_bestOf 14 = .ok (.iload_n 1, 1) := by decide +kernel
theorem dX10_bestOf_15 : decode cX10_bestOf 15 = .ok (.iconst 1, 1) := by decide +kernel
theorem dX10_bestOf_16 : decode cX10_bestOf 16 = .ok (.invokevirtual 201, 3) := by decide +kernel
theorem dX10_bestOf_19 : decode cX10_bestOf 19 = .ok (.ifCond .eq 7, 3) := by decide +kernel
theorem dX10_bestOf_22 : decode cX10_bestOf 22 = .ok (.iconst 1, 1) := by decide +kernel
theorem dX10_bestOf_23 : decode cX10_bestOf 23 = .ok (.goto 4, 3) := by decide +kernel
theorem dX10_bestOf_26 : decode cX10_bestOf 26 = .ok (.iconst 2, 1) := by decide +kernel
theorem dX10_bestOf_27 : decode cX10_bestOf 27 = .ok (.ireturn, 1) := by decide +kernel
theorem dX10_best_0 : decode cX10_best 0 = .ok (.aload_n 0, 1) := by decide +kernel
theorem dX10_best_1 : decode cX10_best 1 = .ok (.aload_n 0, 1) := by decide +kernel
theorem dX10_best_2 : decode cX10_best 2 = .ok (.iload_n 1, 1) := by decide +kernel
theorem dX10_best_3 : decode cX10_best 3 = .ok (.invokevirtual 180, 3) := by decide +kernel
theorem dX10_best_6 : decode cX10_best 6 = .ok (.ifCond .eq 7, 3) := by decide +kernel
theorem dX10_best_9 : decode cX10_best 9 = .ok (.iconst 0, 1) := by decide +kernel
theorem dX10_best_10 : decode cX10_best 10 = .ok (.goto 4, 3) := by decide +kernel
theorem dX10_best_13 : decode cX10_best 13 = .ok (.iconst 1, 1) := by decide +kernel
theorem dX10_best_14 : decode cX10_best 14 = .ok (.invokevirtual 107, 3) := by decide +kernel
theorem dX10_best_17 : decode cX10_best 17 = .ok (.ifCond .eq 11, 3) := by decide +kernel
theorem dX10_best_20 : decode cX10_best 20 = .ok (.aload_n 0, 1) := by decide +kernel
theorem dX10_best_21 : decode cX10_best 21 = .ok (.iload_n 1, 1) := by decide +kernel
theorem dX10_best_22 : decode cX10_best 22 = .ok (.invokevirtual 209, 3) := by decide +kernel
theorem dX10_best_25 : decode cX10_best 25 = .ok (.goto 4, 3) := by decide +kernel
theorem dX10_best_28 : decode cX10_best 28 = .ok (.iconst 0, 1) := by decide +kernel
theorem dX10_best_29 : decode cX10_best 29 = .ok (.ireturn, 1) := by decide +kernel
theorem dX10_fromOf_0 : decode cX10_fromOf 0 = .ok (.iconst 0, 1) := by decide +kernel
theorem dX10_fromOf_1 : decode cX10_fromOf 1 = .ok (.istore 4, 2) := by decide +kernel
theorem dX10_fromOf_3 : decode cX10_fromOf 3 = .ok (.aload_n 0, 1) := by decide +kernel
theorem dX10_fromOf_4 : decode cX10_fromOf 4 = .ok (.getfield 28, 3) := by decide +kernel
theorem dX10_fromOf_7 : decode cX10_fromOf 7 = .ok (.iload_n 1, 1) := by decide +kernel
theorem dX10_fromOf_8 : decode cX10_fromOf 8 = .ok (.invokestatic 171, 3) := by decide +kernel
theorem dX10_fromOf_11 : decode cX10_fromOf 11 = .ok (.iaload, 1) := by decide +kernel
theorem dX10_fromOf_12 : decode cX10_fromOf 12 = .ok (.istore 5, 2) := by decide +kernel
theorem dX10_fromOf_14 : decode cX10_fromOf 14 = .ok (.iload 5, 2) := by decide +kernel
theorem dX10_fromOf_16 : decode cX10_fromOf 16 = .ok (.iconst (-1), 1) := by decide +kernel
theorem dX10_fromOf_17 : decode cX10_fromOf 17 = .ok (.if_icmp .eq 53, 3) := by decide +kernel
theorem dX10_fromOf_20 : decode cX10_fromOf 20 = .ok (.iload 4, 2) := by decide +kernel
theorem dX10_fromOf_22 : decode cX10_fromOf 22 = .ok (.aload_n 0, 1) := by decide +kernel
theorem dX10_fromOf_23 : decode cX10_fromOf 23 = .ok (.getfield 43, 3) := by decide +kernel
theorem dX10_fromOf_26 : decode cX10_fromOf 26 = .ok (.iload 5, 2) := by decide +kernel
theorem dX10_fromOf_28 : decode cX10_fromOf 28 = .ok (.iaload, 1) := by decide +kernel
theorem dX10_fromOf_29 : decode cX10_fromOf 29 = .ok (.iload_n 2, 1) := by decide +kernel
theorem dX10_fromOf_30 : decode cX10_fromOf 30 = .ok (.if_icmp .ne 24, 3) := by decide +kernel
theorem dX10_fromOf_33 : decode cX10_fromOf 33 = .ok (.aload_n 0, 1) := by decide +kernel
theorem dX10_fromOf_34 : decode cX10_fromOf 34 = .ok (.getfield 46, 3) := by decide +kernel
theorem dX10_fromOf_37 : decode cX10_fromOf 37 = .ok (.iload 5, 2) := by decide +kernel
theorem dX10_fromOf_39 : decode cX10_fromOf 39 = .ok (.iaload, 1) := by decide +kernel
theorem dX10_fromOf_40 : decode cX10_fromOf 40 = .ok (.iload_n 3, 1) := by decide +kernel
theorem dX10_fromOf_41 : decode cX10_fromOf 41 = .ok (.if_icmp .ne 13, 3) := by decide +kernel
theorem dX10_fromOf_44 : decode cX10_fromOf 44 = .ok (.aload_n 0, 1) := by decide +kernel
theorem dX10_fromOf_45 : decode cX10_fromOf 45 = .ok (.getfield 40, 3) := by decide +kernel
theorem dX10_fromOf_48 : decode cX10_fromOf 48 = .ok (.iload 5, 2) := by decide +kernel
theorem dX10_fromOf_50 : decode cX10_fromOf 50 = .ok (.iaload, 1) := by decide +kernel
theorem dX10_fromOf_51 : decode cX10_fromOf 51 = .ok (.goto 4, 3) := by decide +kernel
theorem dX10_fromOf_54 : decode cX10_fromOf 54 = .ok (.iconst 0, 1) := by decide +kernel
theorem dX10_fromOf_55 : decode cX10_fromOf 55 = .ok (.iadd, 1) := by decide +kernel
theorem dX10_fromOf_56 : decode cX10_fromOf 56 = .ok (.istore 4, 2) := by decide +kernel
theorem dX10_fromOf_58 : decode cX10_fromOf 58 = .ok (.aload_n 0, 1) := by decide +kernel
theorem dX10_fromOf_59 : decode cX10_fromOf 59 = .ok (.getfield 37, 3) := by decide +kernel
theorem dX10_fromOf_62 : decode cX10_fromOf 62 = .ok (.iload 5, 2) := by decide +kernel
theorem dX10_fromOf_64 : decode cX10_fromOf 64 = .ok (.iaload, 1) := by decide +kernel
theorem dX10_fromOf_65 : decode cX10_fromOf 65 = .ok (.istore 5, 2) := by decide +kernel
theorem dX10_fromOf_67 : decode cX10_fromOf 67 = .ok (.goto (-53), 3) := by decide +kernel
theorem dX10_fromOf_70 : decode cX10_fromOf 70 = .ok (.iload 4, 2) := by decide +kernel
theorem dX10_fromOf_72 : decode cX10_fromOf 72 = .ok (.ireturn, 1) := by decide +kernel
theorem dX10_from_0 : decode cX10_from 0 = .ok (.aload_n 0, 1) := by decide +kernel
theorem dX10_from_1 : decode cX10_from 1 = .ok (.aload_n 0, 1) := by decide +kernel
theorem dX10_from_2 : decode cX10_from 2 = .ok (.iload_n 1, 1) := by decide +kernel
theorem dX10_from_3 : decode cX10_from 3 = .ok (.invokevirtual 180, 3) := by decide +kernel
theorem dX10_from_6 : decode cX10_from 6 = .ok (.ifCond .eq 14, 3) := by decide +kernel
theorem dX10_from_9 : decode cX10_from 9 = .ok (.iload_n 2, 1) := by decide +kernel
theorem dX10_from_10 : decode cX10_from 10 = .ok (.invokestatic 103, 3) := by decide +kernel
theorem dX10_from_13 : decode cX10_from 13 = .ok (.ifCond .eq 7, 3) := by decide +kernel
theorem dX10_from_16 : decode cX10_from 16 = .ok (.iconst 0, 1) := by decide +kernel
theorem dX10_from_17 : decode cX10_from 17 = .ok (.goto 4, 3) := by decide +kernel
theorem dX10_from_20 : decode cX10_from 20 = .ok (.iconst 1, 1) := by decide +kernel
theorem dX10_from_21 : decode cX10_from 21 = .ok (.invokevirtual 107, 3) := by decide +kernel
theorem dX10_from_24 : decode cX10_from 24 = .ok (.ifCond .eq 13, 3) := by decide +kernel
theorem dX10_from_27 : decode cX10_from 27 = .ok (.aload_n 0, 1) := by decide +kernel
theorem dX10_from_28 : decode cX10_from 28 = .ok (.iload_n 1, 1) := by decide +kernel
theorem dX10_from_29 : decode cX10_from 29 = .ok (.iload_n 2, 1) := by decide +kernel
theorem dX10_from_30 : decode cX10_from 30 = .ok (.iload_n 3, 1) := by decide +kernel
theorem dX10_from_31 : decode cX10_from 31 = .ok (.invokevirtual 212, 3) := by decide +kernel
theorem dX10_from_34 : decode cX10_from 34 = .ok (.goto 4, 3) := by decide +kernel
theorem dX10_from_37 : decode cX10_from 37 = .ok (.iconst 0, 1) := by decide +kernel
theorem dX10_from_38 : decode cX10_from 38 = .ok (.ireturn, 1) := by decide +kernel
theorem dX10_fromAnew_0 : decode cX10_fromAnew 0 = .ok (.aload_n 0, 1) := by decide +kernel
theorem dX10_fromAnew_1 : decode cX10_fromAnew 1 = .ok (.aload_n 0, 1) := by decide +kernel
theorem dX10_fromAnew_2 : decode cX10_fromAnew 2 = .ok (.iload_n 1, 1) := by decide +kernel
theorem dX10_fromAnew_3 : decode cX10_fromAnew 3 = .ok (.invokevirtual 180, 3) := by decide +kernel
theorem dX10_fromAnew_6 : decode cX10_fromAnew 6 = .ok (.ifCond .eq 14, 3) := by decide +kernel
theorem dX10_fromAnew_9 : decode cX10_fromAnew 9 = .ok (.iload_n 2, 1) := by decide +kernel
theorem dX10_fromAnew_10 : decode cX10_fromAnew 10 = .ok (.invokestatic 103, 3) := by decide +kernel
theorem dX10_fromAnew_13 : decode cX10_fromAnew 13 = .ok (.ifCond .eq 7, 3) := by decide +kernel
theorem dX10_fromAnew_16 : decode cX10_fromAnew 16 = .ok (.iconst 0, 1) := by decide +kernel
theorem dX10_fromAnew_17 : decode cX10_fromAnew 17 = .ok (.goto 4, 3) := by decide +kernel
theorem dX10_fromAnew_20 : decode cX10_fromAnew 20 = .ok (.iconst 1, 1) := by decide +kernel
theorem dX10_fromAnew_21 : decode cX10_fromAnew 21 = .ok (.invokevirtual 107, 3) := by decide +kernel
theorem dX10_fromAnew_24 : decode cX10_fromAnew 24 = .ok (.ifCond .eq 13, 3) := by decide +kernel
theorem dX10_fromAnew_27 : decode cX10_fromAnew 27 = .ok (.aload_n 0, 1) := by decide +kernel
theorem dX10_fromAnew_28 : decode cX10_fromAnew 28 = .ok (.iload_n 1, 1) := by decide +kernel
theorem dX10_fromAnew_29 : decode cX10_fromAnew 29 = .ok (.iload_n 2, 1) := by decide +kernel
theorem dX10_fromAnew_30 : decode cX10_fromAnew 30 = .ok (.iload_n 3, 1) := by decide +kernel
theorem dX10_fromAnew_31 : decode cX10_fromAnew 31 = .ok (.invokevirtual 212, 3) := by decide +kernel
theorem dX10_fromAnew_34 : decode cX10_fromAnew 34 = .ok (.goto 4, 3) := by decide +kernel
theorem dX10_fromAnew_37 : decode cX10_fromAnew 37 = .ok (.iconst 0, 1) := by decide +kernel
theorem dX10_fromAnew_38 : decode cX10_fromAnew 38 = .ok (.ireturn, 1) := by decide +kernel
theorem dX10_whenceOf_0 : decode cX10_whenceOf 0 = .ok (.iconst (-1), 1) := by decide +kernel
theorem dX10_whenceOf_1 : decode cX10_whenceOf 1 = .ok (.istore_n 3, 1) := by decide +kernel
theorem dX10_whenceOf_2 : decode cX10_whenceOf 2 = .ok (.aload_n 0, 1) := by decide +kernel
theorem dX10_whenceOf_3 : decode cX10_whenceOf 3 = .ok (.getfield 28, 3) := by decide +kernel
theorem dX10_whenceOf_6 : decode cX10_whenceOf 6 = .ok (.iload_n 1, 1) := by decide +kernel
theorem dX10_whenceOf_7 : decode cX10_whenceOf 7 = .ok (.invokestatic 171, 3) := by decide +kernel
theorem dX10_whenceOf_10 : decode cX10_whenceOf 10 = .ok (.iaload, 1) := by decide +kernel
theorem dX10_whenceOf_11 : decode cX10_whenceOf 11 = .ok (.istore 4, 2) := by decide +kernel
theorem dX10_whenceOf_13 : decode cX10_whenceOf 13 = .ok (.iload 4, 2) := by decide +kernel
theorem dX10_whenceOf_15 : decode cX10_whenceOf 15 = .ok (.iconst (-1), 1) := by decide +kernel
theorem dX10_whenceOf_16 : decode cX10_whenceOf 16 = .ok (.if_icmp .eq 114, 3) := by decide +kernel
theorem dX10_whenceOf_19 : decode cX10_whenceOf 19 = .ok (.aload_n 0, 1) := by decide +kernel
theorem dX10_whenceOf_20 : decode cX10_whenceOf 20 = .ok (.getfield 52, 3) := by decide +kernel
theorem dX10_whenceOf_23 : decode cX10_whenceOf 23 = .ok (.iload 4, 2) := by decide +kernel
theorem dX10_whenceOf_25 : decode cX10_whenceOf 25 = .ok (.iaload, 1) := by decide +kernel
theorem dX10_whenceOf_26 : decode cX10_whenceOf 26 = .ok (.iload_n 2, 1) := by decide +kernel
theorem dX10_whenceOf_27 : decode cX10_whenceOf 27 = .ok (.ishr, 1) := by decide +kernel
theorem dX10_whenceOf_28 : decode cX10_whenceOf 28 = .ok (.iconst 1, 1) := by decide +kernel
theorem dX10_whenceOf_29 : decode cX10_whenceOf 29 = .ok (.iand, 1) := by decide +kernel
theorem dX10_whenceOf_30 : decode cX10_whenceOf 30 = .ok (.iconst 1, 1) := by decide +kernel
theorem dX10_whenceOf_31 : decode cX10_whenceOf 31 = .ok (.if_icmp .ne 7, 3) := by decide +kernel
theorem dX10_whenceOf_34 : decode cX10_whenceOf 34 = .ok (.iconst 1, 1) := by decide +kernel
theorem dX10_whenceOf_35 : decode cX10_whenceOf 35 = .ok (.goto 4, 3) := by decide +kernel
theorem dX10_whenceOf_38 : decode cX10_whenceOf 38 = .ok (.iconst 0, 1) := by decide +kernel
theorem dX10_whenceOf_39 : decode cX10_whenceOf 39 = .ok (.istore 5, 2) := by decide +kernel
theorem dX10_whenceOf_41 : decode cX10_whenceOf 41 = .ok (.iload_n 3, 1) := by decide +kernel
theorem dX10_whenceOf_42 : decode cX10_whenceOf 42 = .ok (.iconst (-1), 1) := by decide +kernel
theorem dX10_whenceOf_43 : decode cX10_whenceOf 43 = .ok (.if_icmp .eq 51, 3) := by decide +kernel
theorem dX10_whenceOf_46 : decode cX10_whenceOf 46 = .ok (.aload_n 0, 1) := by decide +kernel
theorem dX10_whenceOf_47 : decode cX10_whenceOf 47 = .ok (.getfield 46, 3) := by decide +kernel
theorem dX10_whenceOf_50 : decode cX10_whenceOf 50 = .ok (.iload 4, 2) := by decide +kernel
theorem dX10_whenceOf_52 : decode cX10_whenceOf 52 = .ok (.iaload, 1) := by decide +kernel
theorem dX10_whenceOf_53 : decode cX10_whenceOf 53 = .ok (.aload_n 0, 1) := by decide +kernel
theorem dX10_whenceOf_54 : decode cX10_whenceOf 54 = .ok (.getfield 46, 3) := by decide +kernel
theorem dX10_whenceOf_57 : decode cX10_whenceOf 57 = .ok (.iload_n 3, 1) := by decide +kernel
theorem dX10_whenceOf_58 : decode cX10_whenceOf 58 = .ok (.iaload, 1) := by decide +kernel
theorem dX10_whenceOf_59 : decode cX10_whenceOf 59 = .ok (.if_icmp .lt 35, 3) := by decide +kernel
theorem dX10_whenceOf_62 : decode cX10_whenceOf 62 = .ok (.aload_n 0, 1) := by decide +kernel
theorem dX10_whenceOf_63 : decode cX10_whenceOf 63 = .ok (.getfield 46, 3) := by decide +kernel
theorem dX10_whenceOf_66 : decode cX10_whenceOf 66 = .ok (.iload 4, 2) := by decide +kernel
theorem dX10_whenceOf_68 : decode cX10_whenceOf 68 = .ok (.iaload, 1) := by decide +kernel
theorem dX10_whenceOf_69 : decode cX10_whenceOf 69 = .ok (.aload_n 0, 1) := by decide +kernel
theorem dX10_whenceOf_70 : decode cX10_whenceOf 70 = .ok (.getfield 46, 3) := by decide +kernel
theorem dX10_whenceOf_73 : decode cX10_whenceOf 73 = .ok (.iload_n 3, 1) := by decide +kernel
theorem dX10_whenceOf_74 : decode cX10_whenceOf 74 = .ok (.iaload, 1) := by decide +kernel
theorem dX10_whenceOf_75 : decode cX10_whenceOf 75 = .ok (.if_icmp .ne 23, 3) := by decide +kernel
theorem dX10_whenceOf_78 : decode cX10_whenceOf 78 = .ok (.aload_n 0, 1) := by decide +kernel
theorem dX10_whenceOf_79 : decode cX10_whenceOf 79 = .ok (.getfield 43, 3) := by decide +kernel
theorem dX10_whenceOf_82 : decode cX10_whenceOf 82 = .ok (.iload 4, 2) := by decide +kernel
theorem dX10_whenceOf_84 : decode cX10_whenceOf 84 = .ok (.iaload, 1) := by decide +kernel
theorem dX10_whenceOf_85 : decode cX10_whenceOf 85 = .ok (.aload_n 0, 1) := by decide +kernel
theorem dX10_whenceOf_86 : decode cX10_whenceOf 86 = .ok (.getfield 43, 3) := by decide +kernel
theorem dX10_whenceOf_89 : decode cX10_whenceOf 89 = .ok (.iload_n 3, 1) := by decide +kernel
theorem dX10_whenceOf_90 : decode cX10_whenceOf 90 = .ok (.iaload, 1) := by decide +kernel
theorem dX10_whenceOf_91 : decode cX10_whenceOf 91 = .ok (.if_icmp .ge 7, 3) := by decide +kernel
theorem dX10_whenceOf_94 : decode cX10_whenceOf 94 = .ok (.iconst 1, 1) := by decide +kernel
theorem dX10_whenceOf_95 : decode cX10_whenceOf 95 = .ok (.goto 4, 3) := by decide +kernel
theorem dX10_whenceOf_98 : decode cX10_whenceOf 98 = .ok (.iconst 0, 1) := by decide +kernel
theorem dX10_whenceOf_99 : decode cX10_whenceOf 99 = .ok (.istore 6, 2) := by decide +kernel
theorem dX10_whenceOf_101 : decode cX10_whenceOf 101 = .ok (.iload 5, 2) := by decide +kernel
theorem dX10_whenceOf_103 : decode cX10_whenceOf 103 = .ok (.ifCond .eq 13, 3) := by decide +kernel
theorem dX10_whenceOf_106 : decode cX10_whenceOf 106 = .ok (.iload 6, 2) := by decide +kernel
theorem dX10_whenceOf_108 : decode cX10_whenceOf 108 = .ok (.ifCond .eq 8, 3) := by decide +kernel
theorem dX10_whenceOf_111 : decode cX10_whenceOf 111 = .ok (.iload 4, 2) := by decide +kernel
theorem dX10_whenceOf_113 : decode cX10_whenceOf 113 = .ok (.goto 4, 3) := by decide +kernel
theorem dX10_whenceOf_116 : decode cX10_whenceOf 116 = .ok (.iload_n 3, 1) := by decide +kernel
theorem dX10_whenceOf_117 : decode cX10_whenceOf 117 = .ok (.istore_n 3, 1) := by decide +kernel
theorem dX10_whenceOf_118 : decode cX10_whenceOf 118 = .ok (.aload_n 0, 1) := by decide +kernel
theorem dX10_whenceOf_119 : decode cX10_whenceOf 119 = .ok (.getfield 37, 3) := by decide +kernel
theorem dX10_whenceOf_122 : decode cX10_whenceOf 122 = .ok (.iload 4, 2) := by decide +kernel
theorem dX10_whenceOf_124 : decode cX10_whenceOf 124 = .ok (.iaload, 1) := by decide +kernel
theorem dX10_whenceOf_125 : decode cX10_whenceOf 125 = .ok (.istore 4, 2) := by decide +kernel
theorem dX10_whenceOf_127 : decode cX10_whenceOf 127 = .ok (.goto (-114), 3) := by decide +kernel
theorem dX10_whenceOf_130 : decode cX10_whenceOf 130 = .ok (.iload_n 3, 1) := by decide +kernel
theorem dX10_whenceOf_131 : decode cX10_whenceOf 131 = .ok (.iconst (-1), 1) := by decide +kernel
theorem dX10_whenceOf_132 : decode cX10_whenceOf 132 = .ok (.if_icmp .ne 7, 3) := by decide +kernel
theorem dX10_whenceOf_135 : decode cX10_whenceOf 135 = .ok (.iconst (-1), 1) := by decide +kernel
theorem dX10_whenceOf_136 : decode cX10_whenceOf 136 = .ok (.goto 20, 3) := by decide +kernel
theorem dX10_whenceOf_139 : decode cX10_whenceOf 139 = .ok (.sipush 1000, 3) := by decide +kernel
theorem dX10_whenceOf_142 : decode cX10_whenceOf 142 = .ok (.aload_n 0, 1) := by decide +kernel
theorem dX10_whenceOf_143 : decode cX10_whenceOf 143 = .ok (.getfield 43, 3) := by decide +kernel
theorem dX10_whenceOf_146 : decode cX10_whenceOf 146 = .ok (.iload_n 3, 1) := by decide +kernel
theorem dX10_whenceOf_147 : decode cX10_whenceOf 147 = .ok (.iaload, 1) := by decide +kernel
theorem dX10_whenceOf_148 : decode cX10_whenceOf 148 = .ok (.imul, 1) := by decide +kernel
theorem dX10_whenceOf_149 : decode cX10_whenceOf 149 = .ok (.aload_n 0, 1) := by decide +kernel
theorem dX10_whenceOf_150 : decode cX10_whenceOf 150 = .ok (.getfield 46, 3) := by decide +kernel
theorem dX10_whenceOf_153 : decode cX10_whenceOf 153 = .ok (.iload_n 3, 1) := by decide +kernel
theorem dX10_whenceOf_154 : decode cX10_whenceOf 154 = .ok (.iaload, 1) := by decide +kernel
theorem dX10_whenceOf_155 : decode cX10_whenceOf 155 = .ok (.iadd, 1) := by decide +kernel
theorem dX10_whenceOf_156 : decode cX10_whenceOf 156 = .ok (.ireturn, 1) := by decide +kernel
theorem dX10_whence_0 : decode cX10_whence 0 = .ok (.aload_n 0, 1) := by decide +kernel
theorem dX10_whence_1 : decode cX10_whence 1 = .ok (.aload_n 0, 1) := by decide +kernel
theorem dX10_whence_2 : decode cX10_whence 2 = .ok (.iload_n 1, 1) := by decide +kernel
theorem dX10_whence_3 : decode cX10_whence 3 = .ok (.invokevirtual 180, 3) := by decide +kernel
theorem dX10_whence_6 : decode cX10_whence 6 = .ok (.ifCond .eq 14, 3) := by decide +kernel
theorem dX10_whence_9 : decode cX10_whence 9 = .ok (.iload_n 2, 1) := by decide +kernel
theorem dX10_whence_10 : decode cX10_whence 10 = .ok (.invokestatic 110, 3) := by decide +kernel
theorem dX10_whence_13 : decode cX10_whence 13 = .ok (.ifCond .eq 7, 3) := by decide +kernel
theorem dX10_whence_16 : decode cX10_whence 16 = .ok (.iconst 0, 1) := by decide +kernel
theorem dX10_whence_17 : decode cX10_whence 17 = .ok (.goto 4, 3) := by decide +kernel
theorem dX10_whence_20 : decode cX10_whence 20 = .ok (.iconst 1, 1) := by decide +kernel
theorem dX10_whence_21 : decode cX10_whence 21 = .ok (.invokevirtual 107, 3) := by decide +kernel
theorem dX10_whence_24 : decode cX10_whence 24 = .ok (.ifCond .eq 12, 3) := by decide +kernel
theorem dX10_whence_27 : decode cX10_whence 27 = .ok (.aload_n 0, 1) := by decide +kernel
theorem dX10_whence_28 : decode cX10_whence 28 = .ok (.iload_n 1, 1) := by decide +kernel
theorem dX10_whence_29 : decode cX10_whence 29 = .ok (.iload_n 2, 1) := by decide +kernel
theorem dX10_whence_30 : decode cX10_whence 30 = .ok (.invokevirtual 216, 3) := by decide +kernel
theorem dX10_whence_33 : decode cX10_whence 33 = .ok (.goto 4, 3) := by decide +kernel
theorem dX10_whence_36 : decode cX10_whence 36 = .ok (.iconst 0, 1) := by decide +kernel
theorem dX10_whence_37 : decode cX10_whence 37 = .ok (.ireturn, 1) := by decide +kernel
theorem dX10_held_0 : decode cX10_held 0 = .ok (.lconst 0, 1) := by decide +kernel
theorem dX10_held_1 : decode cX10_held 1 = .ok (.lstore_n 1, 1) := by decide +kernel
theorem dX10_held_2 : decode cX10_held 2 = .ok (.iconst 0, 1) := by decide +kernel
theorem dX10_held_3 : decode cX10_held 3 = .ok (.istore_n 3, 1) := by decide +kernel
theorem dX10_held_4 : decode cX10_held 4 = .ok (.iload_n 3, 1) := by decide +kernel
theorem dX10_held_5 : decode cX10_held 5 = .ok (.bipush 10, 2) := by decide +kernel
theorem dX10_held_7 : decode cX10_held 7 = .ok (.if_icmp .ge 19, 3) := by decide +kernel
theorem dX10_held_10 : decode cX10_held 10 = .ok (.lload_n 1, 1) := by decide +kernel
theorem dX10_held_11 : decode cX10_held 11 = .ok (.aload_n 0, 1) := by decide +kernel
theorem dX10_held_12 : decode cX10_held 12 = .ok (.getfield 34, 3) := by decide +kernel
theorem dX10_held_15 : decode cX10_held 15 = .ok (.iload_n 3, 1) := by decide +kernel
theorem dX10_held_16 : decode cX10_held 16 = .ok (.iaload, 1) := by decide +kernel
theorem dX10_held_17 : decode cX10_held 17 = .ok (.i2l, 1) := by decide +kernel
theorem dX10_held_18 : decode cX10_held 18 = .ok (.ladd, 1) := by decide +kernel
theorem dX10_held_19 : decode cX10_held 19 = .ok (.lstore_n 1, 1) := by decide +kernel
theorem dX10_held_20 : decode cX10_held 20 = .ok (.iinc 3 1, 3) := by decide +kernel
theorem dX10_held_23 : decode cX10_held 23 = .ok (.goto (-19), 3) := by decide +kernel
theorem dX10_held_26 : decode cX10_held 26 = .ok (.lload_n 1, 1) := by decide +kernel
theorem dX10_held_27 : decode cX10_held 27 = .ok (.lreturn, 1) := by decide +kernel
theorem dX10_falseOnes_0 : decode cX10_falseOnes 0 = .ok (.lconst 0, 1) := by decide +kernel
theorem dX10_falseOnes_1 : decode cX10_falseOnes 1 = .ok (.lstore_n 1, 1) := by decide +kernel
theorem dX10_falseOnes_2 : decode cX10_falseOnes 2 = .ok (.iconst 0, 1) := by decide +kernel
theorem dX10_falseOnes_3 : decode cX10_falseOnes 3 = .ok (.istore_n 3, 1) := by decide +kernel
theorem dX10_falseOnes_4 : decode cX10_falseOnes 4 = .ok (.iload_n 3, 1) := by decide +kernel
theorem dX10_falseOnes_5 : decode cX10_falseOnes 5 = .ok (.aload_n 0, 1) := by decide +kernel
theorem dX10_falseOnes_6 : decode cX10_falseOnes 6 = .ok (.getfield 100, 3) := by decide +kernel
theorem dX10_falseOnes_9 : decode cX10_falseOnes 9 = .ok (.if_icmp .ge 36, 3) := by decide +kernel
theorem dX10_falseOnes_12 : decode cX10_falseOnes 12 = .ok (.lload_n 1, 1) := by decide +kernel
theorem dX10_falseOnes_13 : decode cX10_falseOnes 13 = .ok (.aload_n 0, 1) := by decide +kernel
theorem dX10_falseOnes_14 : decode cX10_falseOnes 14 = .ok (.getfield 80, 3) := by decide +kernel
theorem dX10_falseOnes_17 : decode cX10_falseOnes 17 = .ok (.iload_n 3, 1) := by decide +kernel
theorem dX10_falseOnes_18 : decode cX10_falseOnes 18 = .ok (.iaload, 1) := by decide +kernel
theorem dX10_falseOnes_19 : decode cX10_falseOnes 19 = .ok (.iconst (-1), 1) := by decide +kernel
theorem dX10_falseOnes_20 : decode cX10_falseOnes 20 = .ok (.if_icmp .eq 16, 3) := by decide +kernel
theorem dX10_falseOnes_23 : decode cX10_falseOnes 23 = .ok (.aload_n 0, 1) := by decide +kernel
theorem dX10_falseOnes_24 : decode cX10_falseOnes 24 = .ok (.getfield 83, 3) := by decide +kernel
theorem dX10_falseOnes_27 : decode cX10_falseOnes 27 = .ok (.iload_n 3, 1) := by decide +kernel
theorem dX10_falseOnes_28 : decode cX10_falseOnes 28 = .ok (.baload, 1) := by decide +kernel
theorem dX10_falseOnes_29 : decode cX10_falseOnes 29 = .ok (.ifCond .ne 7, 3) := by decide +kernel
theorem dX10_falseOnes_32 : decode cX10_falseOnes 32 = .ok (.lconst 1, 1) := by decide +kernel
theorem dX10_falseOnes_33 : decode cX10_falseOnes 33 = .ok (.goto 4, 3) := by decide +kernel
theorem dX10_falseOnes_36 : decode cX10_falseOnes 36 = .ok (.lconst 0, 1) := by decide +kernel
theorem dX10_falseOnes_37 : decode cX10_falseOnes 37 = .ok (.ladd, 1) := by decide +kernel
theorem dX10_falseOnes_38 : decode cX10_falseOnes 38 = .ok (.lstore_n 1, 1) := by decide +kernel
theorem dX10_falseOnes_39 : decode cX10_falseOnes 39 = .ok (.iinc 3 1, 3) := by decide +kernel
theorem dX10_falseOnes_42 : decode cX10_falseOnes 42 = .ok (.goto (-38), 3) := by decide +kernel
theorem dX10_falseOnes_45 : decode cX10_falseOnes 45 = .ok (.lload_n 1, 1) := by decide +kernel
theorem dX10_falseOnes_46 : decode cX10_falseOnes 46 = .ok (.lreturn, 1) := by decide +kernel
theorem dX10_sum_0 : decode cX10_sum 0 = .ok (.aload_n 0, 1) := by decide +kernel
theorem dX10_sum_1 : decode cX10_sum 1 = .ok (.iload_n 1, 1) := by decide +kernel
theorem dX10_sum_2 : decode cX10_sum 2 = .ok (.iconst 0, 1) := by decide +kernel
theorem dX10_sum_3 : decode cX10_sum 3 = .ok (.bipush 6, 2) := by decide +kernel
theorem dX10_sum_5 : decode cX10_sum 5 = .ok (.invokestatic 93, 3) := by decide +kernel
theorem dX10_sum_8 : decode cX10_sum 8 = .ok (.ifCond .eq 7, 3) := by decide +kernel
theorem dX10_sum_11 : decode cX10_sum 11 = .ok (.iconst 0, 1) := by decide +kernel
theorem dX10_sum_12 : decode cX10_sum 12 = .ok (.goto 4, 3) := by decide +kernel
theorem dX10_sum_15 : decode cX10_sum 15 = .ok (.iconst 1, 1) := by decide +kernel
theorem dX10_sum_16 : decode cX10_sum 16 = .ok (.invokevirtual 107, 3) := by decide +kernel
theorem dX10_sum_19 : decode cX10_sum 19 = .ok (.ifCond .ne 5, 3) := by decide +kernel
theorem dX10_sum_22 : decode cX10_sum 22 = .ok (.lconst 0, 1) := by decide +kernel
theorem dX10_sum_23 : decode cX10_sum 23 = .ok (.lreturn, 1) := by decide +kernel
theorem dX10_sum_24 : decode cX10_sum 24 = .ok (.iload_n 1, 1) := by decide +kernel
theorem dX10_sum_25 : decode cX10_sum 25 = .ok (.tableswitch 69 0 5 #[39, 44, 49, 54, 59, 64], 39) := by decide +kernel
theorem dX10_sum_64 : decode cX10_sum 64 = .ok (.aload_n 0, 1) := by decide +kernel
theorem dX10_sum_65 : decode cX10_sum 65 = .ok (.getfield 134, 3) := by decide +kernel
theorem dX10_sum_68 : decode cX10_sum 68 = .ok (.lreturn, 1) := by decide +kernel
theorem dX10_sum_69 : decode cX10_sum 69 = .ok (.aload_n 0, 1) := by decide +kernel
theorem dX10_sum_70 : decode cX10_sum 70 = .ok (.invokevirtual 219, 3) := by decide +kernel
theorem dX10_sum_73 : decode cX10_sum 73 = .ok (.lreturn, 1) := by decide +kernel
theorem dX10_sum_74 : decode cX10_sum 74 = .ok (.aload_n 0, 1) := by decide +kernel
theorem dX10_sum_75 : decode cX10_sum 75 = .ok (.getfield 142, 3) := by decide +kernel
theorem dX10_sum_78 : decode cX10_sum 78 = .ok (.lreturn, 1) := by decide +kernel
theorem dX10_sum_79 : decode cX10_sum 79 = .ok (.aload_n 0, 1) := by decide +kernel
theorem dX10_sum_80 : decode cX10_sum 80 = .ok (.getfield 174, 3) := by decide +kernel
theorem dX10_sum_83 : decode cX10_sum 83 = .ok (.lreturn, 1) := by decide +kernel
theorem dX10_sum_84 : decode cX10_sum 84 = .ok (.aload_n 0, 1) := by decide +kernel
theorem dX10_sum_85 : decode cX10_sum 85 = .ok (.getfield 148, 3) := by decide +kernel
theorem dX10_sum_88 : decode cX10_sum 88 = .ok (.lreturn, 1) := by decide +kernel
theorem dX10_sum_89 : decode cX10_sum 89 = .ok (.aload_n 0, 1) := by decide +kernel
theorem dX10_sum_90 : decode cX10_sum 90 = .ok (.getfield 177, 3) := by decide +kernel
theorem dX10_sum_93 : decode cX10_sum 93 = .ok (.lreturn, 1) := by decide +kernel
theorem dX10_sum_94 : decode cX10_sum 94 = .ok (.aload_n 0, 1) := by decide +kernel
theorem dX10_sum_95 : decode cX10_sum 95 = .ok (.invokevirtual 223, 3) := by decide +kernel
theorem dX10_sum_98 : decode cX10_sum 98 = .ok (.lreturn, 1) := by decide +kernel
theorem dJ9_max_7cf53_0 : decode cJ9_max_7cf53 0 = .ok (.iload_n 0, 1) := by decide +kernel
theorem dJ9_max_7cf53_1 : decode cJ9_max_7cf53 1 = .ok (.iload_n 1, 1) := by decide +kernel
theorem dJ9_max_7cf53_2 : decode cJ9_max_7cf53 2 = .ok (.if_icmp .lt 7, 3) := by decide +kernel
theorem dJ9_max_7cf53_5 : decode cJ9_max_7cf53 5 = .ok (.iload_n 0, 1) := by decide +kernel
theorem dJ9_max_7cf53_6 : decode cJ9_max_7cf53 6 = .ok (.goto 4, 3) := by decide +kernel
theorem dJ9_max_7cf53_9 : decode cJ9_max_7cf53 9 = .ok (.iload_n 1, 1) := by decide +kernel
theorem dJ9_max_7cf53_10 : decode cJ9_max_7cf53 10 = .ok (.ireturn, 1) := by decide +kernel
theorem dJ9_min_7cf53_0 : decode cJ9_min_7cf53 0 = .ok (.iload_n 0, 1) := by decide +kernel
theorem dJ9_min_7cf53_1 : decode cJ9_min_7cf53 1 = .ok (.iload_n 1, 1) := by decide +kernel
theorem dJ9_min_7cf53_2 : decode cJ9_min_7cf53 2 = .ok (.if_icmp .gt 7, 3) := by decide +kernel
theorem dJ9_min_7cf53_5 : decode cJ9_min_7cf53 5 = .ok (.iload_n 0, 1) := by decide +kernel
theorem dJ9_min_7cf53_6 : decode cJ9_min_7cf53 6 = .ok (.goto 4, 3) := by decide +kernel
theorem dJ9_min_7cf53_9 : decode cJ9_min_7cf53 9 = .ok (.iload_n 1, 1) := by decide +kernel
theorem dJ9_min_7cf53_10 : decode cJ9_min_7cf53 10 = .ok (.ireturn, 1) := by decide +kernel
theorem dL_rock_0 : decode cL_rock 0 = .ok (.aload_n 3, 1) := by decide +kernel
theorem dL_rock_1 : decode cL_rock 1 = .ok (.iconst 0, 1) := by decide +kernel
theorem dL_rock_2 : decode cL_rock 2 = .ok (.aload_n 0, 1) := by decide +kernel
theorem dL_rock_3 : decode cL_rock 3 = .ok (.iload_n 1, 1) := by decide +kernel
theorem dL_rock_4 : decode cL_rock 4 = .ok (.iload_n 2, 1) := by decide +kernel
theorem dL_rock_5 : decode cL_rock 5 = .ok (.invokevirtual 7, 3) := by decide +kernel
theorem dL_rock_8 : decode cL_rock 8 = .ok (.i2l, 1) := by decide +kernel
theorem dL_rock_9 : decode cL_rock 9 = .ok (.lastore, 1) := by decide +kernel
theorem dL_rock_10 : decode cL_rock 10 = .ok (.goto 11, 3) := by decide +kernel
theorem dL_rock_13 : decode cL_rock 13 = .ok (.astore 4, 2) := by decide +kernel
theorem dL_rock_15 : decode cL_rock 15 = .ok (.iconst 1, 1) := by decide +kernel
theorem dL_rock_16 : decode cL_rock 16 = .ok (.ireturn, 1) := by decide +kernel
theorem dL_rock_17 : decode cL_rock 17 = .ok (.astore 4, 2) := by decide +kernel
theorem dL_rock_19 : decode cL_rock 19 = .ok (.iconst 2, 1) := by decide +kernel
theorem dL_rock_20 : decode cL_rock 20 = .ok (.ireturn, 1) := by decide +kernel
theorem dL_rock_21 : decode cL_rock 21 = .ok (.iconst 0, 1) := by decide +kernel
theorem dL_rock_22 : decode cL_rock 22 = .ok (.ireturn, 1) := by decide +kernel
theorem dL_land_0 : decode cL_land 0 = .ok (.aload_n 3, 1) := by decide +kernel
theorem dL_land_1 : decode cL_land 1 = .ok (.iconst 0, 1) := by decide +kernel
theorem dL_land_2 : decode cL_land 2 = .ok (.aload_n 0, 1) := by decide +kernel
theorem dL_land_3 : decode cL_land 3 = .ok (.iload_n 1, 1) := by decide +kernel
theorem dL_land_4 : decode cL_land 4 = .ok (.iload_n 2, 1) := by decide +kernel
theorem dL_land_5 : decode cL_land 5 = .ok (.invokevirtual 17, 3) := by decide +kernel
theorem dL_land_8 : decode cL_land 8 = .ok (.i2l, 1) := by decide +kernel
theorem dL_land_9 : decode cL_land 9 = .ok (.lastore, 1) := by decide +kernel
theorem dL_land_10 : decode cL_land 10 = .ok (.goto 15, 3) := by decide +kernel
theorem dL_land_13 : decode cL_land 13 = .ok (.astore 4, 2) := by decide +kernel
theorem dL_land_15 : decode cL_land 15 = .ok (.iconst 1, 1) := by decide +kernel
theorem dL_land_16 : decode cL_land 16 = .ok (.ireturn, 1) := by decide +kernel
theorem dL_land_17 : decode cL_land 17 = .ok (.astore 4, 2) := by decide +kernel
theorem dL_land_19 : decode cL_land 19 = .ok (.iconst 2, 1) := by decide +kernel
theorem dL_land_20 : decode cL_land 20 = .ok (.ireturn, 1) := by decide +kernel
theorem dL_land_21 : decode cL_land 21 = .ok (.astore 4, 2) := by decide +kernel
theorem dL_land_23 : decode cL_land 23 = .ok (.iconst 3, 1) := by decide +kernel
theorem dL_land_24 : decode cL_land 24 = .ok (.ireturn, 1) := by decide +kernel
theorem dL_land_25 : decode cL_land 25 = .ok (.iconst 0, 1) := by decide +kernel
theorem dL_land_26 : decode cL_land 26 = .ok (.ireturn, 1) := by decide +kernel
theorem dL_lead_0 : decode cL_lead 0 = .ok (.aload_n 3, 1) := by decide +kernel
theorem dL_lead_1 : decode cL_lead 1 = .ok (.iconst 0, 1) := by decide +kernel
theorem dL_lead_2 : decode cL_lead 2 = .ok (.aload_n 0, 1) := by decide +kernel
theorem dL_lead_3 : decode cL_lead 3 = .ok (.iload_n 1, 1) := by decide +kernel
theorem dL_lead_4 : decode cL_lead 4 = .ok (.iload_n 2, 1) := by decide +kernel
theorem dL_lead_5 : decode cL_lead 5 = .ok (.invokevirtual 22, 3) := by decide +kernel
theorem dL_lead_8 : decode cL_lead 8 = .ok (.i2l, 1) := by decide +kernel
theorem dL_lead_9 : decode cL_lead 9 = .ok (.lastore, 1) := by decide +kernel
theorem dL_lead_10 : decode cL_lead 10 = .ok (.goto 11, 3) := by decide +kernel
theorem dL_lead_13 : decode cL_lead 13 = .ok (.astore 4, 2) := by decide +kernel
theorem dL_lead_15 : decode cL_lead 15 = .ok (.iconst 1, 1) := by decide +kernel
theorem dL_lead_16 : decode cL_lead 16 = .ok (.ireturn, 1) := by decide +kernel
theorem dL_lead_17 : decode cL_lead 17 = .ok (.astore 4, 2) := by decide +kernel
theorem dL_lead_19 : decode cL_lead 19 = .ok (.iconst 2, 1) := by decide +kernel
theorem dL_lead_20 : decode cL_lead 20 = .ok (.ireturn, 1) := by decide +kernel
theorem dL_lead_21 : decode cL_lead 21 = .ok (.iconst 0, 1) := by decide +kernel
theorem dL_lead_22 : decode cL_lead 22 = .ok (.ireturn, 1) := by decide +kernel
theorem dL_spill_0 : decode cL_spill 0 = .ok (.aload_n 3, 1) := by decide +kernel
theorem dL_spill_1 : decode cL_spill 1 = .ok (.iconst 0, 1) := by decide +kernel
theorem dL_spill_2 : decode cL_spill 2 = .ok (.aload_n 0, 1) := by decide +kernel
theorem dL_spill_3 : decode cL_spill 3 = .ok (.iload_n 1, 1) := by decide +kernel
theorem dL_spill_4 : decode cL_spill 4 = .ok (.iload_n 2, 1) := by decide +kernel
theorem dL_spill_5 : decode cL_spill 5 = .ok (.invokevirtual 25, 3) := by decide +kernel
theorem dL_spill_8 : decode cL_spill 8 = .ok (.i2l, 1) := by decide +kernel
theorem dL_spill_9 : decode cL_spill 9 = .ok (.lastore, 1) := by decide +kernel
theorem dL_spill_10 : decode cL_spill 10 = .ok (.goto 11, 3) := by decide +kernel
theorem dL_spill_13 : decode cL_spill 13 = .ok (.astore 4, 2) := by decide +kernel
theorem dL_spill_15 : decode cL_spill 15 = .ok (.iconst 1, 1) := by decide +kernel
theorem dL_spill_16 : decode cL_spill 16 = .ok (.ireturn, 1) := by decide +kernel
theorem dL_spill_17 : decode cL_spill 17 = .ok (.astore 4, 2) := by decide +kernel
theorem dL_spill_19 : decode cL_spill 19 = .ok (.iconst 2, 1) := by decide +kernel
theorem dL_spill_20 : decode cL_spill 20 = .ok (.ireturn, 1) := by decide +kernel
theorem dL_spill_21 : decode cL_spill 21 = .ok (.iconst 0, 1) := by decide +kernel
theorem dL_spill_22 : decode cL_spill 22 = .ok (.ireturn, 1) := by decide +kernel
theorem dL_contract_0 : decode cL_contract 0 = .ok (.aload_n 0, 1) := by decide +kernel
theorem dL_contract_1 : decode cL_contract 1 = .ok (.iload_n 1, 1) := by decide +kernel
theorem dL_contract_2 : decode cL_contract 2 = .ok (.iload_n 2, 1) := by decide +kernel
theorem dL_contract_3 : decode cL_contract 3 = .ok (.iload_n 3, 1) := by decide +kernel
theorem dL_contract_4 : decode cL_contract 4 = .ok (.invokevirtual 28, 3) := by decide +kernel
theorem dL_contract_7 : decode cL_contract 7 = .ok (.goto 15, 3) := by decide +kernel
theorem dL_contract_10 : decode cL_contract 10 = .ok (.astore 4, 2) := by decide +kernel
theorem dL_contract_12 : decode cL_contract 12 = .ok (.iconst 1, 1) := by decide +kernel
theorem dL_contract_13 : decode cL_contract 13 = .ok (.ireturn, 1) := by decide +kernel
theorem dL_contract_14 : decode cL_contract 14 = .ok (.astore 4, 2) := by decide +kernel
theorem dL_contract_16 : decode cL_contract 16 = .ok (.iconst 2, 1) := by decide +kernel
theorem dL_contract_17 : decode cL_contract 17 = .ok (.ireturn, 1) := by decide +kernel
theorem dL_contract_18 : decode cL_contract 18 = .ok (.astore 4, 2) := by decide +kernel
theorem dL_contract_20 : decode cL_contract 20 = .ok (.iconst 3, 1) := by decide +kernel
theorem dL_contract_21 : decode cL_contract 21 = .ok (.ireturn, 1) := by decide +kernel
theorem dL_contract_22 : decode cL_contract 22 = .ok (.iconst 0, 1) := by decide +kernel
theorem dL_contract_23 : decode cL_contract 23 = .ok (.ireturn, 1) := by decide +kernel
theorem dL_pass_0 : decode cL_pass 0 = .ok (.aload_n 3, 1) := by decide +kernel
theorem dL_pass_1 : decode cL_pass 1 = .ok (.iconst 0, 1) := by decide +kernel
theorem dL_pass_2 : decode cL_pass 2 = .ok (.aload_n 0, 1) := by decide +kernel
theorem dL_pass_3 : decode cL_pass 3 = .ok (.iload_n 1, 1) := by decide +kernel
theorem dL_pass_4 : decode cL_pass 4 = .ok (.iload_n 2, 1) := by decide +kernel
theorem dL_pass_5 : decode cL_pass 5 = .ok (.invokevirtual 32, 3) := by decide +kernel
theorem dL_pass_8 : decode cL_pass 8 = .ok (.i2l, 1) := by decide +kernel
theorem dL_pass_9 : decode cL_pass 9 = .ok (.lastore, 1) := by decide +kernel
theorem dL_pass_10 : decode cL_pass 10 = .ok (.goto 11, 3) := by decide +kernel
theorem dL_pass_13 : decode cL_pass 13 = .ok (.astore 4, 2) := by decide +kernel
theorem dL_pass_15 : decode cL_pass 15 = .ok (.iconst 1, 1) := by decide +kernel
theorem dL_pass_16 : decode cL_pass 16 = .ok (.ireturn, 1) := by decide +kernel
theorem dL_pass_17 : decode cL_pass 17 = .ok (.astore 4, 2) := by decide +kernel
theorem dL_pass_19 : decode cL_pass 19 = .ok (.iconst 2, 1) := by decide +kernel
theorem dL_pass_20 : decode cL_pass 20 = .ok (.ireturn, 1) := by decide +kernel
theorem dL_pass_21 : decode cL_pass 21 = .ok (.iconst 0, 1) := by decide +kernel
theorem dL_pass_22 : decode cL_pass 22 = .ok (.ireturn, 1) := by decide +kernel
theorem dL_well_0 : decode cL_well 0 = .ok (.aload_n 3, 1) := by decide +kernel
theorem dL_well_1 : decode cL_well 1 = .ok (.iconst 0, 1) := by decide +kernel
theorem dL_well_2 : decode cL_well 2 = .ok (.aload_n 0, 1) := by decide +kernel
theorem dL_well_3 : decode cL_well 3 = .ok (.iload_n 1, 1) := by decide +kernel
theorem dL_well_4 : decode cL_well 4 = .ok (.iload_n 2, 1) := by decide +kernel
theorem dL_well_5 : decode cL_well 5 = .ok (.invokevirtual 35, 3) := by decide +kernel
theorem dL_well_8 : decode cL_well 8 = .ok (.i2l, 1) := by decide +kernel
theorem dL_well_9 : decode cL_well 9 = .ok (.lastore, 1) := by decide +kernel
theorem dL_well_10 : decode cL_well 10 = .ok (.goto 15, 3) := by decide +kernel
theorem dL_well_13 : decode cL_well 13 = .ok (.astore 4, 2) := by decide +kernel
theorem dL_well_15 : decode cL_well 15 = .ok (.iconst 1, 1) := by decide +kernel
theorem dL_well_16 : decode cL_well 16 = .ok (.ireturn, 1) := by decide +kernel
theorem dL_well_17 : decode cL_well 17 = .ok (.astore 4, 2) := by decide +kernel
theorem dL_well_19 : decode cL_well 19 = .ok (.iconst 2, 1) := by decide +kernel
theorem dL_well_20 : decode cL_well 20 = .ok (.ireturn, 1) := by decide +kernel
theorem dL_well_21 : decode cL_well 21 = .ok (.astore 4, 2) := by decide +kernel
theorem dL_well_23 : decode cL_well 23 = .ok (.iconst 3, 1) := by decide +kernel
theorem dL_well_24 : decode cL_well 24 = .ok (.ireturn, 1) := by decide +kernel
theorem dL_well_25 : decode cL_well 25 = .ok (.iconst 0, 1) := by decide +kernel
theorem dL_well_26 : decode cL_well 26 = .ok (.ireturn, 1) := by decide +kernel
theorem dL_drought_0 : decode cL_drought 0 = .ok (.aload_n 0, 1) := by decide +kernel
theorem dL_drought_1 : decode cL_drought 1 = .ok (.iload_n 1, 1) := by decide +kernel
theorem dL_drought_2 : decode cL_drought 2 = .ok (.iload_n 2, 1) := by decide +kernel
theorem dL_drought_3 : decode cL_drought 3 = .ok (.iload_n 3, 1) := by decide +kernel
theorem dL_drought_4 : decode cL_drought 4 = .ok (.invokevirtual 38, 3) := by decide +kernel
theorem dL_drought_7 : decode cL_drought 7 = .ok (.goto 11, 3) := by decide +kernel
theorem dL_drought_10 : decode cL_drought 10 = .ok (.astore 4, 2) := by decide +kernel
theorem dL_drought_12 : decode cL_drought 12 = .ok (.iconst 1, 1) := by decide +kernel
theorem dL_drought_13 : decode cL_drought 13 = .ok (.ireturn, 1) := by decide +kernel
theorem dL_drought_14 : decode cL_drought 14 = .ok (.astore 4, 2) := by decide +kernel
theorem dL_drought_16 : decode cL_drought 16 = .ok (.iconst 2, 1) := by decide +kernel
theorem dL_drought_17 : decode cL_drought 17 = .ok (.ireturn, 1) := by decide +kernel
theorem dL_drought_18 : decode cL_drought 18 = .ok (.iconst 0, 1) := by decide +kernel
theorem dL_drought_19 : decode cL_drought 19 = .ok (.ireturn, 1) := by decide +kernel
theorem dL_share_0 : decode cL_share 0 = .ok (.aload_n 2, 1) := by decide +kernel
theorem dL_share_1 : decode cL_share 1 = .ok (.iconst 0, 1) := by decide +kernel
theorem dL_share_2 : decode cL_share 2 = .ok (.aload_n 0, 1) := by decide +kernel
theorem dL_share_3 : decode cL_share 3 = .ok (.iload_n 1, 1) := by decide +kernel
theorem dL_share_4 : decode cL_share 4 = .ok (.invokevirtual 41, 3) := by decide +kernel
theorem dL_share_7 : decode cL_share 7 = .ok (.i2l, 1) := by decide +kernel
theorem dL_share_8 : decode cL_share 8 = .ok (.lastore, 1) := by decide +kernel
theorem dL_share_9 : decode cL_share 9 = .ok (.goto 6, 3) := by decide +kernel
theorem dL_share_12 : decode cL_share 12 = .ok (.astore_n 3, 1) := by decide +kernel
theorem dL_share_13 : decode cL_share 13 = .ok (.iconst 1, 1) := by decide +kernel
theorem dL_share_14 : decode cL_share 14 = .ok (.ireturn, 1) := by decide +kernel
theorem dL_share_15 : decode cL_share 15 = .ok (.iconst 0, 1) := by decide +kernel
theorem dL_share_16 : decode cL_share 16 = .ok (.ireturn, 1) := by decide +kernel
theorem dL_bottle_0 : decode cL_bottle 0 = .ok (.aload_n 3, 1) := by decide +kernel
theorem dL_bottle_1 : decode cL_bottle 1 = .ok (.iconst 0, 1) := by decide +kernel
theorem dL_bottle_2 : decode cL_bottle 2 = .ok (.aload_n 0, 1) := by decide +kernel
theorem dL_bottle_3 : decode cL_bottle 3 = .ok (.iload_n 1, 1) := by decide +kernel
theorem dL_bottle_4 : decode cL_bottle 4 = .ok (.iload_n 2, 1) := by decide +kernel
theorem dL_bottle_5 : decode cL_bottle 5 = .ok (.invokevirtual 45, 3) := by decide +kernel
theorem dL_bottle_8 : decode cL_bottle 8 = .ok (.i2l, 1) := by decide +kernel
theorem dL_bottle_9 : decode cL_bottle 9 = .ok (.lastore, 1) := by decide +kernel
theorem dL_bottle_10 : decode cL_bottle 10 = .ok (.goto 15, 3) := by decide +kernel
theorem dL_bottle_13 : decode cL_bottle 13 = .ok (.astore 4, 2) := by decide +kernel
theorem dL_bottle_15 : decode cL_bottle 15 = .ok (.iconst 1, 1) := by decide +kernel
theorem dL_bottle_16 : decode cL_bottle 16 = .ok (.ireturn, 1) := by decide +kernel
theorem dL_bottle_17 : decode cL_bottle 17 = .ok (.astore 4, 2) := by decide +kernel
theorem dL_bottle_19 : decode cL_bottle 19 = .ok (.iconst 2, 1) := by decide +kernel
theorem dL_bottle_20 : decode cL_bottle 20 = .ok (.ireturn, 1) := by decide +kernel
theorem dL_bottle_21 : decode cL_bottle 21 = .ok (.astore 4, 2) := by decide +kernel
theorem dL_bottle_23 : decode cL_bottle 23 = .ok (.iconst 3, 1) := by decide +kernel
theorem dL_bottle_24 : decode cL_bottle 24 = .ok (.ireturn, 1) := by decide +kernel
theorem dL_bottle_25 : decode cL_bottle 25 = .ok (.iconst 0, 1) := by decide +kernel
theorem dL_bottle_26 : decode cL_bottle 26 = .ok (.ireturn, 1) := by decide +kernel
theorem dL_treat_0 : decode cL_treat 0 = .ok (.aload_n 3, 1) := by decide +kernel
theorem dL_treat_1 : decode cL_treat 1 = .ok (.iconst 0, 1) := by decide +kernel
theorem dL_treat_2 : decode cL_treat 2 = .ok (.aload_n 0, 1) := by decide +kernel
theorem dL_treat_3 : decode cL_treat 3 = .ok (.iload_n 1, 1) := by decide +kernel
theorem dL_treat_4 : decode cL_treat 4 = .ok (.iload_n 2, 1) := by decide +kernel
theorem dL_treat_5 : decode cL_treat 5 = .ok (.invokevirtual 48, 3) := by decide +kernel
theorem dL_treat_8 : decode cL_treat 8 = .ok (.i2l, 1) := by decide +kernel
theorem dL_treat_9 : decode cL_treat 9 = .ok (.lastore, 1) := by decide +kernel
theorem dL_treat_10 : decode cL_treat 10 = .ok (.goto 11, 3) := by decide +kernel
theorem dL_treat_13 : decode cL_treat 13 = .ok (.astore 4, 2) := by decide +kernel
theorem dL_treat_15 : decode cL_treat 15 = .ok (.iconst 1, 1) := by decide +kernel
theorem dL_treat_16 : decode cL_treat 16 = .ok (.ireturn, 1) := by decide +kernel
theorem dL_treat_17 : decode cL_treat 17 = .ok (.astore 4, 2) := by decide +kernel
theorem dL_treat_19 : decode cL_treat 19 = .ok (.iconst 2, 1) := by decide +kernel
theorem dL_treat_20 : decode cL_treat 20 = .ok (.ireturn, 1) := by decide +kernel
theorem dL_treat_21 : decode cL_treat 21 = .ok (.iconst 0, 1) := by decide +kernel
theorem dL_treat_22 : decode cL_treat 22 = .ok (.ireturn, 1) := by decide +kernel
theorem dL_label_0 : decode cL_label 0 = .ok (.aload_n 3, 1) := by decide +kernel
theorem dL_label_1 : decode cL_label 1 = .ok (.iconst 0, 1) := by decide +kernel
theorem dL_label_2 : decode cL_label 2 = .ok (.aload_n 0, 1) := by decide +kernel
theorem dL_label_3 : decode cL_label 3 = .ok (.iload_n 1, 1) := by decide +kernel
theorem dL_label_4 : decode cL_label 4 = .ok (.iload_n 2, 1) := by decide +kernel
theorem dL_label_5 : decode cL_label 5 = .ok (.invokevirtual 51, 3) := by decide +kernel
theorem dL_label_8 : decode cL_label 8 = .ok (.ifCond .eq 7, 3) := by decide +kernel
theorem dL_label_11 : decode cL_label 11 = .ok (.lconst 1, 1) := by decide +kernel
theorem dL_label_12 : decode cL_label 12 = .ok (.goto 4, 3) := by decide +kernel
theorem dL_label_15 : decode cL_label 15 = .ok (.lconst 0, 1) := by decide +kernel
theorem dL_label_16 : decode cL_label 16 = .ok (.lastore, 1) := by decide +kernel
theorem dL_label_17 : decode cL_label 17 = .ok (.goto 15, 3) := by decide +kernel
theorem dL_label_20 : decode cL_label 20 = .ok (.astore 4, 2) := by decide +kernel
theorem dL_label_22 : decode cL_label 22 = .ok (.iconst 1, 1) := by decide +kernel
theorem dL_label_23 : decode cL_label 23 = .ok (.ireturn, 1) := by decide +kernel
theorem dL_label_24 : decode cL_label 24 = .ok (.astore 4, 2) := by decide +kernel
theorem dL_label_26 : decode cL_label 26 = .ok (.iconst 2, 1) := by decide +kernel
theorem dL_label_27 : decode cL_label 27 = .ok (.ireturn, 1) := by decide +kernel
theorem dL_label_28 : decode cL_label 28 = .ok (.astore 4, 2) := by decide +kernel
theorem dL_label_30 : decode cL_label 30 = .ok (.iconst 3, 1) := by decide +kernel
theorem dL_label_31 : decode cL_label 31 = .ok (.ireturn, 1) := by decide +kernel
theorem dL_label_32 : decode cL_label 32 = .ok (.iconst 0, 1) := by decide +kernel
theorem dL_label_33 : decode cL_label 33 = .ok (.ireturn, 1) := by decide +kernel
theorem dL_forbid_0 : decode cL_forbid 0 = .ok (.aload_n 2, 1) := by decide +kernel
theorem dL_forbid_1 : decode cL_forbid 1 = .ok (.iconst 0, 1) := by decide +kernel
theorem dL_forbid_2 : decode cL_forbid 2 = .ok (.aload_n 0, 1) := by decide +kernel
theorem dL_forbid_3 : decode cL_forbid 3 = .ok (.iload_n 1, 1) := by decide +kernel
theorem dL_forbid_4 : decode cL_forbid 4 = .ok (.invokevirtual 55, 3) := by decide +kernel
theorem dL_forbid_7 : decode cL_forbid 7 = .ok (.i2l, 1) := by decide +kernel
theorem dL_forbid_8 : decode cL_forbid 8 = .ok (.lastore, 1) := by decide +kernel
theorem dL_forbid_9 : decode cL_forbid 9 = .ok (.goto 9, 3) := by decide +kernel
theorem dL_forbid_12 : decode cL_forbid 12 = .ok (.astore_n 3, 1) := by decide +kernel
theorem dL_forbid_13 : decode cL_forbid 13 = .ok (.iconst 1, 1) := by decide +kernel
theorem dL_forbid_14 : decode cL_forbid 14 = .ok (.ireturn, 1) := by decide +kernel
theorem dL_forbid_15 : decode cL_forbid 15 = .ok (.astore_n 3, 1) := by decide +kernel
theorem dL_forbid_16 : decode cL_forbid 16 = .ok (.iconst 2, 1) := by decide +kernel
theorem dL_forbid_17 : decode cL_forbid 17 = .ok (.ireturn, 1) := by decide +kernel
theorem dL_forbid_18 : decode cL_forbid 18 = .ok (.iconst 0, 1) := by decide +kernel
theorem dL_forbid_19 : decode cL_forbid 19 = .ok (.ireturn, 1) := by decide +kernel
theorem dL_cellOf_0 : decode cL_cellOf 0 = .ok (.aload_n 3, 1) := by decide +kernel
theorem dL_cellOf_1 : decode cL_cellOf 1 = .ok (.iconst 0, 1) := by decide +kernel
theorem dL_cellOf_2 : decode cL_cellOf 2 = .ok (.aload_n 0, 1) := by decide +kernel
theorem dL_cellOf_3 : decode cL_cellOf 3 = .ok (.iload_n 1, 1) := by decide +kernel
theorem dL_cellOf_4 : decode cL_cellOf 4 = .ok (.iload_n 2, 1) := by decide +kernel
theorem dL_cellOf_5 : decode cL_cellOf 5 = .ok (.invokevirtual 58, 3) := by decide +kernel
theorem dL_cellOf_8 : decode cL_cellOf 8 = .ok (.i2l, 1) := by decide +kernel
theorem dL_cellOf_9 : decode cL_cellOf 9 = .ok (.lastore, 1) := by decide +kernel
theorem dL_cellOf_10 : decode cL_cellOf 10 = .ok (.goto 11, 3) := by decide +kernel
theorem dL_cellOf_13 : decode cL_cellOf 13 = .ok (.astore 4, 2) := by decide +kernel
theorem dL_cellOf_15 : decode cL_cellOf 15 = .ok (.iconst 1, 1) := by decide +kernel
theorem dL_cellOf_16 : decode cL_cellOf 16 = .ok (.ireturn, 1) := by decide +kernel
theorem dL_cellOf_17 : decode cL_cellOf 17 = .ok (.astore 4, 2) := by decide +kernel
theorem dL_cellOf_19 : decode cL_cellOf 19 = .ok (.iconst 2, 1) := by decide +kernel
theorem dL_cellOf_20 : decode cL_cellOf 20 = .ok (.ireturn, 1) := by decide +kernel
theorem dL_cellOf_21 : decode cL_cellOf 21 = .ok (.iconst 0, 1) := by decide +kernel
theorem dL_cellOf_22 : decode cL_cellOf 22 = .ok (.ireturn, 1) := by decide +kernel
theorem dL_flow_0 : decode cL_flow 0 = .ok (.aload_n 2, 1) := by decide +kernel
theorem dL_flow_1 : decode cL_flow 1 = .ok (.iconst 0, 1) := by decide +kernel
theorem dL_flow_2 : decode cL_flow 2 = .ok (.aload_n 0, 1) := by decide +kernel
theorem dL_flow_3 : decode cL_flow 3 = .ok (.iload_n 1, 1) := by decide +kernel
theorem dL_flow_4 : decode cL_flow 4 = .ok (.invokevirtual 61, 3) := by decide +kernel
theorem dL_flow_7 : decode cL_flow 7 = .ok (.i2l, 1) := by decide +kernel
theorem dL_flow_8 : decode cL_flow 8 = .ok (.lastore, 1) := by decide +kernel
theorem dL_flow_9 : decode cL_flow 9 = .ok (.goto 6, 3) := by decide +kernel
theorem dL_flow_12 : decode cL_flow 12 = .ok (.astore_n 3, 1) := by decide +kernel
theorem dL_flow_13 : decode cL_flow 13 = .ok (.iconst 1, 1) := by decide +kernel
theorem dL_flow_14 : decode cL_flow 14 = .ok (.ireturn, 1) := by decide +kernel
theorem dL_flow_15 : decode cL_flow 15 = .ok (.iconst 0, 1) := by decide +kernel
theorem dL_flow_16 : decode cL_flow 16 = .ok (.ireturn, 1) := by decide +kernel
theorem dL_wellOf_0 : decode cL_wellOf 0 = .ok (.aload_n 3, 1) := by decide +kernel
theorem dL_wellOf_1 : decode cL_wellOf 1 = .ok (.iconst 0, 1) := by decide +kernel
theorem dL_wellOf_2 : decode cL_wellOf 2 = .ok (.aload_n 0, 1) := by decide +kernel
theorem dL_wellOf_3 : decode cL_wellOf 3 = .ok (.iload_n 1, 1) := by decide +kernel
theorem dL_wellOf_4 : decode cL_wellOf 4 = .ok (.iload_n 2, 1) := by decide +kernel
theorem dL_wellOf_5 : decode cL_wellOf 5 = .ok (.invokevirtual 64, 3) := by decide +kernel
theorem dL_wellOf_8 : decode cL_wellOf 8 = .ok (.i2l, 1) := by decide +kernel
theorem dL_wellOf_9 : decode cL_wellOf 9 = .ok (.lastore, 1) := by decide +kernel
theorem dL_wellOf_10 : decode cL_wellOf 10 = .ok (.goto 11, 3) := by decide +kernel
theorem dL_wellOf_13 : decode cL_wellOf 13 = .ok (.astore 4, 2) := by decide +kernel
theorem dL_wellOf_15 : decode cL_wellOf 15 = .ok (.iconst 1, 1) := by decide +kernel
theorem dL_wellOf_16 : decode cL_wellOf 16 = .ok (.ireturn, 1) := by decide +kernel
theorem dL_wellOf_17 : decode cL_wellOf 17 = .ok (.astore 4, 2) := by decide +kernel
theorem dL_wellOf_19 : decode cL_wellOf 19 = .ok (.iconst 2, 1) := by decide +kernel
theorem dL_wellOf_20 : decode cL_wellOf 20 = .ok (.ireturn, 1) := by decide +kernel
theorem dL_wellOf_21 : decode cL_wellOf 21 = .ok (.iconst 0, 1) := by decide +kernel
theorem dL_wellOf_22 : decode cL_wellOf 22 = .ok (.ireturn, 1) := by decide +kernel
theorem dL_lotOf_0 : decode cL_lotOf 0 = .ok (.aload_n 3, 1) := by decide +kernel
theorem dL_lotOf_1 : decode cL_lotOf 1 = .ok (.iconst 0, 1) := by decide +kernel
theorem dL_lotOf_2 : decode cL_lotOf 2 = .ok (.aload_n 0, 1) := by decide +kernel
theorem dL_lotOf_3 : decode cL_lotOf 3 = .ok (.iload_n 1, 1) := by decide +kernel
theorem dL_lotOf_4 : decode cL_lotOf 4 = .ok (.iload_n 2, 1) := by decide +kernel
theorem dL_lotOf_5 : decode cL_lotOf 5 = .ok (.invokevirtual 67, 3) := by decide +kernel
theorem dL_lotOf_8 : decode cL_lotOf 8 = .ok (.i2l, 1) := by decide +kernel
theorem dL_lotOf_9 : decode cL_lotOf 9 = .ok (.lastore, 1) := by decide +kernel
theorem dL_lotOf_10 : decode cL_lotOf 10 = .ok (.goto 11, 3) := by decide +kernel
theorem dL_lotOf_13 : decode cL_lotOf 13 = .ok (.astore 4, 2) := by decide +kernel
theorem dL_lotOf_15 : decode cL_lotOf 15 = .ok (.iconst 1, 1) := by decide +kernel
theorem dL_lotOf_16 : decode cL_lotOf 16 = .ok (.ireturn, 1) := by decide +kernel
theorem dL_lotOf_17 : decode cL_lotOf 17 = .ok (.astore 4, 2) := by decide +kernel
theorem dL_lotOf_19 : decode cL_lotOf 19 = .ok (.iconst 2, 1) := by decide +kernel
theorem dL_lotOf_20 : decode cL_lotOf 20 = .ok (.ireturn, 1) := by decide +kernel
theorem dL_lotOf_21 : decode cL_lotOf 21 = .ok (.iconst 0, 1) := by decide +kernel
theorem dL_lotOf_22 : decode cL_lotOf 22 = .ok (.ireturn, 1) := by decide +kernel
theorem dL_age_0 : decode cL_age 0 = .ok (.aload_n 2, 1) := by decide +kernel
theorem dL_age_1 : decode cL_age 1 = .ok (.iconst 0, 1) := by decide +kernel
theorem dL_age_2 : decode cL_age 2 = .ok (.aload_n 0, 1) := by decide +kernel
theorem dL_age_3 : decode cL_age 3 = .ok (.iload_n 1, 1) := by decide +kernel
theorem dL_age_4 : decode cL_age 4 = .ok (.invokevirtual 70, 3) := by decide +kernel
theorem dL_age_7 : decode cL_age 7 = .ok (.f2d, 1) := by decide +kernel
theorem dL_age_8 : decode cL_age 8 = .ok (.dastore, 1) := by decide +kernel
theorem dL_age_9 : decode cL_age 9 = .ok (.goto 6, 3) := by decide +kernel
theorem dL_age_12 : decode cL_age 12 = .ok (.astore_n 3, 1) := by decide +kernel
theorem dL_age_13 : decode cL_age 13 = .ok (.iconst 1, 1) := by decide +kernel
theorem dL_age_14 : decode cL_age 14 = .ok (.ireturn, 1) := by decide +kernel
theorem dL_age_15 : decode cL_age 15 = .ok (.iconst 0, 1) := by decide +kernel
theorem dL_age_16 : decode cL_age 16 = .ok (.ireturn, 1) := by decide +kernel
theorem dL_best_0 : decode cL_best 0 = .ok (.aload_n 2, 1) := by decide +kernel
theorem dL_best_1 : decode cL_best 1 = .ok (.iconst 0, 1) := by decide +kernel
theorem dL_best_2 : decode cL_best 2 = .ok (.aload_n 0, 1) := by decide +kernel
theorem dL_best_3 : decode cL_best 3 = .ok (.iload_n 1, 1) := by decide +kernel
theorem dL_best_4 : decode cL_best 4 = .ok (.invokevirtual 74, 3) := by decide +kernel
theorem dL_best_7 : decode cL_best 7 = .ok (.i2l, 1) := by decide +kernel
theorem dL_best_8 : decode cL_best 8 = .ok (.lastore, 1) := by decide +kernel
theorem dL_best_9 : decode cL_best 9 = .ok (.goto 6, 3) := by decide +kernel
theorem dL_best_12 : decode cL_best 12 = .ok (.astore_n 3, 1) := by decide +kernel
theorem dL_best_13 : decode cL_best 13 = .ok (.iconst 1, 1) := by decide +kernel
theorem dL_best_14 : decode cL_best 14 = .ok (.ireturn, 1) := by decide +kernel
theorem dL_best_15 : decode cL_best 15 = .ok (.iconst 0, 1) := by decide +kernel
theorem dL_best_16 : decode cL_best 16 = .ok (.ireturn, 1) := by decide +kernel
theorem dL_from_0 : decode cL_from 0 = .ok (.aload 4, 2) := by decide +kernel
theorem dL_from_2 : decode cL_from 2 = .ok (.iconst 0, 1) := by decide +kernel
theorem dL_from_3 : decode cL_from 3 = .ok (.aload_n 0, 1) := by decide +kernel
theorem dL_from_4 : decode cL_from 4 = .ok (.iload_n 1, 1) := by decide +kernel
theorem dL_from_5 : decode cL_from 5 = .ok (.iload_n 2, 1) := by decide +kernel
theorem dL_from_6 : decode cL_from 6 = .ok (.iload_n 3, 1) := by decide +kernel
theorem dL_from_7 : decode cL_from 7 = .ok (.invokevirtual 77, 3) := by decide +kernel
theorem dL_from_10 : decode cL_from 10 = .ok (.i2l, 1) := by decide +kernel
theorem dL_from_11 : decode cL_from 11 = .ok (.lastore, 1) := by decide +kernel
theorem dL_from_12 : decode cL_from 12 = .ok (.goto 7, 3) := by decide +kernel
theorem dL_from_15 : decode cL_from 15 = .ok (.astore 5, 2) := by decide +kernel
theorem dL_from_17 : decode cL_from 17 = .ok (.iconst 1, 1) := by decide +kernel
theorem dL_from_18 : decode cL_from 18 = .ok (.ireturn, 1) := by decide +kernel
theorem dL_from_19 : decode cL_from 19 = .ok (.iconst 0, 1) := by decide +kernel
theorem dL_from_20 : decode cL_from 20 = .ok (.ireturn, 1) := by decide +kernel
theorem dL_fromAnew_0 : decode cL_fromAnew 0 = .ok (.aload 4, 2) := by decide +kernel
theorem dL_fromAnew_2 : decode cL_fromAnew 2 = .ok (.iconst 0, 1) := by decide +kernel
theorem dL_fromAnew_3 : decode cL_fromAnew 3 = .ok (.aload_n 0, 1) := by decide +kernel
theorem dL_fromAnew_4 : decode cL_fromAnew 4 = .ok (.iload_n 1, 1) := by decide +kernel
theorem dL_fromAnew_5 : decode cL_fromAnew 5 = .ok (.iload_n 2, 1) := by decide +kernel
theorem dL_fromAnew_6 : decode cL_fromAnew 6 = .ok (.iload_n 3, 1) := by decide +kernel
theorem dL_fromAnew_7 : decode cL_fromAnew 7 = .ok (.invokevirtual 81, 3) := by decide +kernel
theorem dL_fromAnew_10 : decode cL_fromAnew 10 = .ok (.i2l, 1) := by decide +kernel
theorem dL_fromAnew_11 : decode cL_fromAnew 11 = .ok (.lastore, 1) := by decide +kernel
theorem dL_fromAnew_12 : decode cL_fromAnew 12 = .ok (.goto 7, 3) := by decide +kernel
theorem dL_fromAnew_15 : decode cL_fromAnew 15 = .ok (.astore 5, 2) := by decide +kernel
theorem dL_fromAnew_17 : decode cL_fromAnew 17 = .ok (.iconst 1, 1) := by decide +kernel
theorem dL_fromAnew_18 : decode cL_fromAnew 18 = .ok (.ireturn, 1) := by decide +kernel
theorem dL_fromAnew_19 : decode cL_fromAnew 19 = .ok (.iconst 0, 1) := by decide +kernel
theorem dL_fromAnew_20 : decode cL_fromAnew 20 = .ok (.ireturn, 1) := by decide +kernel
theorem dL_whence_0 : decode cL_whence 0 = .ok (.aload_n 3, 1) := by decide +kernel
theorem dL_whence_1 : decode cL_whence 1 = .ok (.iconst 0, 1) := by decide +kernel
theorem dL_whence_2 : decode cL_whence 2 = .ok (.aload_n 0, 1) := by decide +kernel
theorem dL_whence_3 : decode cL_whence 3 = .ok (.iload_n 1, 1) := by decide +kernel
theorem dL_whence_4 : decode cL_whence 4 = .ok (.iload_n 2, 1) := by decide +kernel
theorem dL_whence_5 : decode cL_whence 5 = .ok (.invokevirtual 84, 3) := by decide +kernel
theorem dL_whence_8 : decode cL_whence 8 = .ok (.i2l, 1) := by decide +kernel
theorem dL_whence_9 : decode cL_whence 9 = .ok (.lastore, 1) := by decide +kernel
theorem dL_whence_10 : decode cL_whence 10 = .ok (.goto 7, 3) := by decide +kernel
theorem dL_whence_13 : decode cL_whence 13 = .ok (.astore 4, 2) := by decide +kernel
theorem dL_whence_15 : decode cL_whence 15 = .ok (.iconst 1, 1) := by decide +kernel
theorem dL_whence_16 : decode cL_whence 16 = .ok (.ireturn, 1) := by decide +kernel
theorem dL_whence_17 : decode cL_whence 17 = .ok (.iconst 0, 1) := by decide +kernel
theorem dL_whence_18 : decode cL_whence 18 = .ok (.ireturn, 1) := by decide +kernel
theorem dL_sum_0 : decode cL_sum 0 = .ok (.aload_n 2, 1) := by decide +kernel
theorem dL_sum_1 : decode cL_sum 1 = .ok (.iconst 0, 1) := by decide +kernel
theorem dL_sum_2 : decode cL_sum 2 = .ok (.aload_n 0, 1) := by decide +kernel
theorem dL_sum_3 : decode cL_sum 3 = .ok (.iload_n 1, 1) := by decide +kernel
theorem dL_sum_4 : decode cL_sum 4 = .ok (.invokevirtual 87, 3) := by decide +kernel
theorem dL_sum_7 : decode cL_sum 7 = .ok (.lastore, 1) := by decide +kernel
theorem dL_sum_8 : decode cL_sum 8 = .ok (.goto 6, 3) := by decide +kernel
theorem dL_sum_11 : decode cL_sum 11 = .ok (.astore_n 3, 1) := by decide +kernel
theorem dL_sum_12 : decode cL_sum 12 = .ok (.iconst 1, 1) := by decide +kernel
theorem dL_sum_13 : decode cL_sum 13 = .ok (.ireturn, 1) := by decide +kernel
theorem dL_sum_14 : decode cL_sum 14 = .ok (.iconst 0, 1) := by decide +kernel
theorem dL_sum_15 : decode cL_sum 15 = .ok (.ireturn, 1) := by decide +kernel
theorem dL_law_0 : decode cL_law 0 = .ok (.new 8, 3) := by decide +kernel
theorem dL_law_3 : decode cL_law 3 = .ok (.dup, 1) := by decide +kernel
theorem dL_law_4 : decode cL_law 4 = .ok (.invokespecial 91, 3) := by decide +kernel
theorem dL_law_7 : decode cL_law 7 = .ok (.astore_n 1, 1) := by decide +kernel
theorem dL_law_8 : decode cL_law 8 = .ok (.new 92, 3) := by decide +kernel
theorem dL_law_11 : decode cL_law 11 = .ok (.dup, 1) := by decide +kernel
theorem dL_law_12 : decode cL_law 12 = .ok (.invokespecial 94, 3) := by decide +kernel
theorem dL_law_15 : decode cL_law 15 = .ok (.astore_n 2, 1) := by decide +kernel
theorem dL_law_16 : decode cL_law 16 = .ok (.iconst 1, 1) := by decide +kernel
theorem dL_law_17 : decode cL_law 17 = .ok (.newarray .long, 2) := by decide +kernel
theorem dL_law_19 : decode cL_law 19 = .ok (.astore_n 3, 1) := by decide +kernel
theorem dL_law_20 : decode cL_law 20 = .ok (.iconst 1, 1) := by decide +kernel
theorem dL_law_21 : decode cL_law 21 = .ok (.newarray .double, 2) := by decide +kernel
theorem dL_law_23 : decode cL_law 23 = .ok (.astore 4, 2) := by decide +kernel
theorem dL_law_25 : decode cL_law 25 = .ok (.iconst 0, 1) := by decide +kernel
theorem dL_law_26 : decode cL_law 26 = .ok (.istore 5, 2) := by decide +kernel
theorem dL_law_28 : decode cL_law 28 = .ok (.iload 5, 2) := by decide +kernel
theorem dL_law_30 : decode cL_law 30 = .ok (.aload_n 0, 1) := by decide +kernel
theorem dL_law_31 : decode cL_law 31 = .ok (.arraylength, 1) := by decide +kernel
theorem dL_law_32 : decode cL_law 32 = .ok (.iconst 4, 1) := by decide +kernel
theorem dL_law_33 : decode cL_law 33 = .ok (.isub, 1) := by decide +kernel
theorem dL_law_34 : decode cL_law 34 = .ok (.if_icmp .gt 1669, 3) := by decide +kernel
theorem dL_law_37 : decode cL_law 37 = .ok (.aload_n 0, 1) := by decide +kernel
theorem dL_law_38 : decode cL_law 38 = .ok (.iload 5, 2) := by decide +kernel
theorem dL_law_40 : decode cL_law 40 = .ok (.iaload, 1) := by decide +kernel
theorem dL_law_41 : decode cL_law 41 = .ok (.bipush 31, 2) := by decide +kernel
theorem dL_law_43 : decode cL_law 43 = .ok (.iand, 1) := by decide +kernel
theorem dL_law_44 : decode cL_law 44 = .ok (.tableswitch 1653 0 23 #[112, 180, 248, 316, 384, 444, 512, 580, 640, 696, 764, 832, 907, 963, 976, 1044, 1100, 1168, 1236, 1314, 1370, 1450, 1530, 1598], 112) := by decide +kernel
theorem dL_law_156 : decode cL_law 156 = .ok (.aload_n 1, 1) := by decide +kernel
theorem dL_law_157 : decode cL_law 157 = .ok (.aload_n 0, 1) := by decide +kernel
theorem dL_law_158 : decode cL_law 158 = .ok (.iload 5, 2) := by decide +kernel
theorem dL_law_160 : decode cL_law 160 = .ok (.iconst 1, 1) := by decide +kernel
theorem dL_law_161 : decode cL_law 161 = .ok (.iadd, 1) := by decide +kernel
theorem dL_law_162 : decode cL_law 162 = .ok (.iaload, 1) := by decide +kernel
theorem dL_law_163 : decode cL_law 163 = .ok (.aload_n 0, 1) := by decide +kernel
theorem dL_law_164 : decode cL_law 164 = .ok (.iload 5, 2) := by decide +kernel
theorem dL_law_166 : decode cL_law 166 = .ok (.iconst 2, 1) := by decide +kernel
theorem dL_law_167 : decode cL_law 167 = .ok (.iadd, 1) := by decide +kernel
theorem dL_law_168 : decode cL_law 168 = .ok (.iaload, 1) := by decide +kernel
theorem dL_law_169 : decode cL_law 169 = .ok (.aload_n 3, 1) := by decide +kernel
theorem dL_law_170 : decode cL_law 170 = .ok (.invokestatic 95, 3) := by decide +kernel
theorem dL_law_173 : decode cL_law 173 = .ok (.istore 6, 2) := by decide +kernel
theorem dL_law_175 : decode cL_law 175 = .ok (.aload_n 2, 1) := by decide +kernel
theorem dL_law_176 : decode cL_law 176 = .ok (.aload_n 0, 1) := by decide +kernel
theorem dL_law_177 : decode cL_law 177 = .ok (.iload 5, 2) := by decide +kernel
theorem dL_law_179 : decode cL_law 179 = .ok (.iconst 1, 1) := by decide +kernel
theorem dL_law_180 : decode cL_law 180 = .ok (.iadd, 1) := by decide +kernel
theorem dL_law_181 : decode cL_law 181 = .ok (.iaload, 1) := by decide +kernel
theorem dL_law_182 : decode cL_law 182 = .ok (.aload_n 0, 1) := by decide +kernel
theorem dL_law_183 : decode cL_law 183 = .ok (.iload 5, 2) := by decide +kernel
theorem dL_law_185 : decode cL_law 185 = .ok (.iconst 2, 1) := by decide +kernel
theorem dL_law_186 : decode cL_law 186 = .ok (.iadd, 1) := by decide +kernel
theorem dL_law_187 : decode cL_law 187 = .ok (.iaload, 1) := by decide +kernel
theorem dL_law_188 : decode cL_law 188 = .ok (.invokevirtual 100, 3) := by decide +kernel
theorem dL_law_191 : decode cL_law 191 = .ok (.istore 7, 2) := by decide +kernel
theorem dL_law_193 : decode cL_law 193 = .ok (.aload_n 2, 1) := by decide +kernel
theorem dL_law_194 : decode cL_law 194 = .ok (.invokevirtual 101, 3) := by decide +kernel
theorem dL_law_197 : decode cL_law 197 = .ok (.iload 6, 2) := by decide +kernel
theorem dL_law_199 : decode cL_law 199 = .ok (.if_icmp .eq 5, 3) := by decide +kernel
theorem dL_law_202 : decode cL_law 202 = .ok (.iconst 0, 1) := by decide +kernel
theorem dL_law_203 : decode cL_law 203 = .ok (.ireturn, 1) := by decide +kernel
theorem dL_law_204 : decode cL_law 204 = .ok (.iload 6, 2) := by decide +kernel
theorem dL_law_206 : decode cL_law 206 = .ok (.ifCond .ne 15, 3) := by decide +kernel
theorem dL_law_209 : decode cL_law 209 = .ok (.aload_n 3, 1) := by decide +kernel
theorem dL_law_210 : decode cL_law 210 = .ok (.iconst 0, 1) := by decide +kernel
theorem dL_law_211 : decode cL_law 211 = .ok (.laload, 1) := by decide +kernel
theorem dL_law_212 : decode cL_law 212 = .ok (.iload 7, 2) := by decide +kernel
theorem dL_law_214 : decode cL_law 214 = .ok (.i2l, 1) := by decide +kernel
theorem dL_law_215 : decode cL_law 215 = .ok (.lcmp, 1) := by decide +kernel
theorem dL_law_216 : decode cL_law 216 = .ok (.ifCond .eq 5, 3) := by decide +kernel
theorem dL_law_219 : decode cL_law 219 = .ok (.iconst 0, 1) := by decide +kernel
theorem dL_law_220 : decode cL_law 220 = .ok (.ireturn, 1) := by decide +kernel
theorem dL_law_221 : decode cL_law 221 = .ok (.goto 1476, 3) := by decide +kernel
theorem dL_law_224 : decode cL_law 224 = .ok (.aload_n 1, 1) := by decide +kernel
theorem dL_law_225 : decode cL_law 225 = .ok (.aload_n 0, 1) := by decide +kernel
theorem dL_law_226 : decode cL_law 226 = .ok (.iload 5, 2) := by decide +kernel
theorem dL_law_228 : decode cL_law 228 = .ok (.iconst 1, 1) := by decide +kernel
theorem dL_law_229 : decode cL_law 229 = .ok (.iadd, 1) := by decide +kernel
theorem dL_law_230 : decode cL_law 230 = .ok (.iaload, 1) := by decide +kernel
theorem dL_law_231 : decode cL_law 231 = .ok (.aload_n 0, 1) := by decide +kernel
theorem dL_law_232 : decode cL_law 232 = .ok (.iload 5, 2) := by decide +kernel
theorem dL_law_234 : decode cL_law 234 = .ok (.iconst 2, 1) := by decide +kernel
theorem dL_law_235 : decode cL_law 235 = .ok (.iadd, 1) := by decide +kernel
theorem dL_law_236 : decode cL_law 236 = .ok (.iaload, 1) := by decide +kernel
theorem dL_law_237 : decode cL_law 237 = .ok (.aload_n 3, 1) := by decide +kernel
theorem dL_law_238 : decode cL_law 238 = .ok (.invokestatic 105, 3) := by decide +kernel
theorem dL_law_241 : decode cL_law 241 = .ok (.istore 6, 2) := by decide +kernel
theorem dL_law_243 : decode cL_law 243 = .ok (.aload_n 2, 1) := by decide +kernel
theorem dL_law_244 : decode cL_law 244 = .ok (.aload_n 0, 1) := by decide +kernel
theorem dL_law_245 : decode cL_law 245 = .ok (.iload 5, 2) := by decide +kernel
theorem dL_law_247 : decode cL_law 247 = .ok (.iconst 1, 1) := by decide +kernel
theorem dL_law_248 : decode cL_law 248 = .ok (.iadd, 1) := by decide +kernel
theorem dL_law_249 : decode cL_law 249 = .ok (.iaload, 1) := by decide +kernel
theorem dL_law_250 : decode cL_law 250 = .ok (.aload_n 0, 1) := by decide +kernel
theorem dL_law_251 : decode cL_law 251 = .ok (.iload 5, 2) := by decide +kernel
theorem dL_law_253 : decode cL_law 253 = .ok (.iconst 2, 1) := by decide +kernel
theorem dL_law_254 : decode cL_law 254 = .ok (.iadd, 1) := by decide +kernel
theorem dL_law_255 : decode cL_law 255 = .ok (.iaload, 1) := by decide +kernel
theorem dL_law_256 : decode cL_law 256 = .ok (.invokevirtual 107, 3) := by decide +kernel
theorem dL_law_259 : decode cL_law 259 = .ok (.istore 7, 2) := by decide +kernel
theorem dL_law_261 : decode cL_law 261 = .ok (.aload_n 2, 1) := by decide +kernel
theorem dL_law_262 : decode cL_law 262 = .ok (.invokevirtual 101, 3) := by decide +kernel
theorem dL_law_265 : decode cL_law 265 = .ok (.iload 6, 2) := by decide +kernel
theorem dL_law_267 : decode cL_law 267 = .ok (.if_icmp .eq 5, 3) := by decide +kernel
theorem dL_law_270 : decode cL_law 270 = .ok (.iconst 0, 1) := by decide +kernel
theorem dL_law_271 : decode cL_law 271 = .ok (.ireturn, 1) := by decide +kernel
theorem dL_law_272 : decode cL_law 272 = .ok (.iload 6, 2) := by decide +kernel
theorem dL_law_274 : decode cL_law 274 = .ok (.ifCond .ne 15, 3) := by decide +kernel
theorem dL_law_277 : decode cL_law 277 = .ok (.aload_n 3, 1) := by decide +kernel
theorem dL_law_278 : decode cL_law 278 = .ok (.iconst 0, 1) := by decide +kernel
theorem dL_law_279 : decode cL_law 279 = .ok (.laload, 1) := by decide +kernel
theorem dL_law_280 : decode cL_law 280 = .ok (.iload 7, 2) := by decide +kernel
theorem dL_law_282 : decode cL_law 282 = .ok (.i2l, 1) := by decide +kernel
theorem dL_law_283 : decode cL_law 283 = .ok (.lcmp, 1) := by decide +kernel
theorem dL_law_284 : decode cL_law 284 = .ok (.ifCond .eq 5, 3) := by decide +kernel
theorem dL_law_287 : decode cL_law 287 = .ok (.iconst 0, 1) := by decide +kernel
theorem dL_law_288 : decode cL_law 288 = .ok (.ireturn, 1) := by decide +kernel
theorem dL_law_289 : decode cL_law 289 = .ok (.goto 1408, 3) := by decide +kernel
theorem dL_law_292 : decode cL_law 292 = .ok (.aload_n 1, 1) := by decide +kernel
theorem dL_law_293 : decode cL_law 293 = .ok (.aload_n 0, 1) := by decide +kernel
theorem dL_law_294 : decode cL_law 294 = .ok (.iload 5, 2) := by decide +kernel
theorem dL_law_296 : decode cL_law 296 = .ok (.iconst 1, 1) := by decide +kernel
theorem dL_law_297 : decode cL_law 297 = .ok (.iadd, 1) := by decide +kernel
theorem dL_law_298 : decode cL_law 298 = .ok (.iaload, 1) := by decide +kernel
theorem dL_law_299 : decode cL_law 299 = .ok (.aload_n 0, 1) := by decide +kernel
theorem dL_law_300 : decode cL_law 300 = .ok (.iload 5, 2) := by decide +kernel
theorem dL_law_302 : decode cL_law 302 = .ok (.iconst 2, 1) := by decide +kernel
theorem dL_law_303 : decode cL_law 303 = .ok (.iadd, 1) := by decide +kernel
theorem dL_law_304 : decode cL_law 304 = .ok (.iaload, 1) := by decide +kernel
theorem dL_law_305 : decode cL_law 305 = .ok (.aload_n 3, 1) := by decide +kernel
theorem dL_law_306 : decode cL_law 306 = .ok (.invokestatic 108, 3) := by decide +kernel
theorem dL_law_309 : decode cL_law 309 = .ok (.istore 6, 2) := by decide +kernel
theorem dL_law_311 : decode cL_law 311 = .ok (.aload_n 2, 1) := by decide +kernel
theorem dL_law_312 : decode cL_law 312 = .ok (.aload_n 0, 1) := by decide +kernel
theorem dL_law_313 : decode cL_law 313 = .ok (.iload 5, 2) := by decide +kernel
theorem dL_law_315 : decode cL_law 315 = .ok (.iconst 1, 1) := by decide +kernel
theorem dL_law_316 : decode cL_law 316 = .ok (.iadd, 1) := by decide +kernel
theorem dL_law_317 : decode cL_law 317 = .ok (.iaload, 1) := by decide +kernel
theorem dL_law_318 : decode cL_law 318 = .ok (.aload_n 0, 1) := by decide +kernel
theorem dL_law_319 : decode cL_law 319 = .ok (.iload 5, 2) := by decide +kernel
theorem dL_law_321 : decode cL_law 321 = .ok (.iconst 2, 1) := by decide +kernel
theorem dL_law_322 : decode cL_law 322 = .ok (.iadd, 1) := by decide +kernel
theorem dL_law_323 : decode cL_law 323 = .ok (.iaload, 1) := by decide +kernel
theorem dL_law_324 : decode cL_law 324 = .ok (.invokevirtual 110, 3) := by decide +kernel
theorem dL_law_327 : decode cL_law 327 = .ok (.istore 7, 2) := by decide +kernel
theorem dL_law_329 : decode cL_law 329 = .ok (.aload_n 2, 1) := by decide +kernel
theorem dL_law_330 : decode cL_law 330 = .ok (.invokevirtual 101, 3) := by decide +kernel
theorem dL_law_333 : decode cL_law 333 = .ok (.iload 6, 2) := by decide +kernel
theorem dL_law_335 : decode cL_law 335 = .ok (.if_icmp .eq 5, 3) := by decide +kernel
theorem dL_law_338 : decode cL_law 338 = .ok (.iconst 0, 1) := by decide +kernel
theorem dL_law_339 : decode cL_law 339 = .ok (.ireturn, 1) := by decide +kernel
theorem dL_law_340 : decode cL_law 340 = .ok (.iload 6, 2) := by decide +kernel
theorem dL_law_342 : decode cL_law 342 = .ok (.ifCond .ne 15, 3) := by decide +kernel
theorem dL_law_345 : decode cL_law 345 = .ok (.aload_n 3, 1) := by decide +kernel
theorem dL_law_346 : decode cL_law 346 = .ok (.iconst 0, 1) := by decide +kernel
theorem dL_law_347 : decode cL_law 347 = .ok (.laload, 1) := by decide +kernel
theorem dL_law_348 : decode cL_law 348 = .ok (.iload 7, 2) := by decide +kernel
theorem dL_law_350 : decode cL_law 350 = .ok (.i2l, 1) := by decide +kernel
theorem dL_law_351 : decode cL_law 351 = .ok (.lcmp, 1) := by decide +kernel
theorem dL_law_352 : decode cL_law 352 = .ok (.ifCond .eq 5, 3) := by decide +kernel
theorem dL_law_355 : decode cL_law 355 = .ok (.iconst 0, 1) := by decide +kernel
theorem dL_law_356 : decode cL_law 356 = .ok (.ireturn, 1) := by decide +kernel
theorem dL_law_357 : decode cL_law 357 = .ok (.goto 1340, 3) := by decide +kernel
theorem dL_law_360 : decode cL_law 360 = .ok (.aload_n 1, 1) := by decide +kernel
theorem dL_law_361 : decode cL_law 361 = .ok (.aload_n 0, 1) := by decide +kernel
theorem dL_law_362 : decode cL_law 362 = .ok (.iload 5, 2) := by decide +kernel
theorem dL_law_364 : decode cL_law 364 = .ok (.iconst 1, 1) := by decide +kernel
theorem dL_law_365 : decode cL_law 365 = .ok (.iadd, 1) := by decide +kernel
theorem dL_law_366 : decode cL_law 366 = .ok (.iaload, 1) := by decide +kernel
theorem dL_law_367 : decode cL_law 367 = .ok (.aload_n 0, 1) := by decide +kernel
theorem dL_law_368 : decode cL_law 368 = .ok (.iload 5, 2) := by decide +kernel
theorem dL_law_370 : decode cL_law 370 = .ok (.iconst 2, 1) := by decide +kernel
theorem dL_law_371 : decode cL_law 371 = .ok (.iadd, 1) := by decide +kernel
theorem dL_law_372 : decode cL_law 372 = .ok (.iaload, 1) := by decide +kernel
theorem dL_law_373 : decode cL_law 373 = .ok (.aload_n 3, 1) := by decide +kernel
theorem dL_law_374 : decode cL_law 374 = .ok (.invokestatic 111, 3) := by decide +kernel
theorem dL_law_377 : decode cL_law 377 = .ok (.istore 6, 2) := by decide +kernel
theorem dL_law_379 : decode cL_law 379 = .ok (.aload_n 2, 1) := by decide +kernel
theorem dL_law_380 : decode cL_law 380 = .ok (.aload_n 0, 1) := by decide +kernel
theorem dL_law_381 : decode cL_law 381 = .ok (.iload 5, 2) := by decide +kernel
theorem dL_law_383 : decode cL_law 383 = .ok (.iconst 1, 1) := by decide +kernel
theorem dL_law_384 : decode cL_law 384 = .ok (.iadd, 1) := by decide +kernel
theorem dL_law_385 : decode cL_law 385 = .ok (.iaload, 1) := by decide +kernel
theorem dL_law_386 : decode cL_law 386 = .ok (.aload_n 0, 1) := by decide +kernel
theorem dL_law_387 : decode cL_law 387 = .ok (.iload 5, 2) := by decide +kernel
theorem dL_law_389 : decode cL_law 389 = .ok (.iconst 2, 1) := by decide +kernel
theorem dL_law_390 : decode cL_law 390 = .ok (.iadd, 1) := by decide +kernel
theorem dL_law_391 : decode cL_law 391 = .ok (.iaload, 1) := by decide +kernel
theorem dL_law_392 : decode cL_law 392 = .ok (.invokevirtual 113, 3) := by decide +kernel
theorem dL_law_395 : decode cL_law 395 = .ok (.istore 7, 2) := by decide +kernel
theorem dL_law_397 : decode cL_law 397 = .ok (.aload_n 2, 1) := by decide +kernel
theorem dL_law_398 : decode cL_law 398 = .ok (.invokevirtual 101, 3) := by decide +kernel
theorem dL_law_401 : decode cL_law 401 = .ok (.iload 6, 2) := by decide +kernel
theorem dL_law_403 : decode cL_law 403 = .ok (.if_icmp .eq 5, 3) := by decide +kernel
theorem dL_law_406 : decode cL_law 406 = .ok (.iconst 0, 1) := by decide +kernel
theorem dL_law_407 : decode cL_law 407 = .ok (.ireturn, 1) := by decide +kernel
theorem dL_law_408 : decode cL_law 408 = .ok (.iload 6, 2) := by decide +kernel
theorem dL_law_410 : decode cL_law 410 = .ok (.ifCond .ne 15, 3) := by decide +kernel
theorem dL_law_413 : decode cL_law 413 = .ok (.aload_n 3, 1) := by decide +kernel
theorem dL_law_414 : decode cL_law 414 = .ok (.iconst 0, 1) := by decide +kernel
theorem dL_law_415 : decode cL_law 415 = .ok (.laload, 1) := by decide +kernel
theorem dL_law_416 : decode cL_law 416 = .ok (.iload 7, 2) := by decide +kernel
theorem dL_law_418 : decode cL_law 418 = .ok (.i2l, 1) := by decide +kernel
theorem dL_law_419 : decode cL_law 419 = .ok (.lcmp, 1) := by decide +kernel
theorem dL_law_420 : decode cL_law 420 = .ok (.ifCond .eq 5, 3) := by decide +kernel
theorem dL_law_423 : decode cL_law 423 = .ok (.iconst 0, 1) := by decide +kernel
theorem dL_law_424 : decode cL_law 424 = .ok (.ireturn, 1) := by decide +kernel
theorem dL_law_425 : decode cL_law 425 = .ok (.goto 1272, 3) := by decide +kernel
theorem dL_law_428 : decode cL_law 428 = .ok (.aload_n 1, 1) := by decide +kernel
theorem dL_law_429 : decode cL_law 429 = .ok (.aload_n 0, 1) := by decide +kernel
theorem dL_law_430 : decode cL_law 430 = .ok (.iload 5, 2) := by decide +kernel
theorem dL_law_432 : decode cL_law 432 = .ok (.iconst 1, 1) := by decide +kernel
theorem dL_law_433 : decode cL_law 433 = .ok (.iadd, 1) := by decide +kernel
theorem dL_law_434 : decode cL_law 434 = .ok (.iaload, 1) := by decide +kernel
theorem dL_law_435 : decode cL_law 435 = .ok (.aload_n 0, 1) := by decide +kernel
theorem dL_law_436 : decode cL_law 436 = .ok (.iload 5, 2) := by decide +kernel
theorem dL_law_438 : decode cL_law 438 = .ok (.iconst 2, 1) := by decide +kernel
theorem dL_law_439 : decode cL_law 439 = .ok (.iadd, 1) := by decide +kernel
theorem dL_law_440 : decode cL_law 440 = .ok (.iaload, 1) := by decide +kernel
theorem dL_law_441 : decode cL_law 441 = .ok (.aload_n 0, 1) := by decide +kernel
theorem dL_law_442 : decode cL_law 442 = .ok (.iload 5, 2) := by decide +kernel
theorem dL_law_444 : decode cL_law 444 = .ok (.iconst 3, 1) := by decide +kernel
theorem dL_law_445 : decode cL_law 445 = .ok (.iadd, 1) := by decide +kernel
theorem dL_law_446 : decode cL_law 446 = .ok (.iaload, 1) := by decide +kernel
theorem dL_law_447 : decode cL_law 447 = .ok (.invokestatic 114, 3) := by decide +kernel
theorem dL_law_450 : decode cL_law 450 = .ok (.istore 6, 2) := by decide +kernel
theorem dL_law_452 : decode cL_law 452 = .ok (.aload_n 2, 1) := by decide +kernel
theorem dL_law_453 : decode cL_law 453 = .ok (.aload_n 0, 1) := by decide +kernel
theorem dL_law_454 : decode cL_law 454 = .ok (.iload 5, 2) := by decide +kernel
theorem dL_law_456 : decode cL_law 456 = .ok (.iconst 1, 1) := by decide +kernel
theorem dL_law_457 : decode cL_law 457 = .ok (.iadd, 1) := by decide +kernel
theorem dL_law_458 : decode cL_law 458 = .ok (.iaload, 1) := by decide +kernel
theorem dL_law_459 : decode cL_law 459 = .ok (.aload_n 0, 1) := by decide +kernel
theorem dL_law_460 : decode cL_law 460 = .ok (.iload 5, 2) := by decide +kernel
theorem dL_law_462 : decode cL_law 462 = .ok (.iconst 2, 1) := by decide +kernel
theorem dL_law_463 : decode cL_law 463 = .ok (.iadd, 1) := by decide +kernel
theorem dL_law_464 : decode cL_law 464 = .ok (.iaload, 1) := by decide +kernel
theorem dL_law_465 : decode cL_law 465 = .ok (.aload_n 0, 1) := by decide +kernel
theorem dL_law_466 : decode cL_law 466 = .ok (.iload 5, 2) := by decide +kernel
theorem dL_law_468 : decode cL_law 468 = .ok (.iconst 3, 1) := by decide +kernel
theorem dL_law_469 : decode cL_law 469 = .ok (.iadd, 1) := by decide +kernel
theorem dL_law_470 : decode cL_law 470 = .ok (.iaload, 1) := by decide +kernel
theorem dL_law_471 : decode cL_law 471 = .ok (.invokevirtual 117, 3) := by decide +kernel
theorem dL_law_474 : decode cL_law 474 = .ok (.aload_n 2, 1) := by decide +kernel
theorem dL_law_475 : decode cL_law 475 = .ok (.invokevirtual 101, 3) := by decide +kernel
theorem dL_law_478 : decode cL_law 478 = .ok (.iload 6, 2) := by decide +kernel
theorem dL_law_480 : decode cL_law 480 = .ok (.if_icmp .eq 5, 3) := by decide +kernel
theorem dL_law_483 : decode cL_law 483 = .ok (.iconst 0, 1) := by decide +kernel
theorem dL_law_484 : decode cL_law 484 = .ok (.ireturn, 1) := by decide +kernel
theorem dL_law_485 : decode cL_law 485 = .ok (.goto 1212, 3) := by decide +kernel
theorem dL_law_488 : decode cL_law 488 = .ok (.aload_n 1, 1) := by decide +kernel
theorem dL_law_489 : decode cL_law 489 = .ok (.aload_n 0, 1) := by decide +kernel
theorem dL_law_490 : decode cL_law 490 = .ok (.iload 5, 2) := by decide +kernel
theorem dL_law_492 : decode cL_law 492 = .ok (.iconst 1, 1) := by decide +kernel
theorem dL_law_493 : decode cL_law 493 = .ok (.iadd, 1) := by decide +kernel
theorem dL_law_494 : decode cL_law 494 = .ok (.iaload, 1) := by decide +kernel
theorem dL_law_495 : decode cL_law 495 = .ok (.aload_n 0, 1) := by decide +kernel
theorem dL_law_496 : decode cL_law 496 = .ok (.iload 5, 2) := by decide +kernel
theorem dL_law_498 : decode cL_law 498 = .ok (.iconst 2, 1) := by decide +kernel
theorem dL_law_499 : decode cL_law 499 = .ok (.iadd, 1) := by decide +kernel
theorem dL_law_500 : decode cL_law 500 = .ok (.iaload, 1) := by decide +kernel
theorem dL_law_501 : decode cL_law 501 = .ok (.aload_n 3, 1) := by decide +kernel
theorem dL_law_502 : decode cL_law 502 = .ok (.invokestatic 118, 3) := by decide +kernel
theorem dL_law_505 : decode cL_law 505 = .ok (.istore 6, 2) := by decide +kernel
theorem dL_law_507 : decode cL_law 507 = .ok (.aload_n 2, 1) := by decide +kernel
theorem dL_law_508 : decode cL_law 508 = .ok (.aload_n 0, 1) := by decide +kernel
theorem dL_law_509 : decode cL_law 509 = .ok (.iload 5, 2) := by decide +kernel
theorem dL_law_511 : decode cL_law 511 = .ok (.iconst 1, 1) := by decide +kernel
theorem dL_law_512 : decode cL_law 512 = .ok (.iadd, 1) := by decide +kernel
theorem dL_law_513 : decode cL_law 513 = .ok (.iaload, 1) := by decide +kernel
theorem dL_law_514 : decode cL_law 514 = .ok (.aload_n 0, 1) := by decide +kernel
theorem dL_law_515 : decode cL_law 515 = .ok (.iload 5, 2) := by decide +kernel
theorem dL_law_517 : decode cL_law 517 = .ok (.iconst 2, 1) := by decide +kernel
theorem dL_law_518 : decode cL_law 518 = .ok (.iadd, 1) := by decide +kernel
theorem dL_law_519 : decode cL_law 519 = .ok (.iaload, 1) := by decide +kernel
theorem dL_law_520 : decode cL_law 520 = .ok (.invokevirtual 120, 3) := by decide +kernel
theorem dL_law_523 : decode cL_law 523 = .ok (.istore 7, 2) := by decide +kernel
theorem dL_law_525 : decode cL_law 525 = .ok (.aload_n 2, 1) := by decide +kernel
theorem dL_law_526 : decode cL_law 526 = .ok (.invokevirtual 101, 3) := by decide +kernel
theorem dL_law_529 : decode cL_law 529 = .ok (.iload 6, 2) := by decide +kernel
theorem dL_law_531 : decode cL_law 531 = .ok (.if_icmp .eq 5, 3) := by decide +kernel
theorem dL_law_534 : decode cL_law 534 = .ok (.iconst 0, 1) := by decide +kernel
theorem dL_law_535 : decode cL_law 535 = .ok (.ireturn, 1) := by decide +kernel
theorem dL_law_536 : decode cL_law 536 = .ok (.iload 6, 2) := by decide +kernel
theorem dL_law_538 : decode cL_law 538 = .ok (.ifCond .ne 15, 3) := by decide +kernel
theorem dL_law_541 : decode cL_law 541 = .ok (.aload_n 3, 1) := by decide +kernel
theorem dL_law_542 : decode cL_law 542 = .ok (.iconst 0, 1) := by decide +kernel
theorem dL_law_543 : decode cL_law 543 = .ok (.laload, 1) := by decide +kernel
theorem dL_law_544 : decode cL_law 544 = .ok (.iload 7, 2) := by decide +kernel
theorem dL_law_546 : decode cL_law 546 = .ok (.i2l, 1) := by decide +kernel
theorem dL_law_547 : decode cL_law 547 = .ok (.lcmp, 1) := by decide +kernel
theorem dL_law_548 : decode cL_law 548 = .ok (.ifCond .eq 5, 3) := by decide +kernel
theorem dL_law_551 : decode cL_law 551 = .ok (.iconst 0, 1) := by decide +kernel
theorem dL_law_552 : decode cL_law 552 = .ok (.ireturn, 1) := by decide +kernel
theorem dL_law_553 : decode cL_law 553 = .ok (.goto 1144, 3) := by decide +kernel
theorem dL_law_556 : decode cL_law 556 = .ok (.aload_n 1, 1) := by decide +kernel
theorem dL_law_557 : decode cL_law 557 = .ok (.aload_n 0, 1) := by decide +kernel
theorem dL_law_558 : decode cL_law 558 = .ok (.iload 5, 2) := by decide +kernel
theorem dL_law_560 : decode cL_law 560 = .ok (.iconst 1, 1) := by decide +kernel
theorem dL_law_561 : decode cL_law 561 = .ok (.iadd, 1) := by decide +kernel
theorem dL_law_562 : decode cL_law 562 = .ok (.iaload, 1) := by decide +kernel
theorem dL_law_563 : decode cL_law 563 = .ok (.aload_n 0, 1) := by decide +kernel
theorem dL_law_564 : decode cL_law 564 = .ok (.iload 5, 2) := by decide +kernel
theorem dL_law_566 : decode cL_law 566 = .ok (.iconst 2, 1) := by decide +kernel
theorem dL_law_567 : decode cL_law 567 = .ok (.iadd, 1) := by decide +kernel
theorem dL_law_568 : decode cL_law 568 = .ok (.iaload, 1) := by decide +kernel
theorem dL_law_569 : decode cL_law 569 = .ok (.aload_n 3, 1) := by decide +kernel
theorem dL_law_570 : decode cL_law 570 = .ok (.invokestatic 121, 3) := by decide +kernel
theorem dL_law_573 : decode cL_law 573 = .ok (.istore 6, 2) := by decide +kernel
theorem dL_law_575 : decode cL_law 575 = .ok (.aload_n 2, 1) := by decide +kernel
theorem dL_law_576 : decode cL_law 576 = .ok (.aload_n 0, 1) := by decide +kernel
theorem dL_law_577 : decode cL_law 577 = .ok (.iload 5, 2) := by decide +kernel
theorem dL_law_579 : decode cL_law 579 = .ok (.iconst 1, 1) := by decide +kernel
theorem dL_law_580 : decode cL_law 580 = .ok (.iadd, 1) := by decide +kernel
theorem dL_law_581 : decode cL_law 581 = .ok (.iaload, 1) := by decide +kernel
theorem dL_law_582 : decode cL_law 582 = .ok (.aload_n 0, 1) := by decide +kernel
theorem dL_law_583 : decode cL_law 583 = .ok (.iload 5, 2) := by decide +kernel
theorem dL_law_585 : decode cL_law 585 = .ok (.iconst 2, 1) := by decide +kernel
theorem dL_law_586 : decode cL_law 586 = .ok (.iadd, 1) := by decide +kernel
theorem dL_law_587 : decode cL_law 587 = .ok (.iaload, 1) := by decide +kernel
theorem dL_law_588 : decode cL_law 588 = .ok (.invokevirtual 123, 3) := by decide +kernel
theorem dL_law_591 : decode cL_law 591 = .ok (.istore 7, 2) := by decide +kernel
theorem dL_law_593 : decode cL_law 593 = .ok (.aload_n 2, 1) := by decide +kernel
theorem dL_law_594 : decode cL_law 594 = .ok (.invokevirtual 101, 3) := by decide +kernel
theorem dL_law_597 : decode cL_law 597 = .ok (.iload 6, 2) := by decide +kernel
theorem dL_law_599 : decode cL_law 599 = .ok (.if_icmp .eq 5, 3) := by decide +kernel
theorem dL_law_602 : decode cL_law 602 = .ok (.iconst 0, 1) := by decide +kernel
theorem dL_law_603 : decode cL_law 603 = .ok (.ireturn, 1) := by decide +kernel
theorem dL_law_604 : decode cL_law 604 = .ok (.iload 6, 2) := by decide +kernel
theorem dL_law_606 : decode cL_law 606 = .ok (.ifCond .ne 15, 3) := by decide +kernel
theorem dL_law_609 : decode cL_law 609 = .ok (.aload_n 3, 1) := by decide +kernel
theorem dL_law_610 : decode cL_law 610 = .ok (.iconst 0, 1) := by decide +kernel
theorem dL_law_611 : decode cL_law 611 = .ok (.laload, 1) := by decide +kernel
theorem dL_law_612 : decode cL_law 612 = .ok (.iload 7, 2) := by decide +kernel
theorem dL_law_614 : decode cL_law 614 = .ok (.i2l, 1) := by decide +kernel
theorem dL_law_615 : decode cL_law 615 = .ok (.lcmp, 1) := by decide +kernel
theorem dL_law_616 : decode cL_law 616 = .ok (.ifCond .eq 5, 3) := by decide +kernel
theorem dL_law_619 : decode cL_law 619 = .ok (.iconst 0, 1) := by decide +kernel
theorem dL_law_620 : decode cL_law 620 = .ok (.ireturn, 1) := by decide +kernel
theorem dL_law_621 : decode cL_law 621 = .ok (.goto 1076, 3) := by decide +kernel
theorem dL_law_624 : decode cL_law 624 = .ok (.aload_n 1, 1) := by decide +kernel
theorem dL_law_625 : decode cL_law 625 = .ok (.aload_n 0, 1) := by decide +kernel
theorem dL_law_626 : decode cL_law 626 = .ok (.iload 5, 2) := by decide +kernel
theorem dL_law_628 : decode cL_law 628 = .ok (.iconst 1, 1) := by decide +kernel
theorem dL_law_629 : decode cL_law 629 = .ok (.iadd, 1) := by decide +kernel
theorem dL_law_630 : decode cL_law 630 = .ok (.iaload, 1) := by decide +kernel
theorem dL_law_631 : decode cL_law 631 = .ok (.aload_n 0, 1) := by decide +kernel
theorem dL_law_632 : decode cL_law 632 = .ok (.iload 5, 2) := by decide +kernel
theorem dL_law_634 : decode cL_law 634 = .ok (.iconst 2, 1) := by decide +kernel
theorem dL_law_635 : decode cL_law 635 = .ok (.iadd, 1) := by decide +kernel
theorem dL_law_636 : decode cL_law 636 = .ok (.iaload, 1) := by decide +kernel
theorem dL_law_637 : decode cL_law 637 = .ok (.aload_n 0, 1) := by decide +kernel
theorem dL_law_638 : decode cL_law 638 = .ok (.iload 5, 2) := by decide +kernel
theorem dL_law_640 : decode cL_law 640 = .ok (.iconst 3, 1) := by decide +kernel
theorem dL_law_641 : decode cL_law 641 = .ok (.iadd, 1) := by decide +kernel
theorem dL_law_642 : decode cL_law 642 = .ok (.iaload, 1) := by decide +kernel
theorem dL_law_643 : decode cL_law 643 = .ok (.invokestatic 124, 3) := by decide +kernel
theorem dL_law_646 : decode cL_law 646 = .ok (.istore 6, 2) := by decide +kernel
theorem dL_law_648 : decode cL_law 648 = .ok (.aload_n 2, 1) := by decide +kernel
theorem dL_law_649 : decode cL_law 649 = .ok (.aload_n 0, 1) := by decide +kernel
theorem dL_law_650 : decode cL_law 650 = .ok (.iload 5, 2) := by decide +kernel
theorem dL_law_652 : decode cL_law 652 = .ok (.iconst 1, 1) := by decide +kernel
theorem dL_law_653 : decode cL_law 653 = .ok (.iadd, 1) := by decide +kernel
theorem dL_law_654 : decode cL_law 654 = .ok (.iaload, 1) := by decide +kernel
theorem dL_law_655 : decode cL_law 655 = .ok (.aload_n 0, 1) := by decide +kernel
theorem dL_law_656 : decode cL_law 656 = .ok (.iload 5, 2) := by decide +kernel
theorem dL_law_658 : decode cL_law 658 = .ok (.iconst 2, 1) := by decide +kernel
theorem dL_law_659 : decode cL_law 659 = .ok (.iadd, 1) := by decide +kernel
theorem dL_law_660 : decode cL_law 660 = .ok (.iaload, 1) := by decide +kernel
theorem dL_law_661 : decode cL_law 661 = .ok (.aload_n 0, 1) := by decide +kernel
theorem dL_law_662 : decode cL_law 662 = .ok (.iload 5, 2) := by decide +kernel
theorem dL_law_664 : decode cL_law 664 = .ok (.iconst 3, 1) := by decide +kernel
theorem dL_law_665 : decode cL_law 665 = .ok (.iadd, 1) := by decide +kernel
theorem dL_law_666 : decode cL_law 666 = .ok (.iaload, 1) := by decide +kernel
theorem dL_law_667 : decode cL_law 667 = .ok (.invokevirtual 126, 3) := by decide +kernel
theorem dL_law_670 : decode cL_law 670 = .ok (.aload_n 2, 1) := by decide +kernel
theorem dL_law_671 : decode cL_law 671 = .ok (.invokevirtual 101, 3) := by decide +kernel
theorem dL_law_674 : decode cL_law 674 = .ok (.iload 6, 2) := by decide +kernel
theorem dL_law_676 : decode cL_law 676 = .ok (.if_icmp .eq 5, 3) := by decide +kernel
theorem dL_law_679 : decode cL_law 679 = .ok (.iconst 0, 1) := by decide +kernel
theorem dL_law_680 : decode cL_law 680 = .ok (.ireturn, 1) := by decide +kernel
theorem dL_law_681 : decode cL_law 681 = .ok (.goto 1016, 3) := by decide +kernel
theorem dL_law_684 : decode cL_law 684 = .ok (.aload_n 1, 1) := by decide +kernel
theorem dL_law_685 : decode cL_law 685 = .ok (.aload_n 0, 1) := by decide +kernel
theorem dL_law_686 : decode cL_law 686 = .ok (.iload 5, 2) := by decide +kernel
theorem dL_law_688 : decode cL_law 688 = .ok (.iconst 1, 1) := by decide +kernel
theorem dL_law_689 : decode cL_law 689 = .ok (.iadd, 1) := by decide +kernel
theorem dL_law_690 : decode cL_law 690 = .ok (.iaload, 1) := by decide +kernel
theorem dL_law_691 : decode cL_law 691 = .ok (.aload_n 3, 1) := by decide +kernel
theorem dL_law_692 : decode cL_law 692 = .ok (.invokestatic 127, 3) := by decide +kernel
theorem dL_law_695 : decode cL_law 695 = .ok (.istore 6, 2) := by decide +kernel
theorem dL_law_697 : decode cL_law 697 = .ok (.aload_n 2, 1) := by decide +kernel
theorem dL_law_698 : decode cL_law 698 = .ok (.aload_n 0, 1) := by decide +kernel
theorem dL_law_699 : decode cL_law 699 = .ok (.iload 5, 2) := by decide +kernel
theorem dL_law_701 : decode cL_law 701 = .ok (.iconst 1, 1) := by decide +kernel
theorem dL_law_702 : decode cL_law 702 = .ok (.iadd, 1) := by decide +kernel
theorem dL_law_703 : decode cL_law 703 = .ok (.iaload, 1) := by decide +kernel
theorem dL_law_704 : decode cL_law 704 = .ok (.invokevirtual 130, 3) := by decide +kernel
theorem dL_law_707 : decode cL_law 707 = .ok (.istore 7, 2) := by decide +kernel
theorem dL_law_709 : decode cL_law 709 = .ok (.aload_n 2, 1) := by decide +kernel
theorem dL_law_710 : decode cL_law 710 = .ok (.invokevirtual 101, 3) := by decide +kernel
theorem dL_law_713 : decode cL_law 713 = .ok (.iload 6, 2) := by decide +kernel
theorem dL_law_715 : decode cL_law 715 = .ok (.if_icmp .eq 5, 3) := by decide +kernel
theorem dL_law_718 : decode cL_law 718 = .ok (.iconst 0, 1) := by decide +kernel
theorem dL_law_719 : decode cL_law 719 = .ok (.ireturn, 1) := by decide +kernel
theorem dL_law_720 : decode cL_law 720 = .ok (.iload 6, 2) := by decide +kernel
theorem dL_law_722 : decode cL_law 722 = .ok (.ifCond .ne 15, 3) := by decide +kernel
theorem dL_law_725 : decode cL_law 725 = .ok (.aload_n 3, 1) := by decide +kernel
theorem dL_law_726 : decode cL_law 726 = .ok (.iconst 0, 1) := by decide +kernel
theorem dL_law_727 : decode cL_law 727 = .ok (.laload, 1) := by decide +kernel
theorem dL_law_728 : decode cL_law 728 = .ok (.iload 7, 2) := by decide +kernel
theorem dL_law_730 : decode cL_law 730 = .ok (.i2l, 1) := by decide +kernel
theorem dL_law_731 : decode cL_law 731 = .ok (.lcmp, 1) := by decide +kernel
theorem dL_law_732 : decode cL_law 732 = .ok (.ifCond .eq 5, 3) := by decide +kernel
theorem dL_law_735 : decode cL_law 735 = .ok (.iconst 0, 1) := by decide +kernel
theorem dL_law_736 : decode cL_law 736 = .ok (.ireturn, 1) := by decide +kernel
theorem dL_law_737 : decode cL_law 737 = .ok (.goto 960, 3) := by decide +kernel
theorem dL_law_740 : decode cL_law 740 = .ok (.aload_n 1, 1) := by decide +kernel
theorem dL_law_741 : decode cL_law 741 = .ok (.aload_n 0, 1) := by decide +kernel
theorem dL_law_742 : decode cL_law 742 = .ok (.iload 5, 2) := by decide +kernel
theorem dL_law_744 : decode cL_law 744 = .ok (.iconst 1, 1) := by decide +kernel
theorem dL_law_745 : decode cL_law 745 = .ok (.iadd, 1) := by decide +kernel
theorem dL_law_746 : decode cL_law 746 = .ok (.iaload, 1) := by decide +kernel
theorem dL_law_747 : decode cL_law 747 = .ok (.aload_n 0, 1) := by decide +kernel
theorem dL_law_748 : decode cL_law 748 = .ok (.iload 5, 2) := by decide +kernel
theorem dL_law_750 : decode cL_law 750 = .ok (.iconst 2, 1) := by decide +kernel
theorem dL_law_751 : decode cL_law 751 = .ok (.iadd, 1) := by decide +kernel
theorem dL_law_752 : decode cL_law 752 = .ok (.iaload, 1) := by decide +kernel
theorem dL_law_753 : decode cL_law 753 = .ok (.aload_n 3, 1) := by decide +kernel
theorem dL_law_754 : decode cL_law 754 = .ok (.invokestatic 131, 3) := by decide +kernel
theorem dL_law_757 : decode cL_law 757 = .ok (.istore 6, 2) := by decide +kernel
theorem dL_law_759 : decode cL_law 759 = .ok (.aload_n 2, 1) := by decide +kernel
theorem dL_law_760 : decode cL_law 760 = .ok (.aload_n 0, 1) := by decide +kernel
theorem dL_law_761 : decode cL_law 761 = .ok (.iload 5, 2) := by decide +kernel
theorem dL_law_763 : decode cL_law 763 = .ok (.iconst 1, 1) := by decide +kernel
theorem dL_law_764 : decode cL_law 764 = .ok (.iadd, 1) := by decide +kernel
theorem dL_law_765 : decode cL_law 765 = .ok (.iaload, 1) := by decide +kernel
theorem dL_law_766 : decode cL_law 766 = .ok (.aload_n 0, 1) := by decide +kernel
theorem dL_law_767 : decode cL_law 767 = .ok (.iload 5, 2) := by decide +kernel
theorem dL_law_769 : decode cL_law 769 = .ok (.iconst 2, 1) := by decide +kernel
theorem dL_law_770 : decode cL_law 770 = .ok (.iadd, 1) := by decide +kernel
theorem dL_law_771 : decode cL_law 771 = .ok (.iaload, 1) := by decide +kernel
theorem dL_law_772 : decode cL_law 772 = .ok (.invokevirtual 133, 3) := by decide +kernel
theorem dL_law_775 : decode cL_law 775 = .ok (.istore 7, 2) := by decide +kernel
theorem dL_law_777 : decode cL_law 777 = .ok (.aload_n 2, 1) := by decide +kernel
theorem dL_law_778 : decode cL_law 778 = .ok (.invokevirtual 101, 3) := by decide +kernel
theorem dL_law_781 : decode cL_law 781 = .ok (.iload 6, 2) := by decide +kernel
theorem dL_law_783 : decode cL_law 783 = .ok (.if_icmp .eq 5, 3) := by decide +kernel
theorem dL_law_786 : decode cL_law 786 = .ok (.iconst 0, 1) := by decide +kernel
theorem dL_law_787 : decode cL_law 787 = .ok (.ireturn, 1) := by decide +kernel
theorem dL_law_788 : decode cL_law 788 = .ok (.iload 6, 2) := by decide +kernel
theorem dL_law_790 : decode cL_law 790 = .ok (.ifCond .ne 15, 3) := by decide +kernel
theorem dL_law_793 : decode cL_law 793 = .ok (.aload_n 3, 1) := by decide +kernel
theorem dL_law_794 : decode cL_law 794 = .ok (.iconst 0, 1) := by decide +kernel
theorem dL_law_795 : decode cL_law 795 = .ok (.laload, 1) := by decide +kernel
theorem dL_law_796 : decode cL_law 796 = .ok (.iload 7, 2) := by decide +kernel
theorem dL_law_798 : decode cL_law 798 = .ok (.i2l, 1) := by decide +kernel
theorem dL_law_799 : decode cL_law 799 = .ok (.lcmp, 1) := by decide +kernel
theorem dL_law_800 : decode cL_law 800 = .ok (.ifCond .eq 5, 3) := by decide +kernel
theorem dL_law_803 : decode cL_law 803 = .ok (.iconst 0, 1) := by decide +kernel
theorem dL_law_804 : decode cL_law 804 = .ok (.ireturn, 1) := by decide +kernel
theorem dL_law_805 : decode cL_law 805 = .ok (.goto 892, 3) := by decide +kernel
theorem dL_law_808 : decode cL_law 808 = .ok (.aload_n 1, 1) := by decide +kernel
theorem dL_law_809 : decode cL_law 809 = .ok (.aload_n 0, 1) := by decide +kernel
theorem dL_law_810 : decode cL_law 810 = .ok (.iload 5, 2) := by decide +kernel
theorem dL_law_812 : decode cL_law 812 = .ok (.iconst 1, 1) := by decide +kernel
theorem dL_law_813 : decode cL_law 813 = .ok (.iadd, 1) := by decide +kernel
theorem dL_law_814 : decode cL_law 814 = .ok (.iaload, 1) := by decide +kernel
theorem dL_law_815 : decode cL_law 815 = .ok (.aload_n 0, 1) := by decide +kernel
theorem dL_law_816 : decode cL_law 816 = .ok (.iload 5, 2) := by decide +kernel
theorem dL_law_818 : decode cL_law 818 = .ok (.iconst 2, 1) := by decide +kernel
theorem dL_law_819 : decode cL_law 819 = .ok (.iadd, 1) := by decide +kernel
theorem dL_law_820 : decode cL_law 820 = .ok (.iaload, 1) := by decide +kernel
theorem dL_law_821 : decode cL_law 821 = .ok (.aload_n 3, 1) := by decide +kernel
theorem dL_law_822 : decode cL_law 822 = .ok (.invokestatic 134, 3) := by decide +kernel
theorem dL_law_825 : decode cL_law 825 = .ok (.istore 6, 2) := by decide +kernel
theorem dL_law_827 : decode cL_law 827 = .ok (.aload_n 2, 1) := by decide +kernel
theorem dL_law_828 : decode cL_law 828 = .ok (.aload_n 0, 1) := by decide +kernel
theorem dL_law_829 : decode cL_law 829 = .ok (.iload 5, 2) := by decide +kernel
theorem dL_law_831 : decode cL_law 831 = .ok (.iconst 1, 1) := by decide +kernel
theorem dL_law_832 : decode cL_law 832 = .ok (.iadd, 1) := by decide +kernel
theorem dL_law_833 : decode cL_law 833 = .ok (.iaload, 1) := by decide +kernel
theorem dL_law_834 : decode cL_law 834 = .ok (.aload_n 0, 1) := by decide +kernel
theorem dL_law_835 : decode cL_law 835 = .ok (.iload 5, 2) := by decide +kernel
theorem dL_law_837 : decode cL_law 837 = .ok (.iconst 2, 1) := by decide +kernel
theorem dL_law_838 : decode cL_law 838 = .ok (.iadd, 1) := by decide +kernel
theorem dL_law_839 : decode cL_law 839 = .ok (.iaload, 1) := by decide +kernel
theorem dL_law_840 : decode cL_law 840 = .ok (.invokevirtual 136, 3) := by decide +kernel
theorem dL_law_843 : decode cL_law 843 = .ok (.istore 7, 2) := by decide +kernel
theorem dL_law_845 : decode cL_law 845 = .ok (.aload_n 2, 1) := by decide +kernel
theorem dL_law_846 : decode cL_law 846 = .ok (.invokevirtual 101, 3) := by decide +kernel
theorem dL_law_849 : decode cL_law 849 = .ok (.iload 6, 2) := by decide +kernel
theorem dL_law_851 : decode cL_law 851 = .ok (.if_icmp .eq 5, 3) := by decide +kernel
theorem dL_law_854 : decode cL_law 854 = .ok (.iconst 0, 1) := by decide +kernel
theorem dL_law_855 : decode cL_law 855 = .ok (.ireturn, 1) := by decide +kernel
theorem dL_law_856 : decode cL_law 856 = .ok (.iload 6, 2) := by decide +kernel
theorem dL_law_858 : decode cL_law 858 = .ok (.ifCond .ne 15, 3) := by decide +kernel
theorem dL_law_861 : decode cL_law 861 = .ok (.aload_n 3, 1) := by decide +kernel
theorem dL_law_862 : decode cL_law 862 = .ok (.iconst 0, 1) := by decide +kernel
theorem dL_law_863 : decode cL_law 863 = .ok (.laload, 1) := by decide +kernel
theorem dL_law_864 : decode cL_law 864 = .ok (.iload 7, 2) := by decide +kernel
theorem dL_law_866 : decode cL_law 866 = .ok (.i2l, 1) := by decide +kernel
theorem dL_law_867 : decode cL_law 867 = .ok (.lcmp, 1) := by decide +kernel
theorem dL_law_868 : decode cL_law 868 = .ok (.ifCond .eq 5, 3) := by decide +kernel
theorem dL_law_871 : decode cL_law 871 = .ok (.iconst 0, 1) := by decide +kernel
theorem dL_law_872 : decode cL_law 872 = .ok (.ireturn, 1) := by decide +kernel
theorem dL_law_873 : decode cL_law 873 = .ok (.goto 824, 3) := by decide +kernel
theorem dL_law_876 : decode cL_law 876 = .ok (.aload_n 1, 1) := by decide +kernel
theorem dL_law_877 : decode cL_law 877 = .ok (.aload_n 0, 1) := by decide +kernel
theorem dL_law_878 : decode cL_law 878 = .ok (.iload 5, 2) := by decide +kernel
theorem dL_law_880 : decode cL_law 880 = .ok (.iconst 1, 1) := by decide +kernel
theorem dL_law_881 : decode cL_law 881 = .ok (.iadd, 1) := by decide +kernel
theorem dL_law_882 : decode cL_law 882 = .ok (.iaload, 1) := by decide +kernel
theorem dL_law_883 : decode cL_law 883 = .ok (.aload_n 0, 1) := by decide +kernel
theorem dL_law_884 : decode cL_law 884 = .ok (.iload 5, 2) := by decide +kernel
theorem dL_law_886 : decode cL_law 886 = .ok (.iconst 2, 1) := by decide +kernel
theorem dL_law_887 : decode cL_law 887 = .ok (.iadd, 1) := by decide +kernel
theorem dL_law_888 : decode cL_law 888 = .ok (.iaload, 1) := by decide +kernel
theorem dL_law_889 : decode cL_law 889 = .ok (.aload_n 3, 1) := by decide +kernel
theorem dL_law_890 : decode cL_law 890 = .ok (.invokestatic 137, 3) := by decide +kernel
theorem dL_law_893 : decode cL_law 893 = .ok (.istore 6, 2) := by decide +kernel
theorem dL_law_895 : decode cL_law 895 = .ok (.aload_n 2, 1) := by decide +kernel
theorem dL_law_896 : decode cL_law 896 = .ok (.aload_n 0, 1) := by decide +kernel
theorem dL_law_897 : decode cL_law 897 = .ok (.iload 5, 2) := by decide +kernel
theorem dL_law_899 : decode cL_law 899 = .ok (.iconst 1, 1) := by decide +kernel
theorem dL_law_900 : decode cL_law 900 = .ok (.iadd, 1) := by decide +kernel
theorem dL_law_901 : decode cL_law 901 = .ok (.iaload, 1) := by decide +kernel
theorem dL_law_902 : decode cL_law 902 = .ok (.aload_n 0, 1) := by decide +kernel
theorem dL_law_903 : decode cL_law 903 = .ok (.iload 5, 2) := by decide +kernel
theorem dL_law_905 : decode cL_law 905 = .ok (.iconst 2, 1) := by decide +kernel
theorem dL_law_906 : decode cL_law 906 = .ok (.iadd, 1) := by decide +kernel
theorem dL_law_907 : decode cL_law 907 = .ok (.iaload, 1) := by decide +kernel
theorem dL_law_908 : decode cL_law 908 = .ok (.invokevirtual 139, 3) := by decide +kernel
theorem dL_law_911 : decode cL_law 911 = .ok (.istore 7, 2) := by decide +kernel
theorem dL_law_913 : decode cL_law 913 = .ok (.aload_n 2, 1) := by decide +kernel
theorem dL_law_914 : decode cL_law 914 = .ok (.invokevirtual 101, 3) := by decide +kernel
theorem dL_law_917 : decode cL_law 917 = .ok (.iload 6, 2) := by decide +kernel
theorem dL_law_919 : decode cL_law 919 = .ok (.if_icmp .eq 5, 3) := by decide +kernel
theorem dL_law_922 : decode cL_law 922 = .ok (.iconst 0, 1) := by decide +kernel
theorem dL_law_923 : decode cL_law 923 = .ok (.ireturn, 1) := by decide +kernel
theorem dL_law_924 : decode cL_law 924 = .ok (.iload 6, 2) := by decide +kernel
theorem dL_law_926 : decode cL_law 926 = .ok (.ifCond .ne 22, 3) := by decide +kernel
theorem dL_law_929 : decode cL_law 929 = .ok (.aload_n 3, 1) := by decide +kernel
theorem dL_law_930 : decode cL_law 930 = .ok (.iconst 0, 1) := by decide +kernel
theorem dL_law_931 : decode cL_law 931 = .ok (.laload, 1) := by decide +kernel
theorem dL_law_932 : decode cL_law 932 = .ok (.iload 7, 2) := by decide +kernel
theorem dL_law_934 : decode cL_law 934 = .ok (.ifCond .eq 7, 3) := by decide +kernel
theorem dL_law_937 : decode cL_law 937 = .ok (.lconst 1, 1) := by decide +kernel
theorem dL_law_938 : decode cL_law 938 = .ok (.goto 4, 3) := by decide +kernel
theorem dL_law_941 : decode cL_law 941 = .ok (.lconst 0, 1) := by decide +kernel
theorem dL_law_942 : decode cL_law 942 = .ok (.lcmp, 1) := by decide +kernel
theorem dL_law_943 : decode cL_law 943 = .ok (.ifCond .eq 5, 3) := by decide +kernel
theorem dL_law_946 : decode cL_law 946 = .ok (.iconst 0, 1) := by decide +kernel
theorem dL_law_947 : decode cL_law 947 = .ok (.ireturn, 1) := by decide +kernel
theorem dL_law_948 : decode cL_law 948 = .ok (.goto 749, 3) := by decide +kernel
theorem dL_law_951 : decode cL_law 951 = .ok (.aload_n 1, 1) := by decide +kernel
theorem dL_law_952 : decode cL_law 952 = .ok (.aload_n 0, 1) := by decide +kernel
theorem dL_law_953 : decode cL_law 953 = .ok (.iload 5, 2) := by decide +kernel
theorem dL_law_955 : decode cL_law 955 = .ok (.iconst 1, 1) := by decide +kernel
theorem dL_law_956 : decode cL_law 956 = .ok (.iadd, 1) := by decide +kernel
theorem dL_law_957 : decode cL_law 957 = .ok (.iaload, 1) := by decide +kernel
theorem dL_law_958 : decode cL_law 958 = .ok (.aload_n 3, 1) := by decide +kernel
theorem dL_law_959 : decode cL_law 959 = .ok (.invokestatic 140, 3) := by decide +kernel
theorem dL_law_962 : decode cL_law 962 = .ok (.istore 6, 2) := by decide +kernel
theorem dL_law_964 : decode cL_law 964 = .ok (.aload_n 2, 1) := by decide +kernel
theorem dL_law_965 : decode cL_law 965 = .ok (.aload_n 0, 1) := by decide +kernel
theorem dL_law_966 : decode cL_law 966 = .ok (.iload 5, 2) := by decide +kernel
theorem dL_law_968 : decode cL_law 968 = .ok (.iconst 1, 1) := by decide +kernel
theorem dL_law_969 : decode cL_law 969 = .ok (.iadd, 1) := by decide +kernel
theorem dL_law_970 : decode cL_law 970 = .ok (.iaload, 1) := by decide +kernel
theorem dL_law_971 : decode cL_law 971 = .ok (.invokevirtual 142, 3) := by decide +kernel
theorem dL_law_974 : decode cL_law 974 = .ok (.istore 7, 2) := by decide +kernel
theorem dL_law_976 : decode cL_law 976 = .ok (.aload_n 2, 1) := by decide +kernel
theorem dL_law_977 : decode cL_law 977 = .ok (.invokevirtual 101, 3) := by decide +kernel
theorem dL_law_980 : decode cL_law 980 = .ok (.iload 6, 2) := by decide +kernel
theorem dL_law_982 : decode cL_law 982 = .ok (.if_icmp .eq 5, 3) := by decide +kernel
theorem dL_law_985 : decode cL_law 985 = .ok (.iconst 0, 1) := by decide +kernel
theorem dL_law_986 : decode cL_law 986 = .ok (.ireturn, 1) := by decide +kernel
theorem dL_law_987 : decode cL_law 987 = .ok (.iload 6, 2) := by decide +kernel
theorem dL_law_989 : decode cL_law 989 = .ok (.ifCond .ne 15, 3) := by decide +kernel
theorem dL_law_992 : decode cL_law 992 = .ok (.aload_n 3, 1) := by decide +kernel
theorem dL_law_993 : decode cL_law 993 = .ok (.iconst 0, 1) := by decide +kernel
theorem dL_law_994 : decode cL_law 994 = .ok (.laload, 1) := by decide +kernel
theorem dL_law_995 : decode cL_law 995 = .ok (.iload 7, 2) := by decide +kernel
theorem dL_law_997 : decode cL_law 997 = .ok (.i2l, 1) := by decide +kernel
theorem dL_law_998 : decode cL_law 998 = .ok (.lcmp, 1) := by decide +kernel
theorem dL_law_999 : decode cL_law 999 = .ok (.ifCond .eq 5, 3) := by decide +kernel
theorem dL_law_1002 : decode cL_law 1002 = .ok (.iconst 0, 1) := by decide +kernel
theorem dL_law_1003 : decode cL_law 1003 = .ok (.ireturn, 1) := by decide +kernel
theorem dL_law_1004 : decode cL_law 1004 = .ok (.goto 693, 3) := by decide +kernel
theorem dL_law_1007 : decode cL_law 1007 = .ok (.aload_n 1, 1) := by decide +kernel
theorem dL_law_1008 : decode cL_law 1008 = .ok (.invokevirtual 143, 3) := by decide +kernel
theorem dL_law_1011 : decode cL_law 1011 = .ok (.aload_n 2, 1) := by decide +kernel
theorem dL_law_1012 : decode cL_law 1012 = .ok (.invokevirtual 146, 3) := by decide +kernel
theorem dL_law_1015 : decode cL_law 1015 = .ok (.if_icmp .eq 682, 3) := by decide +kernel
theorem dL_law_1018 : decode cL_law 1018 = .ok (.iconst 0, 1) := by decide +kernel
theorem dL_law_1019 : decode cL_law 1019 = .ok (.ireturn, 1) := by decide +kernel
theorem dL_law_1020 : decode cL_law 1020 = .ok (.aload_n 1, 1) := by decide +kernel
theorem dL_law_1021 : decode cL_law 1021 = .ok (.aload_n 0, 1) := by decide +kernel
theorem dL_law_1022 : decode cL_law 1022 = .ok (.iload 5, 2) := by decide +kernel
theorem dL_law_1024 : decode cL_law 1024 = .ok (.iconst 1, 1) := by decide +kernel
theorem dL_law_1025 : decode cL_law 1025 = .ok (.iadd, 1) := by decide +kernel
theorem dL_law_1026 : decode cL_law 1026 = .ok (.iaload, 1) := by decide +kernel
theorem dL_law_1027 : decode cL_law 1027 = .ok (.aload_n 0, 1) := by decide +kernel
theorem dL_law_1028 : decode cL_law 1028 = .ok (.iload 5, 2) := by decide +kernel
theorem dL_law_1030 : decode cL_law 1030 = .ok (.iconst 2, 1) := by decide +kernel
theorem dL_law_1031 : decode cL_law 1031 = .ok (.iadd, 1) := by decide +kernel
theorem dL_law_1032 : decode cL_law 1032 = .ok (.iaload, 1) := by decide +kernel
theorem dL_law_1033 : decode cL_law 1033 = .ok (.aload_n 3, 1) := by decide +kernel
theorem dL_law_1034 : decode cL_law 1034 = .ok (.invokestatic 147, 3) := by decide +kernel
theorem dL_law_1037 : decode cL_law 1037 = .ok (.istore 6, 2) := by decide +kernel
theorem dL_law_1039 : decode cL_law 1039 = .ok (.aload_n 2, 1) := by decide +kernel
theorem dL_law_1040 : decode cL_law 1040 = .ok (.aload_n 0, 1) := by decide +kernel
theorem dL_law_1041 : decode cL_law 1041 = .ok (.iload 5, 2) := by decide +kernel
theorem dL_law_1043 : decode cL_law 1043 = .ok (.iconst 1, 1) := by decide +kernel
theorem dL_law_1044 : decode cL_law 1044 = .ok (.iadd, 1) := by decide +kernel
theorem dL_law_1045 : decode cL_law 1045 = .ok (.iaload, 1) := by decide +kernel
theorem dL_law_1046 : decode cL_law 1046 = .ok (.aload_n 0, 1) := by decide +kernel
theorem dL_law_1047 : decode cL_law 1047 = .ok (.iload 5, 2) := by decide +kernel
theorem dL_law_1049 : decode cL_law 1049 = .ok (.iconst 2, 1) := by decide +kernel
theorem dL_law_1050 : decode cL_law 1050 = .ok (.iadd, 1) := by decide +kernel
theorem dL_law_1051 : decode cL_law 1051 = .ok (.iaload, 1) := by decide +kernel
theorem dL_law_1052 : decode cL_law 1052 = .ok (.invokevirtual 149, 3) := by decide +kernel
theorem dL_law_1055 : decode cL_law 1055 = .ok (.istore 7, 2) := by decide +kernel
theorem dL_law_1057 : decode cL_law 1057 = .ok (.aload_n 2, 1) := by decide +kernel
theorem dL_law_1058 : decode cL_law 1058 = .ok (.invokevirtual 101, 3) := by decide +kernel
theorem dL_law_1061 : decode cL_law 1061 = .ok (.iload 6, 2) := by decide +kernel
theorem dL_law_1063 : decode cL_law 1063 = .ok (.if_icmp .eq 5, 3) := by decide +kernel
theorem dL_law_1066 : decode cL_law 1066 = .ok (.iconst 0, 1) := by decide +kernel
theorem dL_law_1067 : decode cL_law 1067 = .ok (.ireturn, 1) := by decide +kernel
theorem dL_law_1068 : decode cL_law 1068 = .ok (.iload 6, 2) := by decide +kernel
theorem dL_law_1070 : decode cL_law 1070 = .ok (.ifCond .ne 15, 3) := by decide +kernel
theorem dL_law_1073 : decode cL_law 1073 = .ok (.aload_n 3, 1) := by decide +kernel
theorem dL_law_1074 : decode cL_law 1074 = .ok (.iconst 0, 1) := by decide +kernel
theorem dL_law_1075 : decode cL_law 1075 = .ok (.laload, 1) := by decide +kernel
theorem dL_law_1076 : decode cL_law 1076 = .ok (.iload 7, 2) := by decide +kernel
theorem dL_law_1078 : decode cL_law 1078 = .ok (.i2l, 1) := by decide +kernel
theorem dL_law_1079 : decode cL_law 1079 = .ok (.lcmp, 1) := by decide +kernel
theorem dL_law_1080 : decode cL_law 1080 = .ok (.ifCond .eq 5, 3) := by decide +kernel
theorem dL_law_1083 : decode cL_law 1083 = .ok (.iconst 0, 1) := by decide +kernel
theorem dL_law_1084 : decode cL_law 1084 = .ok (.ireturn, 1) := by decide +kernel
theorem dL_law_1085 : decode cL_law 1085 = .ok (.goto 612, 3) := by decide +kernel
theorem dL_law_1088 : decode cL_law 1088 = .ok (.aload_n 1, 1) := by decide +kernel
theorem dL_law_1089 : decode cL_law 1089 = .ok (.aload_n 0, 1) := by decide +kernel
theorem dL_law_1090 : decode cL_law 1090 = .ok (.iload 5, 2) := by decide +kernel
theorem dL_law_1092 : decode cL_law 1092 = .ok (.iconst 1, 1) := by decide +kernel
theorem dL_law_1093 : decode cL_law 1093 = .ok (.iadd, 1) := by decide +kernel
theorem dL_law_1094 : decode cL_law 1094 = .ok (.iaload, 1) := by decide +kernel
theorem dL_law_1095 : decode cL_law 1095 = .ok (.aload_n 3, 1) := by decide +kernel
theorem dL_law_1096 : decode cL_law 1096 = .ok (.invokestatic 150, 3) := by decide +kernel
theorem dL_law_1099 : decode cL_law 1099 = .ok (.istore 6, 2) := by decide +kernel
theorem dL_law_1101 : decode cL_law 1101 = .ok (.aload_n 2, 1) := by decide +kernel
theorem dL_law_1102 : decode cL_law 1102 = .ok (.aload_n 0, 1) := by decide +kernel
theorem dL_law_1103 : decode cL_law 1103 = .ok (.iload 5, 2) := by decide +kernel
theorem dL_law_1105 : decode cL_law 1105 = .ok (.iconst 1, 1) := by decide +kernel
theorem dL_law_1106 : decode cL_law 1106 = .ok (.iadd, 1) := by decide +kernel
theorem dL_law_1107 : decode cL_law 1107 = .ok (.iaload, 1) := by decide +kernel
theorem dL_law_1108 : decode cL_law 1108 = .ok (.invokevirtual 152, 3) := by decide +kernel
theorem dL_law_1111 : decode cL_law 1111 = .ok (.istore 7, 2) := by decide +kernel
theorem dL_law_1113 : decode cL_law 1113 = .ok (.aload_n 2, 1) := by decide +kernel
theorem dL_law_1114 : decode cL_law 1114 = .ok (.invokevirtual 101, 3) := by decide +kernel
theorem dL_law_1117 : decode cL_law 1117 = .ok (.iload 6, 2) := by decide +kernel
theorem dL_law_1119 : decode cL_law 1119 = .ok (.if_icmp .eq 5, 3) := by decide +kernel
theorem dL_law_1122 : decode cL_law 1122 = .ok (.iconst 0, 1) := by decide +kernel
theorem dL_law_1123 : decode cL_law 1123 = .ok (.ireturn, 1) := by decide +kernel
theorem dL_law_1124 : decode cL_law 1124 = .ok (.iload 6, 2) := by decide +kernel
theorem dL_law_1126 : decode cL_law 1126 = .ok (.ifCond .ne 15, 3) := by decide +kernel
theorem dL_law_1129 : decode cL_law 1129 = .ok (.aload_n 3, 1) := by decide +kernel
theorem dL_law_1130 : decode cL_law 1130 = .ok (.iconst 0, 1) := by decide +kernel
theorem dL_law_1131 : decode cL_law 1131 = .ok (.laload, 1) := by decide +kernel
theorem dL_law_1132 : decode cL_law 1132 = .ok (.iload 7, 2) := by decide +kernel
theorem dL_law_1134 : decode cL_law 1134 = .ok (.i2l, 1) := by decide +kernel
theorem dL_law_1135 : decode cL_law 1135 = .ok (.lcmp, 1) := by decide +kernel
theorem dL_law_1136 : decode cL_law 1136 = .ok (.ifCond .eq 5, 3) := by decide +kernel
theorem dL_law_1139 : decode cL_law 1139 = .ok (.iconst 0, 1) := by decide +kernel
theorem dL_law_1140 : decode cL_law 1140 = .ok (.ireturn, 1) := by decide +kernel
theorem dL_law_1141 : decode cL_law 1141 = .ok (.goto 556, 3) := by decide +kernel
theorem dL_law_1144 : decode cL_law 1144 = .ok (.aload_n 1, 1) := by decide +kernel
theorem dL_law_1145 : decode cL_law 1145 = .ok (.aload_n 0, 1) := by decide +kernel
theorem dL_law_1146 : decode cL_law 1146 = .ok (.iload 5, 2) := by decide +kernel
theorem dL_law_1148 : decode cL_law 1148 = .ok (.iconst 1, 1) := by decide +kernel
theorem dL_law_1149 : decode cL_law 1149 = .ok (.iadd, 1) := by decide +kernel
theorem dL_law_1150 : decode cL_law 1150 = .ok (.iaload, 1) := by decide +kernel
theorem dL_law_1151 : decode cL_law 1151 = .ok (.aload_n 0, 1) := by decide +kernel
theorem dL_law_1152 : decode cL_law 1152 = .ok (.iload 5, 2) := by decide +kernel
theorem dL_law_1154 : decode cL_law 1154 = .ok (.iconst 2, 1) := by decide +kernel
theorem dL_law_1155 : decode cL_law 1155 = .ok (.iadd, 1) := by decide +kernel
theorem dL_law_1156 : decode cL_law 1156 = .ok (.iaload, 1) := by decide +kernel
theorem dL_law_1157 : decode cL_law 1157 = .ok (.aload_n 3, 1) := by decide +kernel
theorem dL_law_1158 : decode cL_law 1158 = .ok (.invokestatic 153, 3) := by decide +kernel
theorem dL_law_1161 : decode cL_law 1161 = .ok (.istore 6, 2) := by decide +kernel
theorem dL_law_1163 : decode cL_law 1163 = .ok (.aload_n 2, 1) := by decide +kernel
theorem dL_law_1164 : decode cL_law 1164 = .ok (.aload_n 0, 1) := by decide +kernel
theorem dL_law_1165 : decode cL_law 1165 = .ok (.iload 5, 2) := by decide +kernel
theorem dL_law_1167 : decode cL_law 1167 = .ok (.iconst 1, 1) := by decide +kernel
theorem dL_law_1168 : decode cL_law 1168 = .ok (.iadd, 1) := by decide +kernel
theorem dL_law_1169 : decode cL_law 1169 = .ok (.iaload, 1) := by decide +kernel
theorem dL_law_1170 : decode cL_law 1170 = .ok (.aload_n 0, 1) := by decide +kernel
theorem dL_law_1171 : decode cL_law 1171 = .ok (.iload 5, 2) := by decide +kernel
theorem dL_law_1173 : decode cL_law 1173 = .ok (.iconst 2, 1) := by decide +kernel
theorem dL_law_1174 : decode cL_law 1174 = .ok (.iadd, 1) := by decide +kernel
theorem dL_law_1175 : decode cL_law 1175 = .ok (.iaload, 1) := by decide +kernel
theorem dL_law_1176 : decode cL_law 1176 = .ok (.invokevirtual 155, 3) := by decide +kernel
theorem dL_law_1179 : decode cL_law 1179 = .ok (.istore 7, 2) := by decide +kernel
theorem dL_law_1181 : decode cL_law 1181 = .ok (.aload_n 2, 1) := by decide +kernel
theorem dL_law_1182 : decode cL_law 1182 = .ok (.invokevirtual 101, 3) := by decide +kernel
theorem dL_law_1185 : decode cL_law 1185 = .ok (.iload 6, 2) := by decide +kernel
theorem dL_law_1187 : decode cL_law 1187 = .ok (.if_icmp .eq 5, 3) := by decide +kernel
theorem dL_law_1190 : decode cL_law 1190 = .ok (.iconst 0, 1) := by decide +kernel
theorem dL_law_1191 : decode cL_law 1191 = .ok (.ireturn, 1) := by decide +kernel
theorem dL_law_1192 : decode cL_law 1192 = .ok (.iload 6, 2) := by decide +kernel
theorem dL_law_1194 : decode cL_law 1194 = .ok (.ifCond .ne 15, 3) := by decide +kernel
theorem dL_law_1197 : decode cL_law 1197 = .ok (.aload_n 3, 1) := by decide +kernel
theorem dL_law_1198 : decode cL_law 1198 = .ok (.iconst 0, 1) := by decide +kernel
theorem dL_law_1199 : decode cL_law 1199 = .ok (.laload, 1) := by decide +kernel
theorem dL_law_1200 : decode cL_law 1200 = .ok (.iload 7, 2) := by decide +kernel
theorem dL_law_1202 : decode cL_law 1202 = .ok (.i2l, 1) := by decide +kernel
theorem dL_law_1203 : decode cL_law 1203 = .ok (.lcmp, 1) := by decide +kernel
theorem dL_law_1204 : decode cL_law 1204 = .ok (.ifCond .eq 5, 3) := by decide +kernel
theorem dL_law_1207 : decode cL_law 1207 = .ok (.iconst 0, 1) := by decide +kernel
theorem dL_law_1208 : decode cL_law 1208 = .ok (.ireturn, 1) := by decide +kernel
theorem dL_law_1209 : decode cL_law 1209 = .ok (.goto 488, 3) := by decide +kernel
theorem dL_law_1212 : decode cL_law 1212 = .ok (.aload_n 1, 1) := by decide +kernel
theorem dL_law_1213 : decode cL_law 1213 = .ok (.aload_n 0, 1) := by decide +kernel
theorem dL_law_1214 : decode cL_law 1214 = .ok (.iload 5, 2) := by decide +kernel
theorem dL_law_1216 : decode cL_law 1216 = .ok (.iconst 1, 1) := by decide +kernel
theorem dL_law_1217 : decode cL_law 1217 = .ok (.iadd, 1) := by decide +kernel
theorem dL_law_1218 : decode cL_law 1218 = .ok (.iaload, 1) := by decide +kernel
theorem dL_law_1219 : decode cL_law 1219 = .ok (.aload_n 0, 1) := by decide +kernel
theorem dL_law_1220 : decode cL_law 1220 = .ok (.iload 5, 2) := by decide +kernel
theorem dL_law_1222 : decode cL_law 1222 = .ok (.iconst 2, 1) := by decide +kernel
theorem dL_law_1223 : decode cL_law 1223 = .ok (.iadd, 1) := by decide +kernel
theorem dL_law_1224 : decode cL_law 1224 = .ok (.iaload, 1) := by decide +kernel
theorem dL_law_1225 : decode cL_law 1225 = .ok (.aload_n 3, 1) := by decide +kernel
theorem dL_law_1226 : decode cL_law 1226 = .ok (.invokestatic 156, 3) := by decide +kernel
theorem dL_law_1229 : decode cL_law 1229 = .ok (.istore 6, 2) := by decide +kernel
theorem dL_law_1231 : decode cL_law 1231 = .ok (.aload_n 2, 1) := by decide +kernel
theorem dL_law_1232 : decode cL_law 1232 = .ok (.aload_n 0, 1) := by decide +kernel
theorem dL_law_1233 : decode cL_law 1233 = .ok (.iload 5, 2) := by decide +kernel
theorem dL_law_1235 : decode cL_law 1235 = .ok (.iconst 1, 1) := by decide +kernel
theorem dL_law_1236 : decode cL_law 1236 = .ok (.iadd, 1) := by decide +kernel
theorem dL_law_1237 : decode cL_law 1237 = .ok (.iaload, 1) := by decide +kernel
theorem dL_law_1238 : decode cL_law 1238 = .ok (.aload_n 0, 1) := by decide +kernel
theorem dL_law_1239 : decode cL_law 1239 = .ok (.iload 5, 2) := by decide +kernel
theorem dL_law_1241 : decode cL_law 1241 = .ok (.iconst 2, 1) := by decide +kernel
theorem dL_law_1242 : decode cL_law 1242 = .ok (.iadd, 1) := by decide +kernel
theorem dL_law_1243 : decode cL_law 1243 = .ok (.iaload, 1) := by decide +kernel
theorem dL_law_1244 : decode cL_law 1244 = .ok (.invokevirtual 158, 3) := by decide +kernel
theorem dL_law_1247 : decode cL_law 1247 = .ok (.istore 7, 2) := by decide +kernel
theorem dL_law_1249 : decode cL_law 1249 = .ok (.aload_n 2, 1) := by decide +kernel
theorem dL_law_1250 : decode cL_law 1250 = .ok (.invokevirtual 101, 3) := by decide +kernel
theorem dL_law_1253 : decode cL_law 1253 = .ok (.iload 6, 2) := by decide +kernel
theorem dL_law_1255 : decode cL_law 1255 = .ok (.if_icmp .eq 5, 3) := by decide +kernel
theorem dL_law_1258 : decode cL_law 1258 = .ok (.iconst 0, 1) := by decide +kernel
theorem dL_law_1259 : decode cL_law 1259 = .ok (.ireturn, 1) := by decide +kernel
theorem dL_law_1260 : decode cL_law 1260 = .ok (.iload 6, 2) := by decide +kernel
theorem dL_law_1262 : decode cL_law 1262 = .ok (.ifCond .ne 15, 3) := by decide +kernel
theorem dL_law_1265 : decode cL_law 1265 = .ok (.aload_n 3, 1) := by decide +kernel
theorem dL_law_1266 : decode cL_law 1266 = .ok (.iconst 0, 1) := by decide +kernel
theorem dL_law_1267 : decode cL_law 1267 = .ok (.laload, 1) := by decide +kernel
theorem dL_law_1268 : decode cL_law 1268 = .ok (.iload 7, 2) := by decide +kernel
theorem dL_law_1270 : decode cL_law 1270 = .ok (.i2l, 1) := by decide +kernel
theorem dL_law_1271 : decode cL_law 1271 = .ok (.lcmp, 1) := by decide +kernel
theorem dL_law_1272 : decode cL_law 1272 = .ok (.ifCond .eq 5, 3) := by decide +kernel
theorem dL_law_1275 : decode cL_law 1275 = .ok (.iconst 0, 1) := by decide +kernel
theorem dL_law_1276 : decode cL_law 1276 = .ok (.ireturn, 1) := by decide +kernel
theorem dL_law_1277 : decode cL_law 1277 = .ok (.goto 420, 3) := by decide +kernel
theorem dL_law_1280 : decode cL_law 1280 = .ok (.aload_n 1, 1) := by decide +kernel
theorem dL_law_1281 : decode cL_law 1281 = .ok (.aload_n 0, 1) := by decide +kernel
theorem dL_law_1282 : decode cL_law 1282 = .ok (.iload 5, 2) := by decide +kernel
theorem dL_law_1284 : decode cL_law 1284 = .ok (.iconst 1, 1) := by decide +kernel
theorem dL_law_1285 : decode cL_law 1285 = .ok (.iadd, 1) := by decide +kernel
theorem dL_law_1286 : decode cL_law 1286 = .ok (.iaload, 1) := by decide +kernel
theorem dL_law_1287 : decode cL_law 1287 = .ok (.aload 4, 2) := by decide +kernel
theorem dL_law_1289 : decode cL_law 1289 = .ok (.invokestatic 159, 3) := by decide +kernel
theorem dL_law_1292 : decode cL_law 1292 = .ok (.istore 6, 2) := by decide +kernel
theorem dL_law_1294 : decode cL_law 1294 = .ok (.aload_n 2, 1) := by decide +kernel
theorem dL_law_1295 : decode cL_law 1295 = .ok (.aload_n 0, 1) := by decide +kernel
theorem dL_law_1296 : decode cL_law 1296 = .ok (.iload 5, 2) := by decide +kernel
theorem dL_law_1298 : decode cL_law 1298 = .ok (.iconst 1, 1) := by decide +kernel
theorem dL_law_1299 : decode cL_law 1299 = .ok (.iadd, 1) := by decide +kernel
theorem dL_law_1300 : decode cL_law 1300 = .ok (.iaload, 1) := by decide +kernel
theorem dL_law_1301 : decode cL_law 1301 = .ok (.invokevirtual 162, 3) := by decide +kernel
theorem dL_law_1304 : decode cL_law 1304 = .ok (.fstore 7, 2) := by decide +kernel
theorem dL_law_1306 : decode cL_law 1306 = .ok (.aload_n 2, 1) := by decide +kernel
theorem dL_law_1307 : decode cL_law 1307 = .ok (.invokevirtual 101, 3) := by decide +kernel
theorem dL_law_1310 : decode cL_law 1310 = .ok (.iload 6, 2) := by decide +kernel
theorem dL_law_1312 : decode cL_law 1312 = .ok (.if_icmp .eq 5, 3) := by decide +kernel
theorem dL_law_1315 : decode cL_law 1315 = .ok (.iconst 0, 1) := by decide +kernel
theorem dL_law_1316 : decode cL_law 1316 = .ok (.ireturn, 1) := by decide +kernel
theorem dL_law_1317 : decode cL_law 1317 = .ok (.iload 6, 2) := by decide +kernel
theorem dL_law_1319 : decode cL_law 1319 = .ok (.ifCond .ne 36, 3) := by decide +kernel
theorem dL_law_1322 : decode cL_law 1322 = .ok (.aload 4, 2) := by decide +kernel
theorem dL_law_1324 : decode cL_law 1324 = .ok (.iconst 0, 1) := by decide +kernel
theorem dL_law_1325 : decode cL_law 1325 = .ok (.daload, 1) := by decide +kernel
theorem dL_law_1326 : decode cL_law 1326 = .ok (.fload 7, 2) := by decide +kernel
theorem dL_law_1328 : decode cL_law 1328 = .ok (.f2d, 1) := by decide +kernel
theorem dL_law_1329 : decode cL_law 1329 = .ok (.dcmp .l, 1) := by decide +kernel
theorem dL_law_1330 : decode cL_law 1330 = .ok (.ifCond .eq 25, 3) := by decide +kernel
theorem dL_law_1333 : decode cL_law 1333 = .ok (.aload 4, 2) := by decide +kernel
theorem dL_law_1335 : decode cL_law 1335 = .ok (.iconst 0, 1) := by decide +kernel
theorem dL_law_1336 : decode cL_law 1336 = .ok (.daload, 1) := by decide +kernel
theorem dL_law_1337 : decode cL_law 1337 = .ok (.aload 4, 2) := by decide +kernel
theorem dL_law_1339 : decode cL_law 1339 = .ok (.iconst 0, 1) := by decide +kernel
theorem dL_law_1340 : decode cL_law 1340 = .ok (.daload, 1) := by decide +kernel
theorem dL_law_1341 : decode cL_law 1341 = .ok (.dcmp .l, 1) := by decide +kernel
theorem dL_law_1342 : decode cL_law 1342 = .ok (.ifCond .eq 11, 3) := by decide +kernel
theorem dL_law_1345 : decode cL_law 1345 = .ok (.fload 7, 2) := by decide +kernel
theorem dL_law_1347 : decode cL_law 1347 = .ok (.fload 7, 2) := by decide +kernel
theorem dL_law_1349 : decode cL_law 1349 = .ok (.fcmp .l, 1) := by decide +kernel
theorem dL_law_1350 : decode cL_law 1350 = .ok (.ifCond .ne 5, 3) := by decide +kernel
theorem dL_law_1353 : decode cL_law 1353 = .ok (.iconst 0, 1) := by decide +kernel
theorem dL_law_1354 : decode cL_law 1354 = .ok (.ireturn, 1) := by decide +kernel
theorem dL_law_1355 : decode cL_law 1355 = .ok (.goto 342, 3) := by decide +kernel
theorem dL_law_1358 : decode cL_law 1358 = .ok (.aload_n 1, 1) := by decide +kernel
theorem dL_law_1359 : decode cL_law 1359 = .ok (.aload_n 0, 1) := by decide +kernel
theorem dL_law_1360 : decode cL_law 1360 = .ok (.iload 5, 2) := by decide +kernel
theorem dL_law_1362 : decode cL_law 1362 = .ok (.iconst 1, 1) := by decide +kernel
theorem dL_law_1363 : decode cL_law 1363 = .ok (.iadd, 1) := by decide +kernel
theorem dL_law_1364 : decode cL_law 1364 = .ok (.iaload, 1) := by decide +kernel
theorem dL_law_1365 : decode cL_law 1365 = .ok (.aload_n 3, 1) := by decide +kernel
theorem dL_law_1366 : decode cL_law 1366 = .ok (.invokestatic 163, 3) := by decide +kernel
theorem dL_law_1369 : decode cL_law 1369 = .ok (.istore 6, 2) := by decide +kernel
theorem dL_law_1371 : decode cL_law 1371 = .ok (.aload_n 2, 1) := by decide +kernel
theorem dL_law_1372 : decode cL_law 1372 = .ok (.aload_n 0, 1) := by decide +kernel
theorem dL_law_1373 : decode cL_law 1373 = .ok (.iload 5, 2) := by decide +kernel
theorem dL_law_1375 : decode cL_law 1375 = .ok (.iconst 1, 1) := by decide +kernel
theorem dL_law_1376 : decode cL_law 1376 = .ok (.iadd, 1) := by decide +kernel
theorem dL_law_1377 : decode cL_law 1377 = .ok (.iaload, 1) := by decide +kernel
theorem dL_law_1378 : decode cL_law 1378 = .ok (.invokevirtual 165, 3) := by decide +kernel
theorem dL_law_1381 : decode cL_law 1381 = .ok (.istore 7, 2) := by decide +kernel
theorem dL_law_1383 : decode cL_law 1383 = .ok (.aload_n 2, 1) := by decide +kernel
theorem dL_law_1384 : decode cL_law 1384 = .ok (.invokevirtual 101, 3) := by decide +kernel
theorem dL_law_1387 : decode cL_law 1387 = .ok (.iload 6, 2) := by decide +kernel
theorem dL_law_1389 : decode cL_law 1389 = .ok (.if_icmp .eq 5, 3) := by decide +kernel
theorem dL_law_1392 : decode cL_law 1392 = .ok (.iconst 0, 1) := by decide +kernel
theorem dL_law_1393 : decode cL_law 1393 = .ok (.ireturn, 1) := by decide +kernel
theorem dL_law_1394 : decode cL_law 1394 = .ok (.iload 6, 2) := by decide +kernel
theorem dL_law_1396 : decode cL_law 1396 = .ok (.ifCond .ne 15, 3) := by decide +kernel
theorem dL_law_1399 : decode cL_law 1399 = .ok (.aload_n 3, 1) := by decide +kernel
theorem dL_law_1400 : decode cL_law 1400 = .ok (.iconst 0, 1) := by decide +kernel
theorem dL_law_1401 : decode cL_law 1401 = .ok (.laload, 1) := by decide +kernel
theorem dL_law_1402 : decode cL_law 1402 = .ok (.iload 7, 2) := by decide +kernel
theorem dL_law_1404 : decode cL_law 1404 = .ok (.i2l, 1) := by decide +kernel
theorem dL_law_1405 : decode cL_law 1405 = .ok (.lcmp, 1) := by decide +kernel
theorem dL_law_1406 : decode cL_law 1406 = .ok (.ifCond .eq 5, 3) := by decide +kernel
theorem dL_law_1409 : decode cL_law 1409 = .ok (.iconst 0, 1) := by decide +kernel
theorem dL_law_1410 : decode cL_law 1410 = .ok (.ireturn, 1) := by decide +kernel
theorem dL_law_1411 : decode cL_law 1411 = .ok (.goto 286, 3) := by decide +kernel
theorem dL_law_1414 : decode cL_law 1414 = .ok (.aload_n 1, 1) := by decide +kernel
theorem dL_law_1415 : decode cL_law 1415 = .ok (.aload_n 0, 1) := by decide +kernel
theorem dL_law_1416 : decode cL_law 1416 = .ok (.iload 5, 2) := by decide +kernel
theorem dL_law_1418 : decode cL_law 1418 = .ok (.iconst 1, 1) := by decide +kernel
theorem dL_law_1419 : decode cL_law 1419 = .ok (.iadd, 1) := by decide +kernel
theorem dL_law_1420 : decode cL_law 1420 = .ok (.iaload, 1) := by decide +kernel
theorem dL_law_1421 : decode cL_law 1421 = .ok (.aload_n 0, 1) := by decide +kernel
theorem dL_law_1422 : decode cL_law 1422 = .ok (.iload 5, 2) := by decide +kernel
theorem dL_law_1424 : decode cL_law 1424 = .ok (.iconst 2, 1) := by decide +kernel
theorem dL_law_1425 : decode cL_law 1425 = .ok (.iadd, 1) := by decide +kernel
theorem dL_law_1426 : decode cL_law 1426 = .ok (.iaload, 1) := by decide +kernel
theorem dL_law_1427 : decode cL_law 1427 = .ok (.aload_n 0, 1) := by decide +kernel
theorem dL_law_1428 : decode cL_law 1428 = .ok (.iload 5, 2) := by decide +kernel
theorem dL_law_1430 : decode cL_law 1430 = .ok (.iconst 3, 1) := by decide +kernel
theorem dL_law_1431 : decode cL_law 1431 = .ok (.iadd, 1) := by decide +kernel
theorem dL_law_1432 : decode cL_law 1432 = .ok (.iaload, 1) := by decide +kernel
theorem dL_law_1433 : decode cL_law 1433 = .ok (.aload_n 3, 1) := by decide +kernel
theorem dL_law_1434 : decode cL_law 1434 = .ok (.invokestatic 166, 3) := by decide +kernel
theorem dL_law_1437 : decode cL_law 1437 = .ok (.istore 6, 2) := by decide +kernel
theorem dL_law_1439 : decode cL_law 1439 = .ok (.aload_n 2, 1) := by decide +kernel
theorem dL_law_1440 : decode cL_law 1440 = .ok (.aload_n 0, 1) := by decide +kernel
theorem dL_law_1441 : decode cL_law 1441 = .ok (.iload 5, 2) := by decide +kernel
theorem dL_law_1443 : decode cL_law 1443 = .ok (.iconst 1, 1) := by decide +kernel
theorem dL_law_1444 : decode cL_law 1444 = .ok (.iadd, 1) := by decide +kernel
theorem dL_law_1445 : decode cL_law 1445 = .ok (.iaload, 1) := by decide +kernel
theorem dL_law_1446 : decode cL_law 1446 = .ok (.aload_n 0, 1) := by decide +kernel
theorem dL_law_1447 : decode cL_law 1447 = .ok (.iload 5, 2) := by decide +kernel
theorem dL_law_1449 : decode cL_law 1449 = .ok (.iconst 2, 1) := by decide +kernel
theorem dL_law_1450 : decode cL_law 1450 = .ok (.iadd, 1) := by decide +kernel
theorem dL_law_1451 : decode cL_law 1451 = .ok (.iaload, 1) := by decide +kernel
theorem dL_law_1452 : decode cL_law 1452 = .ok (.aload_n 0, 1) := by decide +kernel
theorem dL_law_1453 : decode cL_law 1453 = .ok (.iload 5, 2) := by decide +kernel
theorem dL_law_1455 : decode cL_law 1455 = .ok (.iconst 3, 1) := by decide +kernel
theorem dL_law_1456 : decode cL_law 1456 = .ok (.iadd, 1) := by decide +kernel
theorem dL_law_1457 : decode cL_law 1457 = .ok (.iaload, 1) := by decide +kernel
theorem dL_law_1458 : decode cL_law 1458 = .ok (.invokevirtual 169, 3) := by decide +kernel
theorem dL_law_1461 : decode cL_law 1461 = .ok (.istore 7, 2) := by decide +kernel
theorem dL_law_1463 : decode cL_law 1463 = .ok (.aload_n 2, 1) := by decide +kernel
theorem dL_law_1464 : decode cL_law 1464 = .ok (.invokevirtual 101, 3) := by decide +kernel
theorem dL_law_1467 : decode cL_law 1467 = .ok (.iload 6, 2) := by decide +kernel
theorem dL_law_1469 : decode cL_law 1469 = .ok (.if_icmp .eq 5, 3) := by decide +kernel
theorem dL_law_1472 : decode cL_law 1472 = .ok (.iconst 0, 1) := by decide +kernel
theorem dL_law_1473 : decode cL_law 1473 = .ok (.ireturn, 1) := by decide +kernel
theorem dL_law_1474 : decode cL_law 1474 = .ok (.iload 6, 2) := by decide +kernel
theorem dL_law_1476 : decode cL_law 1476 = .ok (.ifCond .ne 15, 3) := by decide +kernel
theorem dL_law_1479 : decode cL_law 1479 = .ok (.aload_n 3, 1) := by decide +kernel
theorem dL_law_1480 : decode cL_law 1480 = .ok (.iconst 0, 1) := by decide +kernel
theorem dL_law_1481 : decode cL_law 1481 = .ok (.laload, 1) := by decide +kernel
theorem dL_law_1482 : decode cL_law 1482 = .ok (.iload 7, 2) := by decide +kernel
theorem dL_law_1484 : decode cL_law 1484 = .ok (.i2l, 1) := by decide +kernel
theorem dL_law_1485 : decode cL_law 1485 = .ok (.lcmp, 1) := by decide +kernel
theorem dL_law_1486 : decode cL_law 1486 = .ok (.ifCond .eq 5, 3) := by decide +kernel
theorem dL_law_1489 : decode cL_law 1489 = .ok (.iconst 0, 1) := by decide +kernel
theorem dL_law_1490 : decode cL_law 1490 = .ok (.ireturn, 1) := by decide +kernel
theorem dL_law_1491 : decode cL_law 1491 = .ok (.goto 206, 3) := by decide +kernel
theorem dL_law_1494 : decode cL_law 1494 = .ok (.aload_n 1, 1) := by decide +kernel
theorem dL_law_1495 : decode cL_law 1495 = .ok (.aload_n 0, 1) := by decide +kernel
theorem dL_law_1496 : decode cL_law 1496 = .ok (.iload 5, 2) := by decide +kernel
theorem dL_law_1498 : decode cL_law 1498 = .ok (.iconst 1, 1) := by decide +kernel
theorem dL_law_1499 : decode cL_law 1499 = .ok (.iadd, 1) := by decide +kernel
theorem dL_law_1500 : decode cL_law 1500 = .ok (.iaload, 1) := by decide +kernel
theorem dL_law_1501 : decode cL_law 1501 = .ok (.aload_n 0, 1) := by decide +kernel
theorem dL_law_1502 : decode cL_law 1502 = .ok (.iload 5, 2) := by decide +kernel
theorem dL_law_1504 : decode cL_law 1504 = .ok (.iconst 2, 1) := by decide +kernel
theorem dL_law_1505 : decode cL_law 1505 = .ok (.iadd, 1) := by decide +kernel
theorem dL_law_1506 : decode cL_law 1506 = .ok (.iaload, 1) := by decide +kernel
theorem dL_law_1507 : decode cL_law 1507 = .ok (.aload_n 0, 1) := by decide +kernel
theorem dL_law_1508 : decode cL_law 1508 = .ok (.iload 5, 2) := by decide +kernel
theorem dL_law_1510 : decode cL_law 1510 = .ok (.iconst 3, 1) := by decide +kernel
theorem dL_law_1511 : decode cL_law 1511 = .ok (.iadd, 1) := by decide +kernel
theorem dL_law_1512 : decode cL_law 1512 = .ok (.iaload, 1) := by decide +kernel
theorem dL_law_1513 : decode cL_law 1513 = .ok (.aload_n 3, 1) := by decide +kernel
theorem dL_law_1514 : decode cL_law 1514 = .ok (.invokestatic 170, 3) := by decide +kernel
theorem dL_law_1517 : decode cL_law 1517 = .ok (.istore 6, 2) := by decide +kernel
theorem dL_law_1519 : decode cL_law 1519 = .ok (.aload_n 2, 1) := by decide +kernel
theorem dL_law_1520 : decode cL_law 1520 = .ok (.aload_n 0, 1) := by decide +kernel
theorem dL_law_1521 : decode cL_law 1521 = .ok (.iload 5, 2) := by decide +kernel
theorem dL_law_1523 : decode cL_law 1523 = .ok (.iconst 1, 1) := by decide +kernel
theorem dL_law_1524 : decode cL_law 1524 = .ok (.iadd, 1) := by decide +kernel
theorem dL_law_1525 : decode cL_law 1525 = .ok (.iaload, 1) := by decide +kernel
theorem dL_law_1526 : decode cL_law 1526 = .ok (.aload_n 0, 1) := by decide +kernel
theorem dL_law_1527 : decode cL_law 1527 = .ok (.iload 5, 2) := by decide +kernel
theorem dL_law_1529 : decode cL_law 1529 = .ok (.iconst 2, 1) := by decide +kernel
theorem dL_law_1530 : decode cL_law 1530 = .ok (.iadd, 1) := by decide +kernel
theorem dL_law_1531 : decode cL_law 1531 = .ok (.iaload, 1) := by decide +kernel
theorem dL_law_1532 : decode cL_law 1532 = .ok (.aload_n 0, 1) := by decide +kernel
theorem dL_law_1533 : decode cL_law 1533 = .ok (.iload 5, 2) := by decide +kernel
theorem dL_law_1535 : decode cL_law 1535 = .ok (.iconst 3, 1) := by decide +kernel
theorem dL_law_1536 : decode cL_law 1536 = .ok (.iadd, 1) := by decide +kernel
theorem dL_law_1537 : decode cL_law 1537 = .ok (.iaload, 1) := by decide +kernel
theorem dL_law_1538 : decode cL_law 1538 = .ok (.invokevirtual 172, 3) := by decide +kernel
theorem dL_law_1541 : decode cL_law 1541 = .ok (.istore 7, 2) := by decide +kernel
theorem dL_law_1543 : decode cL_law 1543 = .ok (.aload_n 2, 1) := by decide +kernel
theorem dL_law_1544 : decode cL_law 1544 = .ok (.invokevirtual 101, 3) := by decide +kernel
theorem dL_law_1547 : decode cL_law 1547 = .ok (.iload 6, 2) := by decide +kernel
theorem dL_law_1549 : decode cL_law 1549 = .ok (.if_icmp .eq 5, 3) := by decide +kernel
theorem dL_law_1552 : decode cL_law 1552 = .ok (.iconst 0, 1) := by decide +kernel
theorem dL_law_1553 : decode cL_law 1553 = .ok (.ireturn, 1) := by decide +kernel
theorem dL_law_1554 : decode cL_law 1554 = .ok (.iload 6, 2) := by decide +kernel
theorem dL_law_1556 : decode cL_law 1556 = .ok (.ifCond .ne 15, 3) := by decide +kernel
theorem dL_law_1559 : decode cL_law 1559 = .ok (.aload_n 3, 1) := by decide +kernel
theorem dL_law_1560 : decode cL_law 1560 = .ok (.iconst 0, 1) := by decide +kernel
theorem dL_law_1561 : decode cL_law 1561 = .ok (.laload, 1) := by decide +kernel
theorem dL_law_1562 : decode cL_law 1562 = .ok (.iload 7, 2) := by decide +kernel
theorem dL_law_1564 : decode cL_law 1564 = .ok (.i2l, 1) := by decide +kernel
theorem dL_law_1565 : decode cL_law 1565 = .ok (.lcmp, 1) := by decide +kernel
theorem dL_law_1566 : decode cL_law 1566 = .ok (.ifCond .eq 5, 3) := by decide +kernel
theorem dL_law_1569 : decode cL_law 1569 = .ok (.iconst 0, 1) := by decide +kernel
theorem dL_law_1570 : decode cL_law 1570 = .ok (.ireturn, 1) := by decide +kernel
theorem dL_law_1571 : decode cL_law 1571 = .ok (.goto 126, 3) := by decide +kernel
theorem dL_law_1574 : decode cL_law 1574 = .ok (.aload_n 1, 1) := by decide +kernel
theorem dL_law_1575 : decode cL_law 1575 = .ok (.aload_n 0, 1) := by decide +kernel
theorem dL_law_1576 : decode cL_law 1576 = .ok (.iload 5, 2) := by decide +kernel
theorem dL_law_1578 : decode cL_law 1578 = .ok (.iconst 1, 1) := by decide +kernel
theorem dL_law_1579 : decode cL_law 1579 = .ok (.iadd, 1) := by decide +kernel
theorem dL_law_1580 : decode cL_law 1580 = .ok (.iaload, 1) := by decide +kernel
theorem dL_law_1581 : decode cL_law 1581 = .ok (.aload_n 0, 1) := by decide +kernel
theorem dL_law_1582 : decode cL_law 1582 = .ok (.iload 5, 2) := by decide +kernel
theorem dL_law_1584 : decode cL_law 1584 = .ok (.iconst 2, 1) := by decide +kernel
theorem dL_law_1585 : decode cL_law 1585 = .ok (.iadd, 1) := by decide +kernel
theorem dL_law_1586 : decode cL_law 1586 = .ok (.iaload, 1) := by decide +kernel
theorem dL_law_1587 : decode cL_law 1587 = .ok (.aload_n 3, 1) := by decide +kernel
theorem dL_law_1588 : decode cL_law 1588 = .ok (.invokestatic 173, 3) := by decide +kernel
theorem dL_law_1591 : decode cL_law 1591 = .ok (.istore 6, 2) := by decide +kernel
theorem dL_law_1593 : decode cL_law 1593 = .ok (.aload_n 2, 1) := by decide +kernel
theorem dL_law_1594 : decode cL_law 1594 = .ok (.aload_n 0, 1) := by decide +kernel
theorem dL_law_1595 : decode cL_law 1595 = .ok (.iload 5, 2) := by decide +kernel
theorem dL_law_1597 : decode cL_law 1597 = .ok (.iconst 1, 1) := by decide +kernel
theorem dL_law_1598 : decode cL_law 1598 = .ok (.iadd, 1) := by decide +kernel
theorem dL_law_1599 : decode cL_law 1599 = .ok (.iaload, 1) := by decide +kernel
theorem dL_law_1600 : decode cL_law 1600 = .ok (.aload_n 0, 1) := by decide +kernel
theorem dL_law_1601 : decode cL_law 1601 = .ok (.iload 5, 2) := by decide +kernel
theorem dL_law_1603 : decode cL_law 1603 = .ok (.iconst 2, 1) := by decide +kernel
theorem dL_law_1604 : decode cL_law 1604 = .ok (.iadd, 1) := by decide +kernel
theorem dL_law_1605 : decode cL_law 1605 = .ok (.iaload, 1) := by decide +kernel
theorem dL_law_1606 : decode cL_law 1606 = .ok (.invokevirtual 175, 3) := by decide +kernel
theorem dL_law_1609 : decode cL_law 1609 = .ok (.istore 7, 2) := by decide +kernel
theorem dL_law_1611 : decode cL_law 1611 = .ok (.aload_n 2, 1) := by decide +kernel
theorem dL_law_1612 : decode cL_law 1612 = .ok (.invokevirtual 101, 3) := by decide +kernel
theorem dL_law_1615 : decode cL_law 1615 = .ok (.iload 6, 2) := by decide +kernel
theorem dL_law_1617 : decode cL_law 1617 = .ok (.if_icmp .eq 5, 3) := by decide +kernel
theorem dL_law_1620 : decode cL_law 1620 = .ok (.iconst 0, 1) := by decide +kernel
theorem dL_law_1621 : decode cL_law 1621 = .ok (.ireturn, 1) := by decide +kernel
theorem dL_law_1622 : decode cL_law 1622 = .ok (.iload 6, 2) := by decide +kernel
theorem dL_law_1624 : decode cL_law 1624 = .ok (.ifCond .ne 15, 3) := by decide +kernel
theorem dL_law_1627 : decode cL_law 1627 = .ok (.aload_n 3, 1) := by decide +kernel
theorem dL_law_1628 : decode cL_law 1628 = .ok (.iconst 0, 1) := by decide +kernel
theorem dL_law_1629 : decode cL_law 1629 = .ok (.laload, 1) := by decide +kernel
theorem dL_law_1630 : decode cL_law 1630 = .ok (.iload 7, 2) := by decide +kernel
theorem dL_law_1632 : decode cL_law 1632 = .ok (.i2l, 1) := by decide +kernel
theorem dL_law_1633 : decode cL_law 1633 = .ok (.lcmp, 1) := by decide +kernel
theorem dL_law_1634 : decode cL_law 1634 = .ok (.ifCond .eq 5, 3) := by decide +kernel
theorem dL_law_1637 : decode cL_law 1637 = .ok (.iconst 0, 1) := by decide +kernel
theorem dL_law_1638 : decode cL_law 1638 = .ok (.ireturn, 1) := by decide +kernel
theorem dL_law_1639 : decode cL_law 1639 = .ok (.goto 58, 3) := by decide +kernel
theorem dL_law_1642 : decode cL_law 1642 = .ok (.aload_n 1, 1) := by decide +kernel
theorem dL_law_1643 : decode cL_law 1643 = .ok (.aload_n 0, 1) := by decide +kernel
theorem dL_law_1644 : decode cL_law 1644 = .ok (.iload 5, 2) := by decide +kernel
theorem dL_law_1646 : decode cL_law 1646 = .ok (.iconst 1, 1) := by decide +kernel
theorem dL_law_1647 : decode cL_law 1647 = .ok (.iadd, 1) := by decide +kernel
theorem dL_law_1648 : decode cL_law 1648 = .ok (.iaload, 1) := by decide +kernel
theorem dL_law_1649 : decode cL_law 1649 = .ok (.aload_n 3, 1) := by decide +kernel
theorem dL_law_1650 : decode cL_law 1650 = .ok (.invokestatic 176, 3) := by decide +kernel
theorem dL_law_1653 : decode cL_law 1653 = .ok (.istore 6, 2) := by decide +kernel
theorem dL_law_1655 : decode cL_law 1655 = .ok (.aload_n 2, 1) := by decide +kernel
theorem dL_law_1656 : decode cL_law 1656 = .ok (.aload_n 0, 1) := by decide +kernel
theorem dL_law_1657 : decode cL_law 1657 = .ok (.iload 5, 2) := by decide +kernel
theorem dL_law_1659 : decode cL_law 1659 = .ok (.iconst 1, 1) := by decide +kernel
theorem dL_law_1660 : decode cL_law 1660 = .ok (.iadd, 1) := by decide +kernel
theorem dL_law_1661 : decode cL_law 1661 = .ok (.iaload, 1) := by decide +kernel
theorem dL_law_1662 : decode cL_law 1662 = .ok (.invokevirtual 178, 3) := by decide +kernel
theorem dL_law_1665 : decode cL_law 1665 = .ok (.lstore 7, 2) := by decide +kernel
theorem dL_law_1667 : decode cL_law 1667 = .ok (.aload_n 2, 1) := by decide +kernel
theorem dL_law_1668 : decode cL_law 1668 = .ok (.invokevirtual 101, 3) := by decide +kernel
theorem dL_law_1671 : decode cL_law 1671 = .ok (.iload 6, 2) := by decide +kernel
theorem dL_law_1673 : decode cL_law 1673 = .ok (.if_icmp .eq 5, 3) := by decide +kernel
theorem dL_law_1676 : decode cL_law 1676 = .ok (.iconst 0, 1) := by decide +kernel
theorem dL_law_1677 : decode cL_law 1677 = .ok (.ireturn, 1) := by decide +kernel
theorem dL_law_1678 : decode cL_law 1678 = .ok (.iload 6, 2) := by decide +kernel
theorem dL_law_1680 : decode cL_law 1680 = .ok (.ifCond .ne 14, 3) := by decide +kernel
theorem dL_law_1683 : decode cL_law 1683 = .ok (.aload_n 3, 1) := by decide +kernel
theorem dL_law_1684 : decode cL_law 1684 = .ok (.iconst 0, 1) := by decide +kernel
theorem dL_law_1685 : decode cL_law 1685 = .ok (.laload, 1) := by decide +kernel
theorem dL_law_1686 : decode cL_law 1686 = .ok (.lload 7, 2) := by decide +kernel
theorem dL_law_1688 : decode cL_law 1688 = .ok (.lcmp, 1) := by decide +kernel
theorem dL_law_1689 : decode cL_law 1689 = .ok (.ifCond .eq 5, 3) := by decide +kernel
theorem dL_law_1692 : decode cL_law 1692 = .ok (.iconst 0, 1) := by decide +kernel
theorem dL_law_1693 : decode cL_law 1693 = .ok (.ireturn, 1) := by decide +kernel
theorem dL_law_1694 : decode cL_law 1694 = .ok (.goto 3, 3) := by decide +kernel
theorem dL_law_1697 : decode cL_law 1697 = .ok (.iinc 5 4, 3) := by decide +kernel
theorem dL_law_1700 : decode cL_law 1700 = .ok (.goto (-1672), 3) := by decide +kernel
theorem dL_law_1703 : decode cL_law 1703 = .ok (.iconst 1, 1) := by decide +kernel
theorem dL_law_1704 : decode cL_law 1704 = .ok (.ireturn, 1) := by decide +kernel
end
section
/-- the words that travel: one list for every method -/
def TB : List Cond := lw_tbl.filter goodWord
theorem tb_i {w : Cond} (i : Nat) (h : lw_tbl[i]? = some w) (g : goodWord w = true) : w ∈ TB := List.mem_filter.mpr ⟨List.mem_of_getElem? h, g⟩
theorem tb_good : GoodIn TB TB := goodIn_sub (fun _ h => h) (List.all_eq_true.mpr fun w h => (List.mem_filter.mp h).2)
theorem tb_hts {args : Array Value} {s : State} (h : ∀ w ∈ lw_tbl, w.before args s = true) : ∀ w ∈ TB, w.before args s = true := fun w hw => h w (List.mem_filter.mp hw).1
/-- the words that are warmed one kind by one kind -/
def kCND (w : Cond) : Bool := match w with
  | .castable _ _ => true
  | .declares _ => true
  | .methodLinkNest _ _ _ _ => true
  | _ => false
def TN : List Cond := lw_tbl.filter kCND
theorem tn_i {w : Cond} (i : Nat) (h : lw_tbl[i]? = some w) (g : kCND w = true) : w ∈ TN := List.mem_filter.mpr ⟨List.mem_of_getElem? h, g⟩
theorem qw0 : Cond.selects RX9 yX9_cellAt yX9_cellAt ∈ TB := tb_i 0 (by decide +kernel) (by decide +kernel)
theorem qw2 : Cond.selects RX9 yX9_passOne yX9_passOne ∈ TB := tb_i 2 (by decide +kernel) (by decide +kernel)
theorem qw3 : Cond.selects RX9 yX9_leadOn yX9_leadOn ∈ TB := tb_i 3 (by decide +kernel) (by decide +kernel)
theorem qw4 : Cond.selects RX9 yX9_rainOn yX9_rainOn ∈ TB := tb_i 4 (by decide +kernel) (by decide +kernel)
theorem qw5 : Cond.selects RX0 yX0_nitrateOfRain yX0_nitrateOfRain ∈ TB := tb_i 5 (by decide +kernel) (by decide +kernel)
theorem qw6 : Cond.selects RX9 yX9_payContracts yX9_payContracts ∈ TB := tb_i 6 (by decide +kernel) (by decide +kernel)
theorem qw7 : Cond.selects RX9 yX9_wellAt yX9_wellAt ∈ TB := tb_i 7 (by decide +kernel) (by decide +kernel)
theorem qw8 : Cond.selects RX9 yX9_mayTakeStill yX9_mayTakeStill ∈ TB := tb_i 8 (by decide +kernel) (by decide +kernel)
theorem qw9 : Cond.selects RX9 yX9_lotAt yX9_lotAt ∈ TB := tb_i 9 (by decide +kernel) (by decide +kernel)
theorem qw10 : Cond.selects RX2 yX2_hasAtMost yX2_hasAtMost ∈ TB := tb_i 10 (by decide +kernel) (by decide +kernel)
theorem qw11 : Cond.selects RX1 yX1_emptyTanks yX1_emptyTanks ∈ TB := tb_i 11 (by decide +kernel) (by decide +kernel)
theorem qw12 : Cond.selects RX1 yX1_putAway yX1_putAway ∈ TB := tb_i 12 (by decide +kernel) (by decide +kernel)
theorem qw13 : Cond.selects RX1 yX1_rainAgain yX1_rainAgain ∈ TB := tb_i 13 (by decide +kernel) (by decide +kernel)
theorem qw14 : Cond.selects RX1 yX1_newPiece yX1_newPiece ∈ TB := tb_i 14 (by decide +kernel) (by decide +kernel)
theorem qw15 : Cond.selects RX1 yX1_moveAgain yX1_moveAgain ∈ TB := tb_i 15 (by decide +kernel) (by decide +kernel)
theorem qw16 : Cond.selects RX1 yX1_tankAt yX1_tankAt ∈ TB := tb_i 16 (by decide +kernel) (by decide +kernel)
theorem qw17 : Cond.selects RX1 yX1_cut yX1_cut ∈ TB := tb_i 17 (by decide +kernel) (by decide +kernel)
theorem qw18 : Cond.selects RX9 yX9_unitsInCells yX9_unitsInCells ∈ TB := tb_i 18 (by decide +kernel) (by decide +kernel)
theorem qw19 : Cond.selects RX9 yX9_unitsBottled yX9_unitsBottled ∈ TB := tb_i 19 (by decide +kernel) (by decide +kernel)
theorem qw20 : Cond.selects RX9 yX9_falseLabels yX9_falseLabels ∈ TB := tb_i 20 (by decide +kernel) (by decide +kernel)
theorem qw21 : Cond.selects RX10 yX10_can yX10_can ∈ TB := tb_i 21 (by decide +kernel) (by decide +kernel)
theorem qw22 : Cond.selects RX10 yX10_travel yX10_travel ∈ TB := tb_i 22 (by decide +kernel) (by decide +kernel)
theorem qw23 : Cond.selects RX10 yX10_passes yX10_passes ∈ TB := tb_i 23 (by decide +kernel) (by decide +kernel)
theorem qw24 : Cond.selects RX10 yX10_moves yX10_moves ∈ TB := tb_i 24 (by decide +kernel) (by decide +kernel)
theorem qw25 : Cond.selects RX10 yX10_takesOff yX10_takesOff ∈ TB := tb_i 25 (by decide +kernel) (by decide +kernel)
theorem qw26 : Cond.selects RX10 yX10_knots yX10_knots ∈ TB := tb_i 26 (by decide +kernel) (by decide +kernel)
theorem qw27 : Cond.selects RX10 yX10_appends yX10_appends ∈ TB := tb_i 27 (by decide +kernel) (by decide +kernel)
theorem qw28 : Cond.selects RX10 yX10_rains yX10_rains ∈ TB := tb_i 28 (by decide +kernel) (by decide +kernel)
theorem qw29 : Cond.selects RX10 yX10_isWell yX10_isWell ∈ TB := tb_i 29 (by decide +kernel) (by decide +kernel)
theorem qw30 : Cond.selects RX10 yX10_may yX10_may ∈ TB := tb_i 30 (by decide +kernel) (by decide +kernel)
theorem qw31 : Cond.selects RX10 yX10_isLot yX10_isLot ∈ TB := tb_i 31 (by decide +kernel) (by decide +kernel)
theorem qw32 : Cond.selects RX10 yX10_isWater yX10_isWater ∈ TB := tb_i 32 (by decide +kernel) (by decide +kernel)
theorem qw33 : Cond.selects RX10 yX10_fallOf yX10_fallOf ∈ TB := tb_i 33 (by decide +kernel) (by decide +kernel)
theorem qw34 : Cond.selects RX10 yX10_compoundsOf yX10_compoundsOf ∈ TB := tb_i 34 (by decide +kernel) (by decide +kernel)
theorem qw35 : Cond.selects RX10 yX10_nitrateOf yX10_nitrateOf ∈ TB := tb_i 35 (by decide +kernel) (by decide +kernel)
theorem qw36 : Cond.selects RX10 yX10_meanAge yX10_meanAge ∈ TB := tb_i 36 (by decide +kernel) (by decide +kernel)
theorem qw37 : Cond.selects RX10 yX10_bestOf yX10_bestOf ∈ TB := tb_i 37 (by decide +kernel) (by decide +kernel)
theorem qw38 : Cond.selects RX10 yX10_fromOf yX10_fromOf ∈ TB := tb_i 38 (by decide +kernel) (by decide +kernel)
theorem qw39 : Cond.selects RX10 yX10_whenceOf yX10_whenceOf ∈ TB := tb_i 39 (by decide +kernel) (by decide +kernel)
theorem qw40 : Cond.selects RX10 yX10_held yX10_held ∈ TB := tb_i 40 (by decide +kernel) (by decide +kernel)
theorem qw41 : Cond.selects RX10 yX10_falseOnes yX10_falseOnes ∈ TB := tb_i 41 (by decide +kernel) (by decide +kernel)
theorem qw42 : Cond.initialized RL ∈ TB := tb_i 42 (by decide +kernel) (by decide +kernel)
theorem qw43 : Cond.initialized RX9 ∈ TB := tb_i 43 (by decide +kernel) (by decide +kernel)
theorem qw44 : Cond.initialized RX0 ∈ TB := tb_i 44 (by decide +kernel) (by decide +kernel)
theorem qw45 : Cond.initialized RX6 ∈ TB := tb_i 45 (by decide +kernel) (by decide +kernel)
theorem qw46 : Cond.initialized RX1 ∈ TB := tb_i 46 (by decide +kernel) (by decide +kernel)
theorem qw47 : Cond.initialized RX7 ∈ TB := tb_i 47 (by decide +kernel) (by decide +kernel)
theorem qw48 : Cond.initialized RX10 ∈ TB := tb_i 48 (by decide +kernel) (by decide +kernel)
theorem qw49 : Cond.initialized "java/lang/Throwable" ∈ TB := tb_i 49 (by decide +kernel) (by decide +kernel)
theorem qw50 : Cond.initialized "java/lang/Exception" ∈ TB := tb_i 50 (by decide +kernel) (by decide +kernel)
theorem qw51 : Cond.initialized "java/lang/RuntimeException" ∈ TB := tb_i 51 (by decide +kernel) (by decide +kernel)
theorem qw52 : Cond.initialized "java/lang/IndexOutOfBoundsException" ∈ TB := tb_i 52 (by decide +kernel) (by decide +kernel)
theorem qw53 : Cond.initialized "java/lang/IllegalArgumentException" ∈ TB := tb_i 53 (by decide +kernel) (by decide +kernel)
theorem qw54 : Cond.initialized "java/lang/IllegalStateException" ∈ TB := tb_i 54 (by decide +kernel) (by decide +kernel)
theorem qw55 : Cond.initialized RX5 ∈ TB := tb_i 55 (by decide +kernel) (by decide +kernel)
theorem qw56 : Cond.initialized RX3 ∈ TB := tb_i 56 (by decide +kernel) (by decide +kernel)
theorem qw57 : Cond.initialized RX8 ∈ TB := tb_i 57 (by decide +kernel) (by decide +kernel)
theorem qw58 : Cond.initialized "java/lang/Math" ∈ TB := tb_i 58 (by decide +kernel) (by decide +kernel)
theorem qw59 : Cond.initialized RX2 ∈ TB := tb_i 59 (by decide +kernel) (by decide +kernel)
theorem qw60 : Cond.initialized RX4 ∈ TB := tb_i 60 (by decide +kernel) (by decide +kernel)
theorem qw61 : Cond.classLink RL 8 RX9 ∈ TB := tb_i 61 (by decide +kernel) (by decide +kernel)
theorem qw62 : Cond.instantiable RX9 17 ∈ TB := tb_i 62 (by decide +kernel) (by decide +kernel)
theorem qw63 : Cond.methodLink RL 91 yX9_init ∈ TB := tb_i 63 (by decide +kernel) (by decide +kernel)
theorem qw64 : Cond.instanceMethod yX9_init ∈ TB := tb_i 64 (by decide +kernel) (by decide +kernel)
theorem qw65 : Cond.code yX9_init cX9_init 3 (none) ∈ TB := tb_i 65 (by decide +kernel) (by decide +kernel)
theorem qw66 : Cond.methodLink RX9 1 objectInit ∈ TB := tb_i 66 (by decide +kernel) (by decide +kernel)
theorem qw67 : Cond.instanceMethod objectInit ∈ TB := tb_i 67 (by decide +kernel) (by decide +kernel)
theorem qw68 : Cond.code objectInit ⟨#[0xb1]⟩ 1 none ∈ TB := tb_i 68 (by decide +kernel) (by decide +kernel)
theorem qw69 : Cond.classLink RX9 9 RX0 ∈ TB := tb_i 69 (by decide +kernel) (by decide +kernel)
theorem qw71 : Cond.instantiable RX0 8 ∈ TB := tb_i 71 (by decide +kernel) (by decide +kernel)
theorem qw72 : Cond.methodLink RX9 15 yX0_init ∈ TB := tb_i 72 (by decide +kernel) (by decide +kernel)
theorem qw73 : Cond.instanceMethod yX0_init ∈ TB := tb_i 73 (by decide +kernel) (by decide +kernel)
theorem qw74 : Cond.code yX0_init cX0_init 3 (none) ∈ TB := tb_i 74 (by decide +kernel) (by decide +kernel)
theorem qw75 : Cond.methodLink RX0 3 objectInit ∈ TB := tb_i 75 (by decide +kernel) (by decide +kernel)
theorem qw76 : Cond.classLink RX0 9 RX6 ∈ TB := tb_i 76 (by decide +kernel) (by decide +kernel)
theorem qw77 : Cond.instantiable RX6 3 ∈ TB := tb_i 77 (by decide +kernel) (by decide +kernel)
theorem qw78 : Cond.methodLinkNest RX0 11 yX6_init RX9 ∈ TN := tn_i 78 (by decide +kernel) rfl
theorem qw79 : Cond.instanceMethod yX6_init ∈ TB := tb_i 79 (by decide +kernel) (by decide +kernel)
theorem qw80 : Cond.code yX6_init cX6_init 1 (none) ∈ TB := tb_i 80 (by decide +kernel) (by decide +kernel)
theorem qw81 : Cond.methodLink RX6 3 objectInit ∈ TB := tb_i 81 (by decide +kernel) (by decide +kernel)
theorem qw82 : Cond.fieldLink RX6 9 RX6 "units" "I" ∈ TB := tb_i 82 (by decide +kernel) (by decide +kernel)
theorem qw83 : Cond.fieldLink RX2 39 RX6 "units" "I" ∈ TB := tb_i 83 (by decide +kernel) (by decide +kernel)
theorem qw84 : Cond.fieldLink RX0 32 RX6 "units" "I" ∈ TB := tb_i 84 (by decide +kernel) (by decide +kernel)
theorem qw85 : Cond.fieldLink RX9 142 RX6 "units" "I" ∈ TB := tb_i 85 (by decide +kernel) (by decide +kernel)
theorem qw86 : Cond.fieldLink RX6 15 RX6 "first" "LSpringward$Portion;" ∈ TB := tb_i 86 (by decide +kernel) (by decide +kernel)
theorem qw87 : Cond.fieldLink RX6 19 RX6 "last" "LSpringward$Portion;" ∈ TB := tb_i 87 (by decide +kernel) (by decide +kernel)
theorem qw95 : Cond.fieldLink RX0 25 RX0 "number" "I" ∈ TB := tb_i 95 (by decide +kernel) (by decide +kernel)
theorem qw96 : Cond.fieldLink RX9 186 RX0 "number" "I" ∈ TB := tb_i 96 (by decide +kernel) (by decide +kernel)
theorem qw97 : Cond.fieldLink RX0 12 RX0 "row" "LSpringward$Row;" ∈ TB := tb_i 97 (by decide +kernel) (by decide +kernel)
theorem qw98 : Cond.fieldLink RX9 124 RX0 "row" "LSpringward$Row;" ∈ TB := tb_i 98 (by decide +kernel) (by decide +kernel)
theorem qw99 : Cond.fieldLink RX0 28 RX0 "lower" "LSpringward$Cell;" ∈ TB := tb_i 99 (by decide +kernel) (by decide +kernel)
theorem qw100 : Cond.fieldLink RX9 80 RX0 "lower" "LSpringward$Cell;" ∈ TB := tb_i 100 (by decide +kernel) (by decide +kernel)
theorem qw101 : Cond.fieldLink RX0 18 RX0 "holds" "I" ∈ TB := tb_i 101 (by decide +kernel) (by decide +kernel)
theorem qw102 : Cond.fieldLink RX9 60 RX0 "holds" "I" ∈ TB := tb_i 102 (by decide +kernel) (by decide +kernel)
theorem qw103 : Cond.fieldLink RX0 22 RX0 "land" "I" ∈ TB := tb_i 103 (by decide +kernel) (by decide +kernel)
theorem qw104 : Cond.fieldLink RX9 70 RX0 "land" "I" ∈ TB := tb_i 104 (by decide +kernel) (by decide +kernel)
theorem qw105 : Cond.fieldLink RX9 63 RX0 "contractYears" "I" ∈ TB := tb_i 105 (by decide +kernel) (by decide +kernel)
theorem qw106 : Cond.fieldLink RX0 51 RX0 "contractYears" "I" ∈ TB := tb_i 106 (by decide +kernel) (by decide +kernel)
theorem qw107 : Cond.fieldLink RX9 93 RX0 "contractPay" "I" ∈ TB := tb_i 107 (by decide +kernel) (by decide +kernel)
theorem qw108 : Cond.fieldLink RX0 41 RX0 "waiting" "I" ∈ TB := tb_i 108 (by decide +kernel) (by decide +kernel)
theorem qw109 : Cond.fieldLink RX9 90 RX0 "waiting" "I" ∈ TB := tb_i 109 (by decide +kernel) (by decide +kernel)
theorem qw127 : Cond.classLink RX9 22 RX8 ∈ TB := tb_i 127 (by decide +kernel) (by decide +kernel)
theorem qw129 : Cond.classLink RX9 28 RX2 ∈ TB := tb_i 129 (by decide +kernel) (by decide +kernel)
theorem qw131 : Cond.classLink RX9 34 RX6 ∈ TB := tb_i 131 (by decide +kernel) (by decide +kernel)
theorem qw132 : Cond.methodLinkNest RX9 36 yX6_init RX9 ∈ TN := tn_i 132 (by decide +kernel) rfl
theorem qw133 : Cond.classLink RX9 41 RX1 ∈ TB := tb_i 133 (by decide +kernel) (by decide +kernel)
theorem qw134 : Cond.instantiable RX1 4 ∈ TB := tb_i 134 (by decide +kernel) (by decide +kernel)
theorem qw135 : Cond.methodLink RX9 43 yX1_init ∈ TB := tb_i 135 (by decide +kernel) (by decide +kernel)
theorem qw136 : Cond.instanceMethod yX1_init ∈ TB := tb_i 136 (by decide +kernel) (by decide +kernel)
theorem qw137 : Cond.code yX1_init cX1_init 2 (none) ∈ TB := tb_i 137 (by decide +kernel) (by decide +kernel)
theorem qw138 : Cond.methodLink RX1 3 objectInit ∈ TB := tb_i 138 (by decide +kernel) (by decide +kernel)
theorem qw139 : Cond.classLink RX1 9 RX7 ∈ TB := tb_i 139 (by decide +kernel) (by decide +kernel)
theorem qw141 : Cond.instantiable RX7 4 ∈ TB := tb_i 141 (by decide +kernel) (by decide +kernel)
theorem qw142 : Cond.methodLinkNest RX1 17 yX7_init RX9 ∈ TN := tn_i 142 (by decide +kernel) rfl
theorem qw143 : Cond.instanceMethod yX7_init ∈ TB := tb_i 143 (by decide +kernel) (by decide +kernel)
theorem qw144 : Cond.code yX7_init cX7_init 1 (none) ∈ TB := tb_i 144 (by decide +kernel) (by decide +kernel)
theorem qw145 : Cond.methodLink RX7 1 objectInit ∈ TB := tb_i 145 (by decide +kernel) (by decide +kernel)
theorem qw146 : Cond.fieldLink RX1 68 RX7 "came" "I" ∈ TB := tb_i 146 (by decide +kernel) (by decide +kernel)
theorem qw147 : Cond.fieldLink RX1 71 RX7 "went" "I" ∈ TB := tb_i 147 (by decide +kernel) (by decide +kernel)
theorem qw148 : Cond.fieldLink RX7 18 RX7 "first" "LSpringward$Piece;" ∈ TB := tb_i 148 (by decide +kernel) (by decide +kernel)
theorem qw149 : Cond.fieldLink RX1 54 RX7 "first" "LSpringward$Piece;" ∈ TB := tb_i 149 (by decide +kernel) (by decide +kernel)
theorem qw150 : Cond.fieldLink RX7 13 RX7 "last" "LSpringward$Piece;" ∈ TB := tb_i 150 (by decide +kernel) (by decide +kernel)
theorem qw160 : Cond.fieldLink RX1 11 RX1 "tanks" "[LSpringward$Tank;" ∈ TB := tb_i 160 (by decide +kernel) (by decide +kernel)
theorem qw161 : Cond.fieldLink RX1 27 RX1 "first" "LSpringward$Move;" ∈ TB := tb_i 161 (by decide +kernel) (by decide +kernel)
theorem qw162 : Cond.fieldLink RX1 23 RX1 "last" "LSpringward$Move;" ∈ TB := tb_i 162 (by decide +kernel) (by decide +kernel)
theorem qw163 : Cond.fieldLink RX1 93 RX1 "spare" "LSpringward$Piece;" ∈ TB := tb_i 163 (by decide +kernel) (by decide +kernel)
theorem qw173 : Cond.fieldLink RX9 11 RX9 "cells" "[LSpringward$Cell;" ∈ TB := tb_i 173 (by decide +kernel) (by decide +kernel)
theorem qw174 : Cond.fieldLink RX9 24 RX9 "wells" "[LSpringward$Well;" ∈ TB := tb_i 174 (by decide +kernel) (by decide +kernel)
theorem qw175 : Cond.fieldLink RX9 30 RX9 "lots" "[LSpringward$Lot;" ∈ TB := tb_i 175 (by decide +kernel) (by decide +kernel)
theorem qw176 : Cond.fieldLink RX9 37 RX9 "spring" "LSpringward$Row;" ∈ TB := tb_i 176 (by decide +kernel) (by decide +kernel)
theorem qw177 : Cond.fieldLink RX9 44 RX9 "journal" "LSpringward$Journal;" ∈ TB := tb_i 177 (by decide +kernel) (by decide +kernel)
theorem qw178 : Cond.fieldLink RX9 112 RX9 "wellCount" "I" ∈ TB := tb_i 178 (by decide +kernel) (by decide +kernel)
theorem qw179 : Cond.fieldLink RX9 177 RX9 "lotCount" "I" ∈ TB := tb_i 179 (by decide +kernel) (by decide +kernel)
theorem qw180 : Cond.fieldLink RX9 96 RX9 "now" "I" ∈ TB := tb_i 180 (by decide +kernel) (by decide +kernel)
theorem qw181 : Cond.fieldLink RX9 48 RX9 "cents" "I" ∈ TB := tb_i 181 (by decide +kernel) (by decide +kernel)
theorem qw182 : Cond.fieldLink RX9 18 RX9 "droughtCell" "LSpringward$Cell;" ∈ TB := tb_i 182 (by decide +kernel) (by decide +kernel)
theorem qw183 : Cond.fieldLink RX9 160 RX9 "firstLimit" "I" ∈ TB := tb_i 183 (by decide +kernel) (by decide +kernel)
theorem qw184 : Cond.fieldLink RX9 163 RX9 "secondLimit" "I" ∈ TB := tb_i 184 (by decide +kernel) (by decide +kernel)
theorem qw185 : Cond.fieldLink RX9 208 RX9 "forbidden" "I" ∈ TB := tb_i 185 (by decide +kernel) (by decide +kernel)
theorem qw186 : Cond.fieldLink RX9 148 RX9 "fallen" "J" ∈ TB := tb_i 186 (by decide +kernel) (by decide +kernel)
theorem qw187 : Cond.fieldLink RX9 138 RX9 "sprung" "J" ∈ TB := tb_i 187 (by decide +kernel) (by decide +kernel)
theorem qw188 : Cond.fieldLink RX9 153 RX9 "paid" "J" ∈ TB := tb_i 188 (by decide +kernel) (by decide +kernel)
theorem qw189 : Cond.fieldLink RX9 183 RX9 "villageCents" "J" ∈ TB := tb_i 189 (by decide +kernel) (by decide +kernel)
theorem qw225 : Cond.methodLink RL 143 yX9_year ∈ TB := tb_i 225 (by decide +kernel) (by decide +kernel)
theorem qw226 : Cond.instanceMethod yX9_year ∈ TB := tb_i 226 (by decide +kernel) (by decide +kernel)
theorem qw227 : Cond.selects RX9 yX9_year yX9_year ∈ TB := tb_i 227 (by decide +kernel) (by decide +kernel)
theorem qw228 : Cond.code yX9_year cX9_year 1 (some FieldType.int) ∈ TB := tb_i 228 (by decide +kernel) (by decide +kernel)
theorem qw229 : Cond.methodLink RL 95 yL_rock ∈ TB := tb_i 229 (by decide +kernel) (by decide +kernel)
theorem qw230 : Cond.static yL_rock ∈ TB := tb_i 230 (by decide +kernel) (by decide +kernel)
theorem qw232 : Cond.classLink RL 13 "java/lang/IndexOutOfBoundsException" ∈ TB := tb_i 232 (by decide +kernel) (by decide +kernel)
theorem qw233 : Cond.classLink RL 15 "java/lang/IllegalArgumentException" ∈ TB := tb_i 233 (by decide +kernel) (by decide +kernel)
theorem qw234 : Cond.methodLink RL 7 yX9_rock ∈ TB := tb_i 234 (by decide +kernel) (by decide +kernel)
theorem qw235 : Cond.instanceMethod yX9_rock ∈ TB := tb_i 235 (by decide +kernel) (by decide +kernel)
theorem qw236 : Cond.selects RX9 yX9_rock yX9_rock ∈ TB := tb_i 236 (by decide +kernel) (by decide +kernel)
theorem qw237 : Cond.code yX9_rock cX9_rock 5 (some FieldType.int) ∈ TB := tb_i 237 (by decide +kernel) (by decide +kernel)
theorem qw238 : Cond.methodLink RX9 52 yX9_cellAt ∈ TB := tb_i 238 (by decide +kernel) (by decide +kernel)
theorem qw240 : Cond.instanceMethod yX9_cellAt ∈ TB := tb_i 240 (by decide +kernel) (by decide +kernel)
theorem qw241 : Cond.code yX9_cellAt cX9_cellAt 2 (some (FieldType.object "Springward$Cell")) ∈ TB := tb_i 241 (by decide +kernel) (by decide +kernel)
theorem qw242 : Cond.methodLink RX9 83 yX9_needIndex ∈ TB := tb_i 242 (by decide +kernel) (by decide +kernel)
theorem qw243 : Cond.static yX9_needIndex ∈ TB := tb_i 243 (by decide +kernel) (by decide +kernel)
theorem qw244 : Cond.code yX9_needIndex cX9_needIndex 2 (none) ∈ TB := tb_i 244 (by decide +kernel) (by decide +kernel)
theorem qw245 : Cond.classLink RX9 287 "java/lang/IndexOutOfBoundsException" ∈ TB := tb_i 245 (by decide +kernel) (by decide +kernel)
theorem qw246 : Cond.instantiable "java/lang/IndexOutOfBoundsException" 6 ∈ TB := tb_i 246 (by decide +kernel) (by decide +kernel)
theorem qw266 : Cond.fieldLink "java/lang/Throwable" 198 "java/lang/Throwable" "backtrace" "Ljava/lang/Object;" ∈ TB := tb_i 266 (by decide +kernel) (by decide +kernel)
theorem qw270 : Cond.methodLink "java/lang/Throwable" 1 objectInit ∈ TB := tb_i 270 (by decide +kernel) (by decide +kernel)
theorem qw271 : Cond.fieldLink "java/lang/Throwable" 13 "java/lang/Throwable" "UNASSIGNED_STACK" "[Ljava/lang/StackTraceElement;" ∈ TB := tb_i 271 (by decide +kernel) (by decide +kernel)
theorem qw273 : Cond.fieldLink "java/lang/Throwable" 20 "java/lang/Throwable" "SUPPRESSED_SENTINEL" "Ljava/util/List;" ∈ TB := tb_i 273 (by decide +kernel) (by decide +kernel)
theorem qw284 : Cond.instantiable "java/lang/Throwable" 6 ∈ TB := tb_i 284 (by decide +kernel) (by decide +kernel)
theorem qw299 : Cond.fieldLink "java/lang/Throwable" 198 "java/lang/Throwable" "backtrace" "Ljava/lang/Object;" ∈ TB := tb_i 299 (by decide +kernel) (by decide +kernel)
theorem qw300 : Cond.fieldLink "java/lang/Throwable" 31 "java/lang/Throwable" "detailMessage" "Ljava/lang/String;" ∈ TB := tb_i 300 (by decide +kernel) (by decide +kernel)
theorem qw301 : Cond.fieldLink "java/lang/Throwable" 7 "java/lang/Throwable" "cause" "Ljava/lang/Throwable;" ∈ TB := tb_i 301 (by decide +kernel) (by decide +kernel)
theorem qw302 : Cond.fieldLink "java/lang/Throwable" 17 "java/lang/Throwable" "stackTrace" "[Ljava/lang/StackTraceElement;" ∈ TB := tb_i 302 (by decide +kernel) (by decide +kernel)
theorem qw303 : Cond.fieldLink "java/lang/Throwable" 24 "java/lang/Throwable" "suppressedExceptions" "Ljava/util/List;" ∈ TB := tb_i 303 (by decide +kernel) (by decide +kernel)
theorem qw313 : Cond.methodLink RX9 56 yX9_needRange ∈ TB := tb_i 313 (by decide +kernel) (by decide +kernel)
theorem qw314 : Cond.static yX9_needRange ∈ TB := tb_i 314 (by decide +kernel) (by decide +kernel)
theorem qw315 : Cond.code yX9_needRange cX9_needRange 3 (none) ∈ TB := tb_i 315 (by decide +kernel) (by decide +kernel)
theorem qw316 : Cond.methodLink RX9 73 yX9_needArgument ∈ TB := tb_i 316 (by decide +kernel) (by decide +kernel)
theorem qw317 : Cond.static yX9_needArgument ∈ TB := tb_i 317 (by decide +kernel) (by decide +kernel)
theorem qw318 : Cond.code yX9_needArgument cX9_needArgument 1 (none) ∈ TB := tb_i 318 (by decide +kernel) (by decide +kernel)
theorem qw319 : Cond.classLink RX9 294 "java/lang/IllegalArgumentException" ∈ TB := tb_i 319 (by decide +kernel) (by decide +kernel)
theorem qw320 : Cond.instantiable "java/lang/IllegalArgumentException" 6 ∈ TB := tb_i 320 (by decide +kernel) (by decide +kernel)
theorem qw335 : Cond.methodLink RL 105 yL_land ∈ TB := tb_i 335 (by decide +kernel) (by decide +kernel)
theorem qw336 : Cond.static yL_land ∈ TB := tb_i 336 (by decide +kernel) (by decide +kernel)
theorem qw338 : Cond.classLink RL 20 "java/lang/IllegalStateException" ∈ TB := tb_i 338 (by decide +kernel) (by decide +kernel)
theorem qw339 : Cond.methodLink RL 17 yX9_land ∈ TB := tb_i 339 (by decide +kernel) (by decide +kernel)
theorem qw340 : Cond.instanceMethod yX9_land ∈ TB := tb_i 340 (by decide +kernel) (by decide +kernel)
theorem qw341 : Cond.selects RX9 yX9_land yX9_land ∈ TB := tb_i 341 (by decide +kernel) (by decide +kernel)
theorem qw342 : Cond.code yX9_land cX9_land 5 (some FieldType.int) ∈ TB := tb_i 342 (by decide +kernel) (by decide +kernel)
theorem qw343 : Cond.methodLink RX9 66 yX9_needState ∈ TB := tb_i 343 (by decide +kernel) (by decide +kernel)
theorem qw344 : Cond.static yX9_needState ∈ TB := tb_i 344 (by decide +kernel) (by decide +kernel)
theorem qw345 : Cond.code yX9_needState cX9_needState 1 (none) ∈ TB := tb_i 345 (by decide +kernel) (by decide +kernel)
theorem qw346 : Cond.classLink RX9 299 "java/lang/IllegalStateException" ∈ TB := tb_i 346 (by decide +kernel) (by decide +kernel)
theorem qw347 : Cond.instantiable "java/lang/IllegalStateException" 6 ∈ TB := tb_i 347 (by decide +kernel) (by decide +kernel)
theorem qw362 : Cond.methodLink RL 108 yL_lead ∈ TB := tb_i 362 (by decide +kernel) (by decide +kernel)
theorem qw363 : Cond.static yL_lead ∈ TB := tb_i 363 (by decide +kernel) (by decide +kernel)
theorem qw365 : Cond.methodLink RL 22 yX9_lead ∈ TB := tb_i 365 (by decide +kernel) (by decide +kernel)
theorem qw366 : Cond.instanceMethod yX9_lead ∈ TB := tb_i 366 (by decide +kernel) (by decide +kernel)
theorem qw367 : Cond.selects RX9 yX9_lead yX9_lead ∈ TB := tb_i 367 (by decide +kernel) (by decide +kernel)
theorem qw368 : Cond.code yX9_lead cX9_lead 6 (some FieldType.int) ∈ TB := tb_i 368 (by decide +kernel) (by decide +kernel)
theorem qw369 : Cond.methodLink RX9 76 yX0_leadsTo ∈ TB := tb_i 369 (by decide +kernel) (by decide +kernel)
theorem qw370 : Cond.instanceMethod yX0_leadsTo ∈ TB := tb_i 370 (by decide +kernel) (by decide +kernel)
theorem qw371 : Cond.selects RX0 yX0_leadsTo yX0_leadsTo ∈ TB := tb_i 371 (by decide +kernel) (by decide +kernel)
theorem qw372 : Cond.code yX0_leadsTo cX0_leadsTo 1 (some FieldType.int) ∈ TB := tb_i 372 (by decide +kernel) (by decide +kernel)
theorem qw373 : Cond.methodLink RL 111 yL_spill ∈ TB := tb_i 373 (by decide +kernel) (by decide +kernel)
theorem qw374 : Cond.static yL_spill ∈ TB := tb_i 374 (by decide +kernel) (by decide +kernel)
theorem qw376 : Cond.methodLink RL 25 yX9_spill ∈ TB := tb_i 376 (by decide +kernel) (by decide +kernel)
theorem qw377 : Cond.instanceMethod yX9_spill ∈ TB := tb_i 377 (by decide +kernel) (by decide +kernel)
theorem qw378 : Cond.selects RX9 yX9_spill yX9_spill ∈ TB := tb_i 378 (by decide +kernel) (by decide +kernel)
theorem qw379 : Cond.code yX9_spill cX9_spill 4 (some FieldType.int) ∈ TB := tb_i 379 (by decide +kernel) (by decide +kernel)
theorem qw380 : Cond.methodLink RX9 87 yX0_travel ∈ TB := tb_i 380 (by decide +kernel) (by decide +kernel)
theorem qw381 : Cond.instanceMethod yX0_travel ∈ TB := tb_i 381 (by decide +kernel) (by decide +kernel)
theorem qw382 : Cond.selects RX0 yX0_travel yX0_travel ∈ TB := tb_i 382 (by decide +kernel) (by decide +kernel)
theorem qw383 : Cond.code yX0_travel cX0_travel 3 (some FieldType.int) ∈ TB := tb_i 383 (by decide +kernel) (by decide +kernel)
theorem qw384 : Cond.methodLink RL 114 yL_contract ∈ TB := tb_i 384 (by decide +kernel) (by decide +kernel)
theorem qw385 : Cond.static yL_contract ∈ TB := tb_i 385 (by decide +kernel) (by decide +kernel)
theorem qw387 : Cond.methodLink RL 28 yX9_contract ∈ TB := tb_i 387 (by decide +kernel) (by decide +kernel)
theorem qw388 : Cond.instanceMethod yX9_contract ∈ TB := tb_i 388 (by decide +kernel) (by decide +kernel)
theorem qw389 : Cond.selects RX9 yX9_contract yX9_contract ∈ TB := tb_i 389 (by decide +kernel) (by decide +kernel)
theorem qw390 : Cond.code yX9_contract cX9_contract 5 (none) ∈ TB := tb_i 390 (by decide +kernel) (by decide +kernel)
theorem qw391 : Cond.methodLink RL 118 yL_pass ∈ TB := tb_i 391 (by decide +kernel) (by decide +kernel)
theorem qw392 : Cond.static yL_pass ∈ TB := tb_i 392 (by decide +kernel) (by decide +kernel)
theorem qw394 : Cond.methodLink RL 32 yX9_pass ∈ TB := tb_i 394 (by decide +kernel) (by decide +kernel)
theorem qw395 : Cond.instanceMethod yX9_pass ∈ TB := tb_i 395 (by decide +kernel) (by decide +kernel)
theorem qw396 : Cond.selects RX9 yX9_pass yX9_pass ∈ TB := tb_i 396 (by decide +kernel) (by decide +kernel)
theorem qw397 : Cond.code yX9_pass cX9_pass 4 (some FieldType.int) ∈ TB := tb_i 397 (by decide +kernel) (by decide +kernel)
theorem qw398 : Cond.methodLink RX9 99 yX9_passOne ∈ TB := tb_i 398 (by decide +kernel) (by decide +kernel)
theorem qw400 : Cond.instanceMethod yX9_passOne ∈ TB := tb_i 400 (by decide +kernel) (by decide +kernel)
theorem qw401 : Cond.code yX9_passOne cX9_passOne 3 (none) ∈ TB := tb_i 401 (by decide +kernel) (by decide +kernel)
theorem qw402 : Cond.methodLink RX9 103 yX9_leadOn ∈ TB := tb_i 402 (by decide +kernel) (by decide +kernel)
theorem qw404 : Cond.instanceMethod yX9_leadOn ∈ TB := tb_i 404 (by decide +kernel) (by decide +kernel)
theorem qw405 : Cond.code yX9_leadOn cX9_leadOn 5 (none) ∈ TB := tb_i 405 (by decide +kernel) (by decide +kernel)
theorem qw406 : Cond.methodLink RX9 118 yX6_clear ∈ TB := tb_i 406 (by decide +kernel) (by decide +kernel)
theorem qw407 : Cond.instanceMethod yX6_clear ∈ TB := tb_i 407 (by decide +kernel) (by decide +kernel)
theorem qw408 : Cond.selects RX6 yX6_clear yX6_clear ∈ TB := tb_i 408 (by decide +kernel) (by decide +kernel)
theorem qw409 : Cond.code yX6_clear cX6_clear 1 (none) ∈ TB := tb_i 409 (by decide +kernel) (by decide +kernel)
theorem qw410 : Cond.methodLink RX9 121 yX0_yearly ∈ TB := tb_i 410 (by decide +kernel) (by decide +kernel)
theorem qw411 : Cond.instanceMethod yX0_yearly ∈ TB := tb_i 411 (by decide +kernel) (by decide +kernel)
theorem qw412 : Cond.selects RX0 yX0_yearly yX0_yearly ∈ TB := tb_i 412 (by decide +kernel) (by decide +kernel)
theorem qw413 : Cond.code yX0_yearly cX0_yearly 1 (some FieldType.int) ∈ TB := tb_i 413 (by decide +kernel) (by decide +kernel)
theorem qw414 : Cond.methodLink RX9 127 yX6_take ∈ TB := tb_i 414 (by decide +kernel) (by decide +kernel)
theorem qw415 : Cond.instanceMethod yX6_take ∈ TB := tb_i 415 (by decide +kernel) (by decide +kernel)
theorem qw416 : Cond.selects RX6 yX6_take yX6_take ∈ TB := tb_i 416 (by decide +kernel) (by decide +kernel)
theorem qw417 : Cond.code yX6_take cX6_take 7 (some (FieldType.object "Springward$Portion")) ∈ TB := tb_i 417 (by decide +kernel) (by decide +kernel)
theorem qw418 : Cond.methodLink RX6 28 yX5_splitOff ∈ TB := tb_i 418 (by decide +kernel) (by decide +kernel)
theorem qw419 : Cond.instanceMethod yX5_splitOff ∈ TB := tb_i 419 (by decide +kernel) (by decide +kernel)
theorem qw420 : Cond.selects RX5 yX5_splitOff yX5_splitOff ∈ TB := tb_i 420 (by decide +kernel) (by decide +kernel)
theorem qw421 : Cond.code yX5_splitOff cX5_splitOff 2 (some (FieldType.object "Springward$Portion")) ∈ TB := tb_i 421 (by decide +kernel) (by decide +kernel)
theorem qw422 : Cond.classLink RX5 8 RX5 ∈ TB := tb_i 422 (by decide +kernel) (by decide +kernel)
theorem qw423 : Cond.instantiable RX5 6 ∈ TB := tb_i 423 (by decide +kernel) (by decide +kernel)
theorem qw424 : Cond.methodLink RX5 25 yX5_init ∈ TB := tb_i 424 (by decide +kernel) (by decide +kernel)
theorem qw425 : Cond.instanceMethod yX5_init ∈ TB := tb_i 425 (by decide +kernel) (by decide +kernel)
theorem qw426 : Cond.code yX5_init cX5_init 6 (none) ∈ TB := tb_i 426 (by decide +kernel) (by decide +kernel)
theorem qw427 : Cond.methodLink RX5 1 objectInit ∈ TB := tb_i 427 (by decide +kernel) (by decide +kernel)
theorem qw428 : Cond.fieldLink RX5 7 RX5 "cell" "I" ∈ TB := tb_i 428 (by decide +kernel) (by decide +kernel)
theorem qw429 : Cond.fieldLink RX6 54 RX5 "cell" "I" ∈ TB := tb_i 429 (by decide +kernel) (by decide +kernel)
theorem qw430 : Cond.fieldLink RX9 270 RX5 "cell" "I" ∈ TB := tb_i 430 (by decide +kernel) (by decide +kernel)
theorem qw431 : Cond.fieldLink RX5 13 RX5 "year" "I" ∈ TB := tb_i 431 (by decide +kernel) (by decide +kernel)
theorem qw432 : Cond.fieldLink RX6 32 RX5 "year" "I" ∈ TB := tb_i 432 (by decide +kernel) (by decide +kernel)
theorem qw433 : Cond.fieldLink RX9 274 RX5 "year" "I" ∈ TB := tb_i 433 (by decide +kernel) (by decide +kernel)
theorem qw434 : Cond.fieldLink RX5 16 RX5 "nitrate" "I" ∈ TB := tb_i 434 (by decide +kernel) (by decide +kernel)
theorem qw435 : Cond.fieldLink RX6 35 RX5 "nitrate" "I" ∈ TB := tb_i 435 (by decide +kernel) (by decide +kernel)
theorem qw436 : Cond.fieldLink RX5 19 RX5 "compounds" "I" ∈ TB := tb_i 436 (by decide +kernel) (by decide +kernel)
theorem qw437 : Cond.fieldLink RX6 38 RX5 "compounds" "I" ∈ TB := tb_i 437 (by decide +kernel) (by decide +kernel)
theorem qw438 : Cond.fieldLink RX5 22 RX5 "units" "I" ∈ TB := tb_i 438 (by decide +kernel) (by decide +kernel)
theorem qw439 : Cond.fieldLink RX6 27 RX5 "units" "I" ∈ TB := tb_i 439 (by decide +kernel) (by decide +kernel)
theorem qw440 : Cond.fieldLink RX6 22 RX5 "next" "LSpringward$Portion;" ∈ TB := tb_i 440 (by decide +kernel) (by decide +kernel)
theorem qw454 : Cond.methodLink RX9 131 yX6_append ∈ TB := tb_i 454 (by decide +kernel) (by decide +kernel)
theorem qw455 : Cond.instanceMethod yX6_append ∈ TB := tb_i 455 (by decide +kernel) (by decide +kernel)
theorem qw456 : Cond.selects RX6 yX6_append yX6_append ∈ TB := tb_i 456 (by decide +kernel) (by decide +kernel)
theorem qw457 : Cond.code yX6_append cX6_append 3 (none) ∈ TB := tb_i 457 (by decide +kernel) (by decide +kernel)
theorem qw458 : Cond.methodLink RX9 135 yX1_note ∈ TB := tb_i 458 (by decide +kernel) (by decide +kernel)
theorem qw459 : Cond.instanceMethod yX1_note ∈ TB := tb_i 459 (by decide +kernel) (by decide +kernel)
theorem qw460 : Cond.selects RX1 yX1_note yX1_note ∈ TB := tb_i 460 (by decide +kernel) (by decide +kernel)
theorem qw461 : Cond.code yX1_note cX1_note 5 (none) ∈ TB := tb_i 461 (by decide +kernel) (by decide +kernel)
theorem qw462 : Cond.classLink RX1 18 RX3 ∈ TB := tb_i 462 (by decide +kernel) (by decide +kernel)
theorem qw463 : Cond.instantiable RX3 4 ∈ TB := tb_i 463 (by decide +kernel) (by decide +kernel)
theorem qw464 : Cond.methodLink RX1 20 yX3_init ∈ TB := tb_i 464 (by decide +kernel) (by decide +kernel)
theorem qw465 : Cond.instanceMethod yX3_init ∈ TB := tb_i 465 (by decide +kernel) (by decide +kernel)
theorem qw466 : Cond.code yX3_init cX3_init 4 (none) ∈ TB := tb_i 466 (by decide +kernel) (by decide +kernel)
theorem qw467 : Cond.methodLink RX3 1 objectInit ∈ TB := tb_i 467 (by decide +kernel) (by decide +kernel)
theorem qw468 : Cond.fieldLink RX3 7 RX3 "from" "I" ∈ TB := tb_i 468 (by decide +kernel) (by decide +kernel)
theorem qw469 : Cond.fieldLink RX1 36 RX3 "from" "I" ∈ TB := tb_i 469 (by decide +kernel) (by decide +kernel)
theorem qw470 : Cond.fieldLink RX3 13 RX3 "to" "I" ∈ TB := tb_i 470 (by decide +kernel) (by decide +kernel)
theorem qw471 : Cond.fieldLink RX1 43 RX3 "to" "I" ∈ TB := tb_i 471 (by decide +kernel) (by decide +kernel)
theorem qw472 : Cond.fieldLink RX3 16 RX3 "units" "I" ∈ TB := tb_i 472 (by decide +kernel) (by decide +kernel)
theorem qw473 : Cond.fieldLink RX1 40 RX3 "units" "I" ∈ TB := tb_i 473 (by decide +kernel) (by decide +kernel)
theorem qw474 : Cond.fieldLink RX1 30 RX3 "next" "LSpringward$Move;" ∈ TB := tb_i 474 (by decide +kernel) (by decide +kernel)
theorem qw484 : Cond.methodLink RX9 106 yX9_rainOn ∈ TB := tb_i 484 (by decide +kernel) (by decide +kernel)
theorem qw486 : Cond.instanceMethod yX9_rainOn ∈ TB := tb_i 486 (by decide +kernel) (by decide +kernel)
theorem qw487 : Cond.code yX9_rainOn cX9_rainOn 3 (none) ∈ TB := tb_i 487 (by decide +kernel) (by decide +kernel)
theorem qw488 : Cond.methodLink RX9 145 yX0_catchRain ∈ TB := tb_i 488 (by decide +kernel) (by decide +kernel)
theorem qw489 : Cond.instanceMethod yX0_catchRain ∈ TB := tb_i 489 (by decide +kernel) (by decide +kernel)
theorem qw490 : Cond.selects RX0 yX0_catchRain yX0_catchRain ∈ TB := tb_i 490 (by decide +kernel) (by decide +kernel)
theorem qw491 : Cond.code yX0_catchRain cX0_catchRain 3 (none) ∈ TB := tb_i 491 (by decide +kernel) (by decide +kernel)
theorem qw492 : Cond.classLink RX0 35 RX5 ∈ TB := tb_i 492 (by decide +kernel) (by decide +kernel)
theorem qw493 : Cond.methodLink RX0 37 yX0_nitrateOfRain ∈ TB := tb_i 493 (by decide +kernel) (by decide +kernel)
theorem qw495 : Cond.instanceMethod yX0_nitrateOfRain ∈ TB := tb_i 495 (by decide +kernel) (by decide +kernel)
theorem qw496 : Cond.code yX0_nitrateOfRain cX0_nitrateOfRain 1 (some FieldType.int) ∈ TB := tb_i 496 (by decide +kernel) (by decide +kernel)
theorem qw497 : Cond.methodLink RX0 44 yX5_init ∈ TB := tb_i 497 (by decide +kernel) (by decide +kernel)
theorem qw498 : Cond.methodLink RX0 47 yX6_append ∈ TB := tb_i 498 (by decide +kernel) (by decide +kernel)
theorem qw500 : Cond.methodLink RX9 109 yX9_payContracts ∈ TB := tb_i 500 (by decide +kernel) (by decide +kernel)
theorem qw502 : Cond.instanceMethod yX9_payContracts ∈ TB := tb_i 502 (by decide +kernel) (by decide +kernel)
theorem qw503 : Cond.code yX9_payContracts cX9_payContracts 3 (none) ∈ TB := tb_i 503 (by decide +kernel) (by decide +kernel)
theorem qw504 : Cond.methodLink RL 121 yL_well ∈ TB := tb_i 504 (by decide +kernel) (by decide +kernel)
theorem qw505 : Cond.static yL_well ∈ TB := tb_i 505 (by decide +kernel) (by decide +kernel)
theorem qw507 : Cond.methodLink RL 35 yX9_well ∈ TB := tb_i 507 (by decide +kernel) (by decide +kernel)
theorem qw508 : Cond.instanceMethod yX9_well ∈ TB := tb_i 508 (by decide +kernel) (by decide +kernel)
theorem qw509 : Cond.selects RX9 yX9_well yX9_well ∈ TB := tb_i 509 (by decide +kernel) (by decide +kernel)
theorem qw510 : Cond.code yX9_well cX9_well 5 (some FieldType.int) ∈ TB := tb_i 510 (by decide +kernel) (by decide +kernel)
theorem qw511 : Cond.instantiable RX8 3 ∈ TB := tb_i 511 (by decide +kernel) (by decide +kernel)
theorem qw512 : Cond.methodLink RX9 156 yX8_init ∈ TB := tb_i 512 (by decide +kernel) (by decide +kernel)
theorem qw513 : Cond.instanceMethod yX8_init ∈ TB := tb_i 513 (by decide +kernel) (by decide +kernel)
theorem qw514 : Cond.code yX8_init cX8_init 3 (none) ∈ TB := tb_i 514 (by decide +kernel) (by decide +kernel)
theorem qw515 : Cond.methodLink RX8 1 objectInit ∈ TB := tb_i 515 (by decide +kernel) (by decide +kernel)
theorem qw516 : Cond.fieldLink RX8 7 RX8 "cell" "LSpringward$Cell;" ∈ TB := tb_i 516 (by decide +kernel) (by decide +kernel)
theorem qw517 : Cond.fieldLink RX9 170 RX8 "cell" "LSpringward$Cell;" ∈ TB := tb_i 517 (by decide +kernel) (by decide +kernel)
theorem qw518 : Cond.fieldLink RX8 13 RX8 "permit" "I" ∈ TB := tb_i 518 (by decide +kernel) (by decide +kernel)
theorem qw519 : Cond.fieldLink RX9 189 RX8 "permit" "I" ∈ TB := tb_i 519 (by decide +kernel) (by decide +kernel)
theorem qw520 : Cond.fieldLink RX9 115 RX8 "took" "I" ∈ TB := tb_i 520 (by decide +kernel) (by decide +kernel)
theorem qw528 : Cond.methodLink RL 124 yL_drought ∈ TB := tb_i 528 (by decide +kernel) (by decide +kernel)
theorem qw529 : Cond.static yL_drought ∈ TB := tb_i 529 (by decide +kernel) (by decide +kernel)
theorem qw531 : Cond.methodLink RL 38 yX9_drought ∈ TB := tb_i 531 (by decide +kernel) (by decide +kernel)
theorem qw532 : Cond.instanceMethod yX9_drought ∈ TB := tb_i 532 (by decide +kernel) (by decide +kernel)
theorem qw533 : Cond.selects RX9 yX9_drought yX9_drought ∈ TB := tb_i 533 (by decide +kernel) (by decide +kernel)
theorem qw534 : Cond.code yX9_drought cX9_drought 5 (none) ∈ TB := tb_i 534 (by decide +kernel) (by decide +kernel)
theorem qw535 : Cond.constant RX9 159 (100000) ∈ TB := tb_i 535 (by decide +kernel) (by decide +kernel)
theorem qw536 : Cond.methodLink RL 127 yL_share ∈ TB := tb_i 536 (by decide +kernel) (by decide +kernel)
theorem qw537 : Cond.static yL_share ∈ TB := tb_i 537 (by decide +kernel) (by decide +kernel)
theorem qw539 : Cond.methodLink RL 41 yX9_share ∈ TB := tb_i 539 (by decide +kernel) (by decide +kernel)
theorem qw540 : Cond.instanceMethod yX9_share ∈ TB := tb_i 540 (by decide +kernel) (by decide +kernel)
theorem qw541 : Cond.selects RX9 yX9_share yX9_share ∈ TB := tb_i 541 (by decide +kernel) (by decide +kernel)
theorem qw542 : Cond.code yX9_share cX9_share 3 (some FieldType.int) ∈ TB := tb_i 542 (by decide +kernel) (by decide +kernel)
theorem qw543 : Cond.methodLink RL 131 yL_bottle ∈ TB := tb_i 543 (by decide +kernel) (by decide +kernel)
theorem qw544 : Cond.static yL_bottle ∈ TB := tb_i 544 (by decide +kernel) (by decide +kernel)
theorem qw546 : Cond.methodLink RL 45 yX9_bottle ∈ TB := tb_i 546 (by decide +kernel) (by decide +kernel)
theorem qw547 : Cond.instanceMethod yX9_bottle ∈ TB := tb_i 547 (by decide +kernel) (by decide +kernel)
theorem qw548 : Cond.selects RX9 yX9_bottle yX9_bottle ∈ TB := tb_i 548 (by decide +kernel) (by decide +kernel)
theorem qw549 : Cond.code yX9_bottle cX9_bottle 6 (some FieldType.int) ∈ TB := tb_i 549 (by decide +kernel) (by decide +kernel)
theorem qw550 : Cond.methodLink RX9 166 yX9_wellAt ∈ TB := tb_i 550 (by decide +kernel) (by decide +kernel)
theorem qw552 : Cond.instanceMethod yX9_wellAt ∈ TB := tb_i 552 (by decide +kernel) (by decide +kernel)
theorem qw553 : Cond.code yX9_wellAt cX9_wellAt 2 (some (FieldType.object "Springward$Well")) ∈ TB := tb_i 553 (by decide +kernel) (by decide +kernel)
theorem qw554 : Cond.methodLink RX9 173 yX9_mayTakeStill ∈ TB := tb_i 554 (by decide +kernel) (by decide +kernel)
theorem qw556 : Cond.instanceMethod yX9_mayTakeStill ∈ TB := tb_i 556 (by decide +kernel) (by decide +kernel)
theorem qw557 : Cond.code yX9_mayTakeStill cX9_mayTakeStill 4 (some FieldType.int) ∈ TB := tb_i 557 (by decide +kernel) (by decide +kernel)
theorem qw561 : Cond.instantiable RX2 7 ∈ TB := tb_i 561 (by decide +kernel) (by decide +kernel)
theorem qw562 : Cond.methodLink RX9 180 yX2_init ∈ TB := tb_i 562 (by decide +kernel) (by decide +kernel)
theorem qw563 : Cond.instanceMethod yX2_init ∈ TB := tb_i 563 (by decide +kernel) (by decide +kernel)
theorem qw564 : Cond.code yX2_init cX2_init 4 (none) ∈ TB := tb_i 564 (by decide +kernel) (by decide +kernel)
theorem qw565 : Cond.methodLink RX2 3 objectInit ∈ TB := tb_i 565 (by decide +kernel) (by decide +kernel)
theorem qw566 : Cond.classLink RX2 9 RX6 ∈ TB := tb_i 566 (by decide +kernel) (by decide +kernel)
theorem qw567 : Cond.methodLinkNest RX2 11 yX6_init RX9 ∈ TN := tn_i 567 (by decide +kernel) rfl
theorem qw568 : Cond.methodLink RX2 28 yX6_append ∈ TB := tb_i 568 (by decide +kernel) (by decide +kernel)
theorem qw569 : Cond.fieldLink RX2 22 RX2 "well" "I" ∈ TB := tb_i 569 (by decide +kernel) (by decide +kernel)
theorem qw570 : Cond.fieldLink RX9 238 RX2 "well" "I" ∈ TB := tb_i 570 (by decide +kernel) (by decide +kernel)
theorem qw571 : Cond.fieldLink RX2 25 RX2 "bottled" "I" ∈ TB := tb_i 571 (by decide +kernel) (by decide +kernel)
theorem qw572 : Cond.fieldLink RX9 244 RX2 "bottled" "I" ∈ TB := tb_i 572 (by decide +kernel) (by decide +kernel)
theorem qw573 : Cond.fieldLink RX2 12 RX2 "water" "LSpringward$Row;" ∈ TB := tb_i 573 (by decide +kernel) (by decide +kernel)
theorem qw574 : Cond.fieldLink RX9 241 RX2 "water" "LSpringward$Row;" ∈ TB := tb_i 574 (by decide +kernel) (by decide +kernel)
theorem qw575 : Cond.fieldLink RX2 60 RX2 "treatments" "I" ∈ TB := tb_i 575 (by decide +kernel) (by decide +kernel)
theorem qw576 : Cond.fieldLink RX9 205 RX2 "treatments" "I" ∈ TB := tb_i 576 (by decide +kernel) (by decide +kernel)
theorem qw577 : Cond.fieldLink RX2 18 RX2 "label" "I" ∈ TB := tb_i 577 (by decide +kernel) (by decide +kernel)
theorem qw578 : Cond.fieldLink RX9 202 RX2 "label" "I" ∈ TB := tb_i 578 (by decide +kernel) (by decide +kernel)
theorem qw579 : Cond.fieldLink RX2 46 RX2 "isTrue" "Z" ∈ TB := tb_i 579 (by decide +kernel) (by decide +kernel)
theorem qw580 : Cond.fieldLink RX9 215 RX2 "isTrue" "Z" ∈ TB := tb_i 580 (by decide +kernel) (by decide +kernel)
theorem qw581 : Cond.fieldLink RX2 66 RX2 "recalled" "Z" ∈ TB := tb_i 581 (by decide +kernel) (by decide +kernel)
theorem qw582 : Cond.fieldLink RX9 223 RX2 "recalled" "Z" ∈ TB := tb_i 582 (by decide +kernel) (by decide +kernel)
theorem qw598 : Cond.methodLink RL 134 yL_treat ∈ TB := tb_i 598 (by decide +kernel) (by decide +kernel)
theorem qw599 : Cond.static yL_treat ∈ TB := tb_i 599 (by decide +kernel) (by decide +kernel)
theorem qw601 : Cond.methodLink RL 48 yX9_treat ∈ TB := tb_i 601 (by decide +kernel) (by decide +kernel)
theorem qw602 : Cond.instanceMethod yX9_treat ∈ TB := tb_i 602 (by decide +kernel) (by decide +kernel)
theorem qw603 : Cond.selects RX9 yX9_treat yX9_treat ∈ TB := tb_i 603 (by decide +kernel) (by decide +kernel)
theorem qw604 : Cond.code yX9_treat cX9_treat 4 (some FieldType.int) ∈ TB := tb_i 604 (by decide +kernel) (by decide +kernel)
theorem qw605 : Cond.methodLink RX9 198 yX9_lotAt ∈ TB := tb_i 605 (by decide +kernel) (by decide +kernel)
theorem qw607 : Cond.instanceMethod yX9_lotAt ∈ TB := tb_i 607 (by decide +kernel) (by decide +kernel)
theorem qw608 : Cond.code yX9_lotAt cX9_lotAt 2 (some (FieldType.object "Springward$Lot")) ∈ TB := tb_i 608 (by decide +kernel) (by decide +kernel)
theorem qw609 : Cond.methodLink RL 137 yL_label ∈ TB := tb_i 609 (by decide +kernel) (by decide +kernel)
theorem qw610 : Cond.static yL_label ∈ TB := tb_i 610 (by decide +kernel) (by decide +kernel)
theorem qw612 : Cond.methodLink RL 51 yX9_label ∈ TB := tb_i 612 (by decide +kernel) (by decide +kernel)
theorem qw613 : Cond.instanceMethod yX9_label ∈ TB := tb_i 613 (by decide +kernel) (by decide +kernel)
theorem qw614 : Cond.selects RX9 yX9_label yX9_label ∈ TB := tb_i 614 (by decide +kernel) (by decide +kernel)
theorem qw615 : Cond.code yX9_label cX9_label 4 (some FieldType.boolean) ∈ TB := tb_i 615 (by decide +kernel) (by decide +kernel)
theorem qw616 : Cond.methodLink RX9 211 yX2_isOfKind ∈ TB := tb_i 616 (by decide +kernel) (by decide +kernel)
theorem qw617 : Cond.instanceMethod yX2_isOfKind ∈ TB := tb_i 617 (by decide +kernel) (by decide +kernel)
theorem qw618 : Cond.selects RX2 yX2_isOfKind yX2_isOfKind ∈ TB := tb_i 618 (by decide +kernel) (by decide +kernel)
theorem qw619 : Cond.code yX2_isOfKind cX2_isOfKind 3 (some FieldType.boolean) ∈ TB := tb_i 619 (by decide +kernel) (by decide +kernel)
theorem qw620 : Cond.methodLink RX2 50 yX2_hasAtMost ∈ TB := tb_i 620 (by decide +kernel) (by decide +kernel)
theorem qw622 : Cond.instanceMethod yX2_hasAtMost ∈ TB := tb_i 622 (by decide +kernel) (by decide +kernel)
theorem qw623 : Cond.code yX2_hasAtMost cX2_hasAtMost 3 (some FieldType.boolean) ∈ TB := tb_i 623 (by decide +kernel) (by decide +kernel)
theorem qw624 : Cond.methodLink RX2 63 yX6_nitrate ∈ TB := tb_i 624 (by decide +kernel) (by decide +kernel)
theorem qw625 : Cond.instanceMethod yX6_nitrate ∈ TB := tb_i 625 (by decide +kernel) (by decide +kernel)
theorem qw626 : Cond.selects RX6 yX6_nitrate yX6_nitrate ∈ TB := tb_i 626 (by decide +kernel) (by decide +kernel)
theorem qw627 : Cond.code yX6_nitrate cX6_nitrate 3 (some FieldType.int) ∈ TB := tb_i 627 (by decide +kernel) (by decide +kernel)
theorem qw628 : Cond.methodLink RX2 54 yX6_compounds ∈ TB := tb_i 628 (by decide +kernel) (by decide +kernel)
theorem qw629 : Cond.instanceMethod yX6_compounds ∈ TB := tb_i 629 (by decide +kernel) (by decide +kernel)
theorem qw630 : Cond.selects RX6 yX6_compounds yX6_compounds ∈ TB := tb_i 630 (by decide +kernel) (by decide +kernel)
theorem qw631 : Cond.code yX6_compounds cX6_compounds 3 (some FieldType.int) ∈ TB := tb_i 631 (by decide +kernel) (by decide +kernel)
theorem qw632 : Cond.methodLink RX2 57 yX2_leastAge ∈ TB := tb_i 632 (by decide +kernel) (by decide +kernel)
theorem qw633 : Cond.instanceMethod yX2_leastAge ∈ TB := tb_i 633 (by decide +kernel) (by decide +kernel)
theorem qw634 : Cond.selects RX2 yX2_leastAge yX2_leastAge ∈ TB := tb_i 634 (by decide +kernel) (by decide +kernel)
theorem qw635 : Cond.code yX2_leastAge cX2_leastAge 1 (some FieldType.int) ∈ TB := tb_i 635 (by decide +kernel) (by decide +kernel)
theorem qw636 : Cond.methodLink RX2 32 yX6_youngest ∈ TB := tb_i 636 (by decide +kernel) (by decide +kernel)
theorem qw637 : Cond.instanceMethod yX6_youngest ∈ TB := tb_i 637 (by decide +kernel) (by decide +kernel)
theorem qw638 : Cond.selects RX6 yX6_youngest yX6_youngest ∈ TB := tb_i 638 (by decide +kernel) (by decide +kernel)
theorem qw639 : Cond.code yX6_youngest cX6_youngest 3 (some FieldType.int) ∈ TB := tb_i 639 (by decide +kernel) (by decide +kernel)
theorem qw640 : Cond.methodLink RX6 41 yX6_frontYear ∈ TB := tb_i 640 (by decide +kernel) (by decide +kernel)
theorem qw641 : Cond.instanceMethod yX6_frontYear ∈ TB := tb_i 641 (by decide +kernel) (by decide +kernel)
theorem qw642 : Cond.selects RX6 yX6_frontYear yX6_frontYear ∈ TB := tb_i 642 (by decide +kernel) (by decide +kernel)
theorem qw643 : Cond.code yX6_frontYear cX6_frontYear 1 (some FieldType.int) ∈ TB := tb_i 643 (by decide +kernel) (by decide +kernel)
theorem qw645 : Cond.methodLink RL 140 yL_forbid ∈ TB := tb_i 645 (by decide +kernel) (by decide +kernel)
theorem qw646 : Cond.static yL_forbid ∈ TB := tb_i 646 (by decide +kernel) (by decide +kernel)
theorem qw648 : Cond.methodLink RL 55 yX9_forbid ∈ TB := tb_i 648 (by decide +kernel) (by decide +kernel)
theorem qw649 : Cond.instanceMethod yX9_forbid ∈ TB := tb_i 649 (by decide +kernel) (by decide +kernel)
theorem qw650 : Cond.selects RX9 yX9_forbid yX9_forbid ∈ TB := tb_i 650 (by decide +kernel) (by decide +kernel)
theorem qw651 : Cond.code yX9_forbid cX9_forbid 5 (some FieldType.int) ∈ TB := tb_i 651 (by decide +kernel) (by decide +kernel)
theorem qw652 : Cond.methodLink RX9 219 yX2_isRecalledBy ∈ TB := tb_i 652 (by decide +kernel) (by decide +kernel)
theorem qw653 : Cond.instanceMethod yX2_isRecalledBy ∈ TB := tb_i 653 (by decide +kernel) (by decide +kernel)
theorem qw654 : Cond.selects RX2 yX2_isRecalledBy yX2_isRecalledBy ∈ TB := tb_i 654 (by decide +kernel) (by decide +kernel)
theorem qw655 : Cond.code yX2_isRecalledBy cX2_isRecalledBy 3 (some FieldType.boolean) ∈ TB := tb_i 655 (by decide +kernel) (by decide +kernel)
theorem qw656 : Cond.methodLink RL 147 yL_cellOf ∈ TB := tb_i 656 (by decide +kernel) (by decide +kernel)
theorem qw657 : Cond.static yL_cellOf ∈ TB := tb_i 657 (by decide +kernel) (by decide +kernel)
theorem qw659 : Cond.methodLink RL 58 yX9_cellOf ∈ TB := tb_i 659 (by decide +kernel) (by decide +kernel)
theorem qw660 : Cond.instanceMethod yX9_cellOf ∈ TB := tb_i 660 (by decide +kernel) (by decide +kernel)
theorem qw661 : Cond.selects RX9 yX9_cellOf yX9_cellOf ∈ TB := tb_i 661 (by decide +kernel) (by decide +kernel)
theorem qw662 : Cond.code yX9_cellOf cX9_cellOf 4 (some FieldType.int) ∈ TB := tb_i 662 (by decide +kernel) (by decide +kernel)
theorem qw663 : Cond.methodLink RX9 226 yX6_frontYear ∈ TB := tb_i 663 (by decide +kernel) (by decide +kernel)
theorem qw664 : Cond.methodLink RL 150 yL_flow ∈ TB := tb_i 664 (by decide +kernel) (by decide +kernel)
theorem qw665 : Cond.static yL_flow ∈ TB := tb_i 665 (by decide +kernel) (by decide +kernel)
theorem qw667 : Cond.methodLink RL 61 yX9_flow ∈ TB := tb_i 667 (by decide +kernel) (by decide +kernel)
theorem qw668 : Cond.instanceMethod yX9_flow ∈ TB := tb_i 668 (by decide +kernel) (by decide +kernel)
theorem qw669 : Cond.selects RX9 yX9_flow yX9_flow ∈ TB := tb_i 669 (by decide +kernel) (by decide +kernel)
theorem qw670 : Cond.code yX9_flow cX9_flow 2 (some FieldType.int) ∈ TB := tb_i 670 (by decide +kernel) (by decide +kernel)
theorem qw671 : Cond.methodLink RX9 229 yX6_nitrate ∈ TB := tb_i 671 (by decide +kernel) (by decide +kernel)
theorem qw672 : Cond.methodLink RX9 232 yX6_compounds ∈ TB := tb_i 672 (by decide +kernel) (by decide +kernel)
theorem qw673 : Cond.methodLink RX9 235 yX6_oldest ∈ TB := tb_i 673 (by decide +kernel) (by decide +kernel)
theorem qw674 : Cond.instanceMethod yX6_oldest ∈ TB := tb_i 674 (by decide +kernel) (by decide +kernel)
theorem qw675 : Cond.selects RX6 yX6_oldest yX6_oldest ∈ TB := tb_i 675 (by decide +kernel) (by decide +kernel)
theorem qw676 : Cond.code yX6_oldest cX6_oldest 3 (some FieldType.int) ∈ TB := tb_i 676 (by decide +kernel) (by decide +kernel)
theorem qw680 : Cond.methodLink RL 153 yL_wellOf ∈ TB := tb_i 680 (by decide +kernel) (by decide +kernel)
theorem qw681 : Cond.static yL_wellOf ∈ TB := tb_i 681 (by decide +kernel) (by decide +kernel)
theorem qw683 : Cond.methodLink RL 64 yX9_wellOf ∈ TB := tb_i 683 (by decide +kernel) (by decide +kernel)
theorem qw684 : Cond.instanceMethod yX9_wellOf ∈ TB := tb_i 684 (by decide +kernel) (by decide +kernel)
theorem qw685 : Cond.selects RX9 yX9_wellOf yX9_wellOf ∈ TB := tb_i 685 (by decide +kernel) (by decide +kernel)
theorem qw686 : Cond.code yX9_wellOf cX9_wellOf 4 (some FieldType.int) ∈ TB := tb_i 686 (by decide +kernel) (by decide +kernel)
theorem qw687 : Cond.methodLink RL 156 yL_lotOf ∈ TB := tb_i 687 (by decide +kernel) (by decide +kernel)
theorem qw688 : Cond.static yL_lotOf ∈ TB := tb_i 688 (by decide +kernel) (by decide +kernel)
theorem qw690 : Cond.methodLink RL 67 yX9_lotOf ∈ TB := tb_i 690 (by decide +kernel) (by decide +kernel)
theorem qw691 : Cond.instanceMethod yX9_lotOf ∈ TB := tb_i 691 (by decide +kernel) (by decide +kernel)
theorem qw692 : Cond.selects RX9 yX9_lotOf yX9_lotOf ∈ TB := tb_i 692 (by decide +kernel) (by decide +kernel)
theorem qw693 : Cond.code yX9_lotOf cX9_lotOf 4 (some FieldType.int) ∈ TB := tb_i 693 (by decide +kernel) (by decide +kernel)
theorem qw694 : Cond.methodLink RX9 247 yX2_leastAge ∈ TB := tb_i 694 (by decide +kernel) (by decide +kernel)
theorem qw695 : Cond.methodLink RX9 250 yX2_greatestAge ∈ TB := tb_i 695 (by decide +kernel) (by decide +kernel)
theorem qw696 : Cond.instanceMethod yX2_greatestAge ∈ TB := tb_i 696 (by decide +kernel) (by decide +kernel)
theorem qw697 : Cond.selects RX2 yX2_greatestAge yX2_greatestAge ∈ TB := tb_i 697 (by decide +kernel) (by decide +kernel)
theorem qw698 : Cond.code yX2_greatestAge cX2_greatestAge 1 (some FieldType.int) ∈ TB := tb_i 698 (by decide +kernel) (by decide +kernel)
theorem qw699 : Cond.methodLink RX2 36 yX6_oldest ∈ TB := tb_i 699 (by decide +kernel) (by decide +kernel)
theorem qw700 : Cond.methodLink RX9 253 yX2_truth ∈ TB := tb_i 700 (by decide +kernel) (by decide +kernel)
theorem qw701 : Cond.instanceMethod yX2_truth ∈ TB := tb_i 701 (by decide +kernel) (by decide +kernel)
theorem qw702 : Cond.selects RX2 yX2_truth yX2_truth ∈ TB := tb_i 702 (by decide +kernel) (by decide +kernel)
theorem qw703 : Cond.code yX2_truth cX2_truth 1 (some FieldType.int) ∈ TB := tb_i 703 (by decide +kernel) (by decide +kernel)
theorem qw704 : Cond.methodLink RL 159 yL_age ∈ TB := tb_i 704 (by decide +kernel) (by decide +kernel)
theorem qw705 : Cond.static yL_age ∈ TB := tb_i 705 (by decide +kernel) (by decide +kernel)
theorem qw707 : Cond.methodLink RL 70 yX9_age ∈ TB := tb_i 707 (by decide +kernel) (by decide +kernel)
theorem qw708 : Cond.instanceMethod yX9_age ∈ TB := tb_i 708 (by decide +kernel) (by decide +kernel)
theorem qw709 : Cond.selects RX9 yX9_age yX9_age ∈ TB := tb_i 709 (by decide +kernel) (by decide +kernel)
theorem qw710 : Cond.code yX9_age cX9_age 2 (some FieldType.float) ∈ TB := tb_i 710 (by decide +kernel) (by decide +kernel)
theorem qw711 : Cond.methodLink RX9 256 yX2_meanAge ∈ TB := tb_i 711 (by decide +kernel) (by decide +kernel)
theorem qw712 : Cond.instanceMethod yX2_meanAge ∈ TB := tb_i 712 (by decide +kernel) (by decide +kernel)
theorem qw713 : Cond.selects RX2 yX2_meanAge yX2_meanAge ∈ TB := tb_i 713 (by decide +kernel) (by decide +kernel)
theorem qw714 : Cond.code yX2_meanAge cX2_meanAge 1 (some FieldType.float) ∈ TB := tb_i 714 (by decide +kernel) (by decide +kernel)
theorem qw715 : Cond.methodLink RX2 42 yX6_agesIn ∈ TB := tb_i 715 (by decide +kernel) (by decide +kernel)
theorem qw716 : Cond.instanceMethod yX6_agesIn ∈ TB := tb_i 716 (by decide +kernel) (by decide +kernel)
theorem qw717 : Cond.selects RX6 yX6_agesIn yX6_agesIn ∈ TB := tb_i 717 (by decide +kernel) (by decide +kernel)
theorem qw718 : Cond.code yX6_agesIn cX6_agesIn 4 (some FieldType.int) ∈ TB := tb_i 718 (by decide +kernel) (by decide +kernel)
theorem qw719 : Cond.methodLink RL 163 yL_best ∈ TB := tb_i 719 (by decide +kernel) (by decide +kernel)
theorem qw720 : Cond.static yL_best ∈ TB := tb_i 720 (by decide +kernel) (by decide +kernel)
theorem qw722 : Cond.methodLink RL 74 yX9_best ∈ TB := tb_i 722 (by decide +kernel) (by decide +kernel)
theorem qw723 : Cond.instanceMethod yX9_best ∈ TB := tb_i 723 (by decide +kernel) (by decide +kernel)
theorem qw724 : Cond.selects RX9 yX9_best yX9_best ∈ TB := tb_i 724 (by decide +kernel) (by decide +kernel)
theorem qw725 : Cond.code yX9_best cX9_best 3 (some FieldType.int) ∈ TB := tb_i 725 (by decide +kernel) (by decide +kernel)
theorem qw726 : Cond.methodLink RL 166 yL_from ∈ TB := tb_i 726 (by decide +kernel) (by decide +kernel)
theorem qw727 : Cond.static yL_from ∈ TB := tb_i 727 (by decide +kernel) (by decide +kernel)
theorem qw729 : Cond.methodLink RL 77 yX9_from ∈ TB := tb_i 729 (by decide +kernel) (by decide +kernel)
theorem qw730 : Cond.instanceMethod yX9_from ∈ TB := tb_i 730 (by decide +kernel) (by decide +kernel)
theorem qw731 : Cond.selects RX9 yX9_from yX9_from ∈ TB := tb_i 731 (by decide +kernel) (by decide +kernel)
theorem qw732 : Cond.code yX9_from cX9_from 5 (some FieldType.int) ∈ TB := tb_i 732 (by decide +kernel) (by decide +kernel)
theorem qw733 : Cond.methodLink RX9 260 yX6_unitsThatFell ∈ TB := tb_i 733 (by decide +kernel) (by decide +kernel)
theorem qw734 : Cond.instanceMethod yX6_unitsThatFell ∈ TB := tb_i 734 (by decide +kernel) (by decide +kernel)
theorem qw735 : Cond.selects RX6 yX6_unitsThatFell yX6_unitsThatFell ∈ TB := tb_i 735 (by decide +kernel) (by decide +kernel)
theorem qw736 : Cond.code yX6_unitsThatFell cX6_unitsThatFell 5 (some FieldType.int) ∈ TB := tb_i 736 (by decide +kernel) (by decide +kernel)
theorem qw737 : Cond.methodLink RL 170 yL_fromAnew ∈ TB := tb_i 737 (by decide +kernel) (by decide +kernel)
theorem qw738 : Cond.static yL_fromAnew ∈ TB := tb_i 738 (by decide +kernel) (by decide +kernel)
theorem qw740 : Cond.methodLink RL 81 yX9_fromAnew ∈ TB := tb_i 740 (by decide +kernel) (by decide +kernel)
theorem qw741 : Cond.instanceMethod yX9_fromAnew ∈ TB := tb_i 741 (by decide +kernel) (by decide +kernel)
theorem qw742 : Cond.selects RX9 yX9_fromAnew yX9_fromAnew ∈ TB := tb_i 742 (by decide +kernel) (by decide +kernel)
theorem qw743 : Cond.code yX9_fromAnew cX9_fromAnew 4 (some FieldType.int) ∈ TB := tb_i 743 (by decide +kernel) (by decide +kernel)
theorem qw744 : Cond.methodLink RX9 263 yX1_follow ∈ TB := tb_i 744 (by decide +kernel) (by decide +kernel)
theorem qw745 : Cond.instanceMethod yX1_follow ∈ TB := tb_i 745 (by decide +kernel) (by decide +kernel)
theorem qw746 : Cond.selects RX1 yX1_follow yX1_follow ∈ TB := tb_i 746 (by decide +kernel) (by decide +kernel)
theorem qw747 : Cond.code yX1_follow cX1_follow 6 (some FieldType.int) ∈ TB := tb_i 747 (by decide +kernel) (by decide +kernel)
theorem qw748 : Cond.methodLink RX1 33 yX1_emptyTanks ∈ TB := tb_i 748 (by decide +kernel) (by decide +kernel)
theorem qw750 : Cond.instanceMethod yX1_emptyTanks ∈ TB := tb_i 750 (by decide +kernel) (by decide +kernel)
theorem qw751 : Cond.code yX1_emptyTanks cX1_emptyTanks 5 (none) ∈ TB := tb_i 751 (by decide +kernel) (by decide +kernel)
theorem qw752 : Cond.methodLink RX1 61 yX1_putAway ∈ TB := tb_i 752 (by decide +kernel) (by decide +kernel)
theorem qw754 : Cond.instanceMethod yX1_putAway ∈ TB := tb_i 754 (by decide +kernel) (by decide +kernel)
theorem qw755 : Cond.code yX1_putAway cX1_putAway 2 (none) ∈ TB := tb_i 755 (by decide +kernel) (by decide +kernel)
theorem qw756 : Cond.methodLink RX1 65 yX7_startAt ∈ TB := tb_i 756 (by decide +kernel) (by decide +kernel)
theorem qw757 : Cond.instanceMethod yX7_startAt ∈ TB := tb_i 757 (by decide +kernel) (by decide +kernel)
theorem qw758 : Cond.selects RX7 yX7_startAt yX7_startAt ∈ TB := tb_i 758 (by decide +kernel) (by decide +kernel)
theorem qw759 : Cond.code yX7_startAt cX7_startAt 2 (none) ∈ TB := tb_i 759 (by decide +kernel) (by decide +kernel)
theorem qw760 : Cond.methodLink RX1 46 yX1_rainAgain ∈ TB := tb_i 760 (by decide +kernel) (by decide +kernel)
theorem qw762 : Cond.instanceMethod yX1_rainAgain ∈ TB := tb_i 762 (by decide +kernel) (by decide +kernel)
theorem qw763 : Cond.code yX1_rainAgain cX1_rainAgain 5 (none) ∈ TB := tb_i 763 (by decide +kernel) (by decide +kernel)
theorem qw764 : Cond.methodLink RX1 74 yX1_newPiece ∈ TB := tb_i 764 (by decide +kernel) (by decide +kernel)
theorem qw766 : Cond.instanceMethod yX1_newPiece ∈ TB := tb_i 766 (by decide +kernel) (by decide +kernel)
theorem qw767 : Cond.code yX1_newPiece cX1_newPiece 4 (some (FieldType.object "Springward$Piece")) ∈ TB := tb_i 767 (by decide +kernel) (by decide +kernel)
theorem qw768 : Cond.classLink RX1 58 RX4 ∈ TB := tb_i 768 (by decide +kernel) (by decide +kernel)
theorem qw769 : Cond.instantiable RX4 3 ∈ TB := tb_i 769 (by decide +kernel) (by decide +kernel)
theorem qw770 : Cond.methodLinkNest RX1 96 yX4_init RX9 ∈ TN := tn_i 770 (by decide +kernel) rfl
theorem qw771 : Cond.instanceMethod yX4_init ∈ TB := tb_i 771 (by decide +kernel) (by decide +kernel)
theorem qw772 : Cond.code yX4_init cX4_init 1 (none) ∈ TB := tb_i 772 (by decide +kernel) (by decide +kernel)
theorem qw773 : Cond.methodLink RX4 1 objectInit ∈ TB := tb_i 773 (by decide +kernel) (by decide +kernel)
theorem qw774 : Cond.fieldLink RX1 85 RX4 "place" "I" ∈ TB := tb_i 774 (by decide +kernel) (by decide +kernel)
theorem qw775 : Cond.fieldLink RX1 92 RX4 "units" "I" ∈ TB := tb_i 775 (by decide +kernel) (by decide +kernel)
theorem qw776 : Cond.fieldLink RX7 7 RX4 "next" "LSpringward$Piece;" ∈ TB := tb_i 776 (by decide +kernel) (by decide +kernel)
theorem qw777 : Cond.fieldLink RX1 57 RX4 "next" "LSpringward$Piece;" ∈ TB := tb_i 777 (by decide +kernel) (by decide +kernel)
theorem qw785 : Cond.methodLink RX1 78 yX7_add ∈ TB := tb_i 785 (by decide +kernel) (by decide +kernel)
theorem qw786 : Cond.instanceMethod yX7_add ∈ TB := tb_i 786 (by decide +kernel) (by decide +kernel)
theorem qw787 : Cond.selects RX7 yX7_add yX7_add ∈ TB := tb_i 787 (by decide +kernel) (by decide +kernel)
theorem qw788 : Cond.code yX7_add cX7_add 2 (none) ∈ TB := tb_i 788 (by decide +kernel) (by decide +kernel)
theorem qw789 : Cond.methodLink RX1 50 yX1_moveAgain ∈ TB := tb_i 789 (by decide +kernel) (by decide +kernel)
theorem qw791 : Cond.instanceMethod yX1_moveAgain ∈ TB := tb_i 791 (by decide +kernel) (by decide +kernel)
theorem qw792 : Cond.code yX1_moveAgain cX1_moveAgain 8 (some FieldType.int) ∈ TB := tb_i 792 (by decide +kernel) (by decide +kernel)
theorem qw793 : Cond.methodLink RX1 81 yX1_tankAt ∈ TB := tb_i 793 (by decide +kernel) (by decide +kernel)
theorem qw795 : Cond.instanceMethod yX1_tankAt ∈ TB := tb_i 795 (by decide +kernel) (by decide +kernel)
theorem qw796 : Cond.code yX1_tankAt cX1_tankAt 2 (some (FieldType.object "Springward$Tank")) ∈ TB := tb_i 796 (by decide +kernel) (by decide +kernel)
theorem qw797 : Cond.methodLink RX1 88 yX1_cut ∈ TB := tb_i 797 (by decide +kernel) (by decide +kernel)
theorem qw799 : Cond.instanceMethod yX1_cut ∈ TB := tb_i 799 (by decide +kernel) (by decide +kernel)
theorem qw800 : Cond.code yX1_cut cX1_cut 5 (some (FieldType.object "Springward$Piece")) ∈ TB := tb_i 800 (by decide +kernel) (by decide +kernel)
theorem qw801 : Cond.methodLink RL 173 yL_whence ∈ TB := tb_i 801 (by decide +kernel) (by decide +kernel)
theorem qw802 : Cond.static yL_whence ∈ TB := tb_i 802 (by decide +kernel) (by decide +kernel)
theorem qw804 : Cond.methodLink RL 84 yX9_whence ∈ TB := tb_i 804 (by decide +kernel) (by decide +kernel)
theorem qw805 : Cond.instanceMethod yX9_whence ∈ TB := tb_i 805 (by decide +kernel) (by decide +kernel)
theorem qw806 : Cond.selects RX9 yX9_whence yX9_whence ∈ TB := tb_i 806 (by decide +kernel) (by decide +kernel)
theorem qw807 : Cond.code yX9_whence cX9_whence 5 (some FieldType.int) ∈ TB := tb_i 807 (by decide +kernel) (by decide +kernel)
theorem qw808 : Cond.methodLink RX9 267 yX6_earliestWith ∈ TB := tb_i 808 (by decide +kernel) (by decide +kernel)
theorem qw809 : Cond.instanceMethod yX6_earliestWith ∈ TB := tb_i 809 (by decide +kernel) (by decide +kernel)
theorem qw810 : Cond.selects RX6 yX6_earliestWith yX6_earliestWith ∈ TB := tb_i 810 (by decide +kernel) (by decide +kernel)
theorem qw811 : Cond.code yX6_earliestWith cX6_earliestWith 4 (some (FieldType.object "Springward$Portion")) ∈ TB := tb_i 811 (by decide +kernel) (by decide +kernel)
theorem qw812 : Cond.methodLink RX6 57 yX6_isEarlier ∈ TB := tb_i 812 (by decide +kernel) (by decide +kernel)
theorem qw813 : Cond.static yX6_isEarlier ∈ TB := tb_i 813 (by decide +kernel) (by decide +kernel)
theorem qw814 : Cond.code yX6_isEarlier cX6_isEarlier 2 (some FieldType.boolean) ∈ TB := tb_i 814 (by decide +kernel) (by decide +kernel)
theorem qw815 : Cond.methodLink RL 176 yL_sum ∈ TB := tb_i 815 (by decide +kernel) (by decide +kernel)
theorem qw816 : Cond.static yL_sum ∈ TB := tb_i 816 (by decide +kernel) (by decide +kernel)
theorem qw818 : Cond.methodLink RL 87 yX9_sum ∈ TB := tb_i 818 (by decide +kernel) (by decide +kernel)
theorem qw819 : Cond.instanceMethod yX9_sum ∈ TB := tb_i 819 (by decide +kernel) (by decide +kernel)
theorem qw820 : Cond.selects RX9 yX9_sum yX9_sum ∈ TB := tb_i 820 (by decide +kernel) (by decide +kernel)
theorem qw821 : Cond.code yX9_sum cX9_sum 2 (some FieldType.long) ∈ TB := tb_i 821 (by decide +kernel) (by decide +kernel)
theorem qw822 : Cond.methodLink RX9 277 yX9_unitsInCells ∈ TB := tb_i 822 (by decide +kernel) (by decide +kernel)
theorem qw824 : Cond.instanceMethod yX9_unitsInCells ∈ TB := tb_i 824 (by decide +kernel) (by decide +kernel)
theorem qw825 : Cond.code yX9_unitsInCells cX9_unitsInCells 4 (some FieldType.long) ∈ TB := tb_i 825 (by decide +kernel) (by decide +kernel)
theorem qw826 : Cond.methodLink RX9 281 yX9_unitsBottled ∈ TB := tb_i 826 (by decide +kernel) (by decide +kernel)
theorem qw828 : Cond.instanceMethod yX9_unitsBottled ∈ TB := tb_i 828 (by decide +kernel) (by decide +kernel)
theorem qw829 : Cond.code yX9_unitsBottled cX9_unitsBottled 4 (some FieldType.long) ∈ TB := tb_i 829 (by decide +kernel) (by decide +kernel)
theorem qw830 : Cond.methodLink RX9 284 yX9_falseLabels ∈ TB := tb_i 830 (by decide +kernel) (by decide +kernel)
theorem qw832 : Cond.instanceMethod yX9_falseLabels ∈ TB := tb_i 832 (by decide +kernel) (by decide +kernel)
theorem qw833 : Cond.code yX9_falseLabels cX9_falseLabels 4 (some FieldType.long) ∈ TB := tb_i 833 (by decide +kernel) (by decide +kernel)
theorem qw834 : Cond.classLink RL 92 RX10 ∈ TB := tb_i 834 (by decide +kernel) (by decide +kernel)
theorem qw835 : Cond.instantiable RX10 40 ∈ TB := tb_i 835 (by decide +kernel) (by decide +kernel)
theorem qw836 : Cond.methodLink RL 94 yX10_init ∈ TB := tb_i 836 (by decide +kernel) (by decide +kernel)
theorem qw837 : Cond.instanceMethod yX10_init ∈ TB := tb_i 837 (by decide +kernel) (by decide +kernel)
theorem qw838 : Cond.code yX10_init cX10_init 2 (none) ∈ TB := tb_i 838 (by decide +kernel) (by decide +kernel)
theorem qw839 : Cond.methodLink RX10 1 objectInit ∈ TB := tb_i 839 (by decide +kernel) (by decide +kernel)
theorem qw840 : Cond.fieldLink RX10 131 RX10 "year" "I" ∈ TB := tb_i 840 (by decide +kernel) (by decide +kernel)
theorem qw841 : Cond.fieldLink RX10 7 RX10 "years" "[I" ∈ TB := tb_i 841 (by decide +kernel) (by decide +kernel)
theorem qw842 : Cond.fieldLink RX10 13 RX10 "land" "[I" ∈ TB := tb_i 842 (by decide +kernel) (by decide +kernel)
theorem qw843 : Cond.fieldLink RX10 16 RX10 "leads" "[I" ∈ TB := tb_i 843 (by decide +kernel) (by decide +kernel)
theorem qw844 : Cond.fieldLink RX10 19 RX10 "waiting" "[I" ∈ TB := tb_i 844 (by decide +kernel) (by decide +kernel)
theorem qw845 : Cond.fieldLink RX10 22 RX10 "contract" "[I" ∈ TB := tb_i 845 (by decide +kernel) (by decide +kernel)
theorem qw846 : Cond.fieldLink RX10 25 RX10 "pay" "[I" ∈ TB := tb_i 846 (by decide +kernel) (by decide +kernel)
theorem qw847 : Cond.fieldLink RX10 28 RX10 "first" "[I" ∈ TB := tb_i 847 (by decide +kernel) (by decide +kernel)
theorem qw848 : Cond.fieldLink RX10 31 RX10 "last" "[I" ∈ TB := tb_i 848 (by decide +kernel) (by decide +kernel)
theorem qw849 : Cond.fieldLink RX10 34 RX10 "units" "[I" ∈ TB := tb_i 849 (by decide +kernel) (by decide +kernel)
theorem qw850 : Cond.fieldLink RX10 117 RX10 "knots" "I" ∈ TB := tb_i 850 (by decide +kernel) (by decide +kernel)
theorem qw851 : Cond.fieldLink RX10 37 RX10 "next" "[I" ∈ TB := tb_i 851 (by decide +kernel) (by decide +kernel)
theorem qw852 : Cond.fieldLink RX10 40 RX10 "many" "[I" ∈ TB := tb_i 852 (by decide +kernel) (by decide +kernel)
theorem qw853 : Cond.fieldLink RX10 43 RX10 "fellOn" "[I" ∈ TB := tb_i 853 (by decide +kernel) (by decide +kernel)
theorem qw854 : Cond.fieldLink RX10 46 RX10 "fellIn" "[I" ∈ TB := tb_i 854 (by decide +kernel) (by decide +kernel)
theorem qw855 : Cond.fieldLink RX10 49 RX10 "nitrate" "[I" ∈ TB := tb_i 855 (by decide +kernel) (by decide +kernel)
theorem qw856 : Cond.fieldLink RX10 52 RX10 "compounds" "[I" ∈ TB := tb_i 856 (by decide +kernel) (by decide +kernel)
theorem qw857 : Cond.fieldLink RX10 55 RX10 "take" "[I" ∈ TB := tb_i 857 (by decide +kernel) (by decide +kernel)
theorem qw858 : Cond.fieldLink RX10 97 RX10 "wells" "I" ∈ TB := tb_i 858 (by decide +kernel) (by decide +kernel)
theorem qw859 : Cond.fieldLink RX10 58 RX10 "wellCell" "[I" ∈ TB := tb_i 859 (by decide +kernel) (by decide +kernel)
theorem qw860 : Cond.fieldLink RX10 61 RX10 "permit" "[I" ∈ TB := tb_i 860 (by decide +kernel) (by decide +kernel)
theorem qw861 : Cond.fieldLink RX10 64 RX10 "took" "[I" ∈ TB := tb_i 861 (by decide +kernel) (by decide +kernel)
theorem qw862 : Cond.fieldLink RX10 156 RX10 "droughtCell" "I" ∈ TB := tb_i 862 (by decide +kernel) (by decide +kernel)
theorem qw863 : Cond.fieldLink RX10 159 RX10 "firstLimit" "I" ∈ TB := tb_i 863 (by decide +kernel) (by decide +kernel)
theorem qw864 : Cond.fieldLink RX10 162 RX10 "secondLimit" "I" ∈ TB := tb_i 864 (by decide +kernel) (by decide +kernel)
theorem qw865 : Cond.fieldLink RX10 67 RX10 "share" "I" ∈ TB := tb_i 865 (by decide +kernel) (by decide +kernel)
theorem qw866 : Cond.fieldLink RX10 100 RX10 "lots" "I" ∈ TB := tb_i 866 (by decide +kernel) (by decide +kernel)
theorem qw867 : Cond.fieldLink RX10 71 RX10 "lotWell" "[I" ∈ TB := tb_i 867 (by decide +kernel) (by decide +kernel)
theorem qw868 : Cond.fieldLink RX10 74 RX10 "lotYear" "[I" ∈ TB := tb_i 868 (by decide +kernel) (by decide +kernel)
theorem qw869 : Cond.fieldLink RX10 77 RX10 "treated" "[I" ∈ TB := tb_i 869 (by decide +kernel) (by decide +kernel)
theorem qw870 : Cond.fieldLink RX10 80 RX10 "label" "[I" ∈ TB := tb_i 870 (by decide +kernel) (by decide +kernel)
theorem qw871 : Cond.fieldLink RX10 83 RX10 "isTrue" "[Z" ∈ TB := tb_i 871 (by decide +kernel) (by decide +kernel)
theorem qw872 : Cond.fieldLink RX10 87 RX10 "isRecalled" "[Z" ∈ TB := tb_i 872 (by decide +kernel) (by decide +kernel)
theorem qw873 : Cond.fieldLink RX10 183 RX10 "forbidden" "I" ∈ TB := tb_i 873 (by decide +kernel) (by decide +kernel)
theorem qw874 : Cond.fieldLink RX10 134 RX10 "fell" "J" ∈ TB := tb_i 874 (by decide +kernel) (by decide +kernel)
theorem qw875 : Cond.fieldLink RX10 142 RX10 "came" "J" ∈ TB := tb_i 875 (by decide +kernel) (by decide +kernel)
theorem qw876 : Cond.fieldLink RX10 174 RX10 "bottled" "J" ∈ TB := tb_i 876 (by decide +kernel) (by decide +kernel)
theorem qw877 : Cond.fieldLink RX10 148 RX10 "cost" "J" ∈ TB := tb_i 877 (by decide +kernel) (by decide +kernel)
theorem qw878 : Cond.fieldLink RX10 177 RX10 "got" "J" ∈ TB := tb_i 878 (by decide +kernel) (by decide +kernel)
theorem qw879 : Cond.fieldLink RX10 90 RX10 "thrown" "I" ∈ TB := tb_i 879 (by decide +kernel) (by decide +kernel)
theorem qw963 : Cond.methodLink RL 101 yX10_thrown ∈ TB := tb_i 963 (by decide +kernel) (by decide +kernel)
theorem qw964 : Cond.instanceMethod yX10_thrown ∈ TB := tb_i 964 (by decide +kernel) (by decide +kernel)
theorem qw965 : Cond.selects RX10 yX10_thrown yX10_thrown ∈ TB := tb_i 965 (by decide +kernel) (by decide +kernel)
theorem qw966 : Cond.code yX10_thrown cX10_thrown 1 (some FieldType.int) ∈ TB := tb_i 966 (by decide +kernel) (by decide +kernel)
theorem qw967 : Cond.methodLink RL 100 yX10_rock ∈ TB := tb_i 967 (by decide +kernel) (by decide +kernel)
theorem qw968 : Cond.instanceMethod yX10_rock ∈ TB := tb_i 968 (by decide +kernel) (by decide +kernel)
theorem qw969 : Cond.selects RX10 yX10_rock yX10_rock ∈ TB := tb_i 969 (by decide +kernel) (by decide +kernel)
theorem qw970 : Cond.code yX10_rock cX10_rock 4 (some FieldType.int) ∈ TB := tb_i 970 (by decide +kernel) (by decide +kernel)
theorem qw971 : Cond.methodLink RX10 103 yX10_isCell ∈ TB := tb_i 971 (by decide +kernel) (by decide +kernel)
theorem qw972 : Cond.static yX10_isCell ∈ TB := tb_i 972 (by decide +kernel) (by decide +kernel)
theorem qw973 : Cond.code yX10_isCell cX10_isCell 1 (some FieldType.boolean) ∈ TB := tb_i 973 (by decide +kernel) (by decide +kernel)
theorem qw974 : Cond.methodLink RX10 93 yX10_isIn ∈ TB := tb_i 974 (by decide +kernel) (by decide +kernel)
theorem qw975 : Cond.static yX10_isIn ∈ TB := tb_i 975 (by decide +kernel) (by decide +kernel)
theorem qw976 : Cond.code yX10_isIn cX10_isIn 3 (some FieldType.boolean) ∈ TB := tb_i 976 (by decide +kernel) (by decide +kernel)
theorem qw977 : Cond.methodLink RX10 107 yX10_can ∈ TB := tb_i 977 (by decide +kernel) (by decide +kernel)
theorem qw979 : Cond.instanceMethod yX10_can ∈ TB := tb_i 979 (by decide +kernel) (by decide +kernel)
theorem qw980 : Cond.code yX10_can cX10_can 2 (some FieldType.boolean) ∈ TB := tb_i 980 (by decide +kernel) (by decide +kernel)
theorem qw981 : Cond.methodLink RL 107 yX10_land ∈ TB := tb_i 981 (by decide +kernel) (by decide +kernel)
theorem qw982 : Cond.instanceMethod yX10_land ∈ TB := tb_i 982 (by decide +kernel) (by decide +kernel)
theorem qw983 : Cond.selects RX10 yX10_land yX10_land ∈ TB := tb_i 983 (by decide +kernel) (by decide +kernel)
theorem qw984 : Cond.code yX10_land cX10_land 6 (some FieldType.int) ∈ TB := tb_i 984 (by decide +kernel) (by decide +kernel)
theorem qw985 : Cond.methodLink RL 110 yX10_lead ∈ TB := tb_i 985 (by decide +kernel) (by decide +kernel)
theorem qw986 : Cond.instanceMethod yX10_lead ∈ TB := tb_i 986 (by decide +kernel) (by decide +kernel)
theorem qw987 : Cond.selects RX10 yX10_lead yX10_lead ∈ TB := tb_i 987 (by decide +kernel) (by decide +kernel)
theorem qw988 : Cond.code yX10_lead cX10_lead 5 (some FieldType.int) ∈ TB := tb_i 988 (by decide +kernel) (by decide +kernel)
theorem qw989 : Cond.methodLink RL 113 yX10_spill ∈ TB := tb_i 989 (by decide +kernel) (by decide +kernel)
theorem qw990 : Cond.instanceMethod yX10_spill ∈ TB := tb_i 990 (by decide +kernel) (by decide +kernel)
theorem qw991 : Cond.selects RX10 yX10_spill yX10_spill ∈ TB := tb_i 991 (by decide +kernel) (by decide +kernel)
theorem qw992 : Cond.code yX10_spill cX10_spill 4 (some FieldType.int) ∈ TB := tb_i 992 (by decide +kernel) (by decide +kernel)
theorem qw993 : Cond.methodLink RX10 110 yX10_isCompound ∈ TB := tb_i 993 (by decide +kernel) (by decide +kernel)
theorem qw994 : Cond.static yX10_isCompound ∈ TB := tb_i 994 (by decide +kernel) (by decide +kernel)
theorem qw995 : Cond.code yX10_isCompound cX10_isCompound 1 (some FieldType.boolean) ∈ TB := tb_i 995 (by decide +kernel) (by decide +kernel)
theorem qw996 : Cond.methodLink RX10 113 yX10_travel ∈ TB := tb_i 996 (by decide +kernel) (by decide +kernel)
theorem qw998 : Cond.instanceMethod yX10_travel ∈ TB := tb_i 998 (by decide +kernel) (by decide +kernel)
theorem qw999 : Cond.code yX10_travel cX10_travel 4 (some FieldType.int) ∈ TB := tb_i 999 (by decide +kernel) (by decide +kernel)
theorem qw1000 : Cond.methodLink RL 117 yX10_contract ∈ TB := tb_i 1000 (by decide +kernel) (by decide +kernel)
theorem qw1001 : Cond.instanceMethod yX10_contract ∈ TB := tb_i 1001 (by decide +kernel) (by decide +kernel)
theorem qw1002 : Cond.selects RX10 yX10_contract yX10_contract ∈ TB := tb_i 1002 (by decide +kernel) (by decide +kernel)
theorem qw1003 : Cond.code yX10_contract cX10_contract 6 (none) ∈ TB := tb_i 1003 (by decide +kernel) (by decide +kernel)
theorem qw1004 : Cond.methodLink RL 120 yX10_pass ∈ TB := tb_i 1004 (by decide +kernel) (by decide +kernel)
theorem qw1005 : Cond.instanceMethod yX10_pass ∈ TB := tb_i 1005 (by decide +kernel) (by decide +kernel)
theorem qw1006 : Cond.selects RX10 yX10_pass yX10_pass ∈ TB := tb_i 1006 (by decide +kernel) (by decide +kernel)
theorem qw1007 : Cond.code yX10_pass cX10_pass 5 (some FieldType.int) ∈ TB := tb_i 1007 (by decide +kernel) (by decide +kernel)
theorem qw1008 : Cond.methodLink RX10 151 yX10_passes ∈ TB := tb_i 1008 (by decide +kernel) (by decide +kernel)
theorem qw1010 : Cond.instanceMethod yX10_passes ∈ TB := tb_i 1010 (by decide +kernel) (by decide +kernel)
theorem qw1011 : Cond.code yX10_passes cX10_passes 3 (none) ∈ TB := tb_i 1011 (by decide +kernel) (by decide +kernel)
theorem qw1012 : Cond.methodLink RX10 138 yX10_moves ∈ TB := tb_i 1012 (by decide +kernel) (by decide +kernel)
theorem qw1014 : Cond.instanceMethod yX10_moves ∈ TB := tb_i 1014 (by decide +kernel) (by decide +kernel)
theorem qw1015 : Cond.code yX10_moves cX10_moves 6 (none) ∈ TB := tb_i 1015 (by decide +kernel) (by decide +kernel)
theorem qw1016 : Cond.methodLink RX10 123 yX10_takesOff ∈ TB := tb_i 1016 (by decide +kernel) (by decide +kernel)
theorem qw1018 : Cond.instanceMethod yX10_takesOff ∈ TB := tb_i 1018 (by decide +kernel) (by decide +kernel)
theorem qw1019 : Cond.code yX10_takesOff cX10_takesOff 4 (some FieldType.int) ∈ TB := tb_i 1019 (by decide +kernel) (by decide +kernel)
theorem qw1020 : Cond.methodLink RX10 120 yX10_knots ∈ TB := tb_i 1020 (by decide +kernel) (by decide +kernel)
theorem qw1022 : Cond.instanceMethod yX10_knots ∈ TB := tb_i 1022 (by decide +kernel) (by decide +kernel)
theorem qw1023 : Cond.code yX10_knots cX10_knots 6 (some FieldType.int) ∈ TB := tb_i 1023 (by decide +kernel) (by decide +kernel)
theorem qw1024 : Cond.methodLink RX10 127 yX10_appends ∈ TB := tb_i 1024 (by decide +kernel) (by decide +kernel)
theorem qw1026 : Cond.instanceMethod yX10_appends ∈ TB := tb_i 1026 (by decide +kernel) (by decide +kernel)
theorem qw1027 : Cond.code yX10_appends cX10_appends 3 (none) ∈ TB := tb_i 1027 (by decide +kernel) (by decide +kernel)
theorem qw1028 : Cond.methodLink RX10 145 yX10_rains ∈ TB := tb_i 1028 (by decide +kernel) (by decide +kernel)
theorem qw1030 : Cond.instanceMethod yX10_rains ∈ TB := tb_i 1030 (by decide +kernel) (by decide +kernel)
theorem qw1031 : Cond.code yX10_rains cX10_rains 4 (none) ∈ TB := tb_i 1031 (by decide +kernel) (by decide +kernel)
theorem qw1032 : Cond.methodLink RL 123 yX10_well ∈ TB := tb_i 1032 (by decide +kernel) (by decide +kernel)
theorem qw1033 : Cond.instanceMethod yX10_well ∈ TB := tb_i 1033 (by decide +kernel) (by decide +kernel)
theorem qw1034 : Cond.selects RX10 yX10_well yX10_well ∈ TB := tb_i 1034 (by decide +kernel) (by decide +kernel)
theorem qw1035 : Cond.code yX10_well cX10_well 5 (some FieldType.int) ∈ TB := tb_i 1035 (by decide +kernel) (by decide +kernel)
theorem qw1036 : Cond.methodLink RL 126 yX10_drought ∈ TB := tb_i 1036 (by decide +kernel) (by decide +kernel)
theorem qw1037 : Cond.instanceMethod yX10_drought ∈ TB := tb_i 1037 (by decide +kernel) (by decide +kernel)
theorem qw1038 : Cond.selects RX10 yX10_drought yX10_drought ∈ TB := tb_i 1038 (by decide +kernel) (by decide +kernel)
theorem qw1039 : Cond.code yX10_drought cX10_drought 5 (none) ∈ TB := tb_i 1039 (by decide +kernel) (by decide +kernel)
theorem qw1040 : Cond.constant RX10 155 (100000) ∈ TB := tb_i 1040 (by decide +kernel) (by decide +kernel)
theorem qw1041 : Cond.methodLink RL 130 yX10_share ∈ TB := tb_i 1041 (by decide +kernel) (by decide +kernel)
theorem qw1042 : Cond.instanceMethod yX10_share ∈ TB := tb_i 1042 (by decide +kernel) (by decide +kernel)
theorem qw1043 : Cond.selects RX10 yX10_share yX10_share ∈ TB := tb_i 1043 (by decide +kernel) (by decide +kernel)
theorem qw1044 : Cond.code yX10_share cX10_share 3 (some FieldType.int) ∈ TB := tb_i 1044 (by decide +kernel) (by decide +kernel)
theorem qw1045 : Cond.methodLink RL 133 yX10_bottle ∈ TB := tb_i 1045 (by decide +kernel) (by decide +kernel)
theorem qw1046 : Cond.instanceMethod yX10_bottle ∈ TB := tb_i 1046 (by decide +kernel) (by decide +kernel)
theorem qw1047 : Cond.selects RX10 yX10_bottle yX10_bottle ∈ TB := tb_i 1047 (by decide +kernel) (by decide +kernel)
theorem qw1048 : Cond.code yX10_bottle cX10_bottle 5 (some FieldType.int) ∈ TB := tb_i 1048 (by decide +kernel) (by decide +kernel)
theorem qw1049 : Cond.methodLink RX10 165 yX10_isWell ∈ TB := tb_i 1049 (by decide +kernel) (by decide +kernel)
theorem qw1051 : Cond.instanceMethod yX10_isWell ∈ TB := tb_i 1051 (by decide +kernel) (by decide +kernel)
theorem qw1052 : Cond.code yX10_isWell cX10_isWell 2 (some FieldType.boolean) ∈ TB := tb_i 1052 (by decide +kernel) (by decide +kernel)
theorem qw1053 : Cond.methodLink RX10 168 yX10_may ∈ TB := tb_i 1053 (by decide +kernel) (by decide +kernel)
theorem qw1055 : Cond.instanceMethod yX10_may ∈ TB := tb_i 1055 (by decide +kernel) (by decide +kernel)
theorem qw1056 : Cond.code yX10_may cX10_may 4 (some FieldType.int) ∈ TB := tb_i 1056 (by decide +kernel) (by decide +kernel)
theorem qw1057 : Cond.methodLink RX10 171 yX10_lotRow ∈ TB := tb_i 1057 (by decide +kernel) (by decide +kernel)
theorem qw1058 : Cond.static yX10_lotRow ∈ TB := tb_i 1058 (by decide +kernel) (by decide +kernel)
theorem qw1059 : Cond.code yX10_lotRow cX10_lotRow 1 (some FieldType.int) ∈ TB := tb_i 1059 (by decide +kernel) (by decide +kernel)
theorem qw1060 : Cond.methodLink RL 136 yX10_treat ∈ TB := tb_i 1060 (by decide +kernel) (by decide +kernel)
theorem qw1061 : Cond.instanceMethod yX10_treat ∈ TB := tb_i 1061 (by decide +kernel) (by decide +kernel)
theorem qw1062 : Cond.selects RX10 yX10_treat yX10_treat ∈ TB := tb_i 1062 (by decide +kernel) (by decide +kernel)
theorem qw1063 : Cond.code yX10_treat cX10_treat 4 (some FieldType.int) ∈ TB := tb_i 1063 (by decide +kernel) (by decide +kernel)
theorem qw1064 : Cond.methodLink RX10 180 yX10_isLot ∈ TB := tb_i 1064 (by decide +kernel) (by decide +kernel)
theorem qw1066 : Cond.instanceMethod yX10_isLot ∈ TB := tb_i 1066 (by decide +kernel) (by decide +kernel)
theorem qw1067 : Cond.code yX10_isLot cX10_isLot 2 (some FieldType.boolean) ∈ TB := tb_i 1067 (by decide +kernel) (by decide +kernel)
theorem qw1068 : Cond.methodLink RL 139 yX10_label ∈ TB := tb_i 1068 (by decide +kernel) (by decide +kernel)
theorem qw1069 : Cond.instanceMethod yX10_label ∈ TB := tb_i 1069 (by decide +kernel) (by decide +kernel)
theorem qw1070 : Cond.selects RX10 yX10_label yX10_label ∈ TB := tb_i 1070 (by decide +kernel) (by decide +kernel)
theorem qw1071 : Cond.code yX10_label cX10_label 5 (some FieldType.boolean) ∈ TB := tb_i 1071 (by decide +kernel) (by decide +kernel)
theorem qw1072 : Cond.methodLink RX10 201 yX10_isWater ∈ TB := tb_i 1072 (by decide +kernel) (by decide +kernel)
theorem qw1074 : Cond.instanceMethod yX10_isWater ∈ TB := tb_i 1074 (by decide +kernel) (by decide +kernel)
theorem qw1075 : Cond.code yX10_isWater cX10_isWater 7 (some FieldType.boolean) ∈ TB := tb_i 1075 (by decide +kernel) (by decide +kernel)
theorem qw1076 : Cond.methodLink RX10 186 yX10_fallOf ∈ TB := tb_i 1076 (by decide +kernel) (by decide +kernel)
theorem qw1078 : Cond.instanceMethod yX10_fallOf ∈ TB := tb_i 1078 (by decide +kernel) (by decide +kernel)
theorem qw1079 : Cond.code yX10_fallOf cX10_fallOf 5 (some FieldType.int) ∈ TB := tb_i 1079 (by decide +kernel) (by decide +kernel)
theorem qw1080 : Cond.methodLink RX10 190 yX10_compoundsOf ∈ TB := tb_i 1080 (by decide +kernel) (by decide +kernel)
theorem qw1082 : Cond.instanceMethod yX10_compoundsOf ∈ TB := tb_i 1082 (by decide +kernel) (by decide +kernel)
theorem qw1083 : Cond.code yX10_compoundsOf cX10_compoundsOf 4 (some FieldType.int) ∈ TB := tb_i 1083 (by decide +kernel) (by decide +kernel)
theorem qw1084 : Cond.methodLink RX10 193 yX10_nitrateOf ∈ TB := tb_i 1084 (by decide +kernel) (by decide +kernel)
theorem qw1086 : Cond.instanceMethod yX10_nitrateOf ∈ TB := tb_i 1086 (by decide +kernel) (by decide +kernel)
theorem qw1087 : Cond.code yX10_nitrateOf cX10_nitrateOf 5 (some FieldType.long) ∈ TB := tb_i 1087 (by decide +kernel) (by decide +kernel)
theorem qw1090 : Cond.methodLink RL 142 yX10_forbid ∈ TB := tb_i 1090 (by decide +kernel) (by decide +kernel)
theorem qw1091 : Cond.instanceMethod yX10_forbid ∈ TB := tb_i 1091 (by decide +kernel) (by decide +kernel)
theorem qw1092 : Cond.selects RX10 yX10_forbid yX10_forbid ∈ TB := tb_i 1092 (by decide +kernel) (by decide +kernel)
theorem qw1093 : Cond.code yX10_forbid cX10_forbid 6 (some FieldType.int) ∈ TB := tb_i 1093 (by decide +kernel) (by decide +kernel)
theorem qw1094 : Cond.methodLink RL 146 yX10_year ∈ TB := tb_i 1094 (by decide +kernel) (by decide +kernel)
theorem qw1095 : Cond.instanceMethod yX10_year ∈ TB := tb_i 1095 (by decide +kernel) (by decide +kernel)
theorem qw1096 : Cond.selects RX10 yX10_year yX10_year ∈ TB := tb_i 1096 (by decide +kernel) (by decide +kernel)
theorem qw1097 : Cond.code yX10_year cX10_year 1 (some FieldType.int) ∈ TB := tb_i 1097 (by decide +kernel) (by decide +kernel)
theorem qw1098 : Cond.methodLink RL 149 yX10_cellOf ∈ TB := tb_i 1098 (by decide +kernel) (by decide +kernel)
theorem qw1099 : Cond.instanceMethod yX10_cellOf ∈ TB := tb_i 1099 (by decide +kernel) (by decide +kernel)
theorem qw1100 : Cond.selects RX10 yX10_cellOf yX10_cellOf ∈ TB := tb_i 1100 (by decide +kernel) (by decide +kernel)
theorem qw1101 : Cond.code yX10_cellOf cX10_cellOf 3 (some FieldType.int) ∈ TB := tb_i 1101 (by decide +kernel) (by decide +kernel)
theorem qw1102 : Cond.methodLink RL 152 yX10_flow ∈ TB := tb_i 1102 (by decide +kernel) (by decide +kernel)
theorem qw1103 : Cond.instanceMethod yX10_flow ∈ TB := tb_i 1103 (by decide +kernel) (by decide +kernel)
theorem qw1104 : Cond.selects RX10 yX10_flow yX10_flow ∈ TB := tb_i 1104 (by decide +kernel) (by decide +kernel)
theorem qw1105 : Cond.code yX10_flow cX10_flow 2 (some FieldType.int) ∈ TB := tb_i 1105 (by decide +kernel) (by decide +kernel)
theorem qw1106 : Cond.methodLink RL 155 yX10_wellOf ∈ TB := tb_i 1106 (by decide +kernel) (by decide +kernel)
theorem qw1107 : Cond.instanceMethod yX10_wellOf ∈ TB := tb_i 1107 (by decide +kernel) (by decide +kernel)
theorem qw1108 : Cond.selects RX10 yX10_wellOf yX10_wellOf ∈ TB := tb_i 1108 (by decide +kernel) (by decide +kernel)
theorem qw1109 : Cond.code yX10_wellOf cX10_wellOf 3 (some FieldType.int) ∈ TB := tb_i 1109 (by decide +kernel) (by decide +kernel)
theorem qw1110 : Cond.methodLink RL 158 yX10_lotOf ∈ TB := tb_i 1110 (by decide +kernel) (by decide +kernel)
theorem qw1111 : Cond.instanceMethod yX10_lotOf ∈ TB := tb_i 1111 (by decide +kernel) (by decide +kernel)
theorem qw1112 : Cond.selects RX10 yX10_lotOf yX10_lotOf ∈ TB := tb_i 1112 (by decide +kernel) (by decide +kernel)
theorem qw1113 : Cond.code yX10_lotOf cX10_lotOf 4 (some FieldType.int) ∈ TB := tb_i 1113 (by decide +kernel) (by decide +kernel)
theorem qw1114 : Cond.methodLink RL 162 yX10_age ∈ TB := tb_i 1114 (by decide +kernel) (by decide +kernel)
theorem qw1115 : Cond.instanceMethod yX10_age ∈ TB := tb_i 1115 (by decide +kernel) (by decide +kernel)
theorem qw1116 : Cond.selects RX10 yX10_age yX10_age ∈ TB := tb_i 1116 (by decide +kernel) (by decide +kernel)
theorem qw1117 : Cond.code yX10_age cX10_age 2 (some FieldType.float) ∈ TB := tb_i 1117 (by decide +kernel) (by decide +kernel)
theorem qw1118 : Cond.methodLink RX10 205 yX10_meanAge ∈ TB := tb_i 1118 (by decide +kernel) (by decide +kernel)
theorem qw1120 : Cond.instanceMethod yX10_meanAge ∈ TB := tb_i 1120 (by decide +kernel) (by decide +kernel)
theorem qw1121 : Cond.code yX10_meanAge cX10_meanAge 5 (some FieldType.float) ∈ TB := tb_i 1121 (by decide +kernel) (by decide +kernel)
theorem qw1122 : Cond.methodLink RL 165 yX10_best ∈ TB := tb_i 1122 (by decide +kernel) (by decide +kernel)
theorem qw1123 : Cond.instanceMethod yX10_best ∈ TB := tb_i 1123 (by decide +kernel) (by decide +kernel)
theorem qw1124 : Cond.selects RX10 yX10_best yX10_best ∈ TB := tb_i 1124 (by decide +kernel) (by decide +kernel)
theorem qw1125 : Cond.code yX10_best cX10_best 2 (some FieldType.int) ∈ TB := tb_i 1125 (by decide +kernel) (by decide +kernel)
theorem qw1126 : Cond.methodLink RX10 209 yX10_bestOf ∈ TB := tb_i 1126 (by decide +kernel) (by decide +kernel)
theorem qw1128 : Cond.instanceMethod yX10_bestOf ∈ TB := tb_i 1128 (by decide +kernel) (by decide +kernel)
theorem qw1129 : Cond.code yX10_bestOf cX10_bestOf 2 (some FieldType.int) ∈ TB := tb_i 1129 (by decide +kernel) (by decide +kernel)
theorem qw1130 : Cond.methodLink RL 169 yX10_from ∈ TB := tb_i 1130 (by decide +kernel) (by decide +kernel)
theorem qw1131 : Cond.instanceMethod yX10_from ∈ TB := tb_i 1131 (by decide +kernel) (by decide +kernel)
theorem qw1132 : Cond.selects RX10 yX10_from yX10_from ∈ TB := tb_i 1132 (by decide +kernel) (by decide +kernel)
theorem qw1133 : Cond.code yX10_from cX10_from 4 (some FieldType.int) ∈ TB := tb_i 1133 (by decide +kernel) (by decide +kernel)
theorem qw1134 : Cond.methodLink RX10 212 yX10_fromOf ∈ TB := tb_i 1134 (by decide +kernel) (by decide +kernel)
theorem qw1136 : Cond.instanceMethod yX10_fromOf ∈ TB := tb_i 1136 (by decide +kernel) (by decide +kernel)
theorem qw1137 : Cond.code yX10_fromOf cX10_fromOf 6 (some FieldType.int) ∈ TB := tb_i 1137 (by decide +kernel) (by decide +kernel)
theorem qw1138 : Cond.methodLink RL 172 yX10_fromAnew ∈ TB := tb_i 1138 (by decide +kernel) (by decide +kernel)
theorem qw1139 : Cond.instanceMethod yX10_fromAnew ∈ TB := tb_i 1139 (by decide +kernel) (by decide +kernel)
theorem qw1140 : Cond.selects RX10 yX10_fromAnew yX10_fromAnew ∈ TB := tb_i 1140 (by decide +kernel) (by decide +kernel)
theorem qw1141 : Cond.code yX10_fromAnew cX10_fromAnew 4 (some FieldType.int) ∈ TB := tb_i 1141 (by decide +kernel) (by decide +kernel)
theorem qw1142 : Cond.methodLink RL 175 yX10_whence ∈ TB := tb_i 1142 (by decide +kernel) (by decide +kernel)
theorem qw1143 : Cond.instanceMethod yX10_whence ∈ TB := tb_i 1143 (by decide +kernel) (by decide +kernel)
theorem qw1144 : Cond.selects RX10 yX10_whence yX10_whence ∈ TB := tb_i 1144 (by decide +kernel) (by decide +kernel)
theorem qw1145 : Cond.code yX10_whence cX10_whence 3 (some FieldType.int) ∈ TB := tb_i 1145 (by decide +kernel) (by decide +kernel)
theorem qw1146 : Cond.methodLink RX10 216 yX10_whenceOf ∈ TB := tb_i 1146 (by decide +kernel) (by decide +kernel)
theorem qw1148 : Cond.instanceMethod yX10_whenceOf ∈ TB := tb_i 1148 (by decide +kernel) (by decide +kernel)
theorem qw1149 : Cond.code yX10_whenceOf cX10_whenceOf 7 (some FieldType.int) ∈ TB := tb_i 1149 (by decide +kernel) (by decide +kernel)
theorem qw1150 : Cond.methodLink RL 178 yX10_sum ∈ TB := tb_i 1150 (by decide +kernel) (by decide +kernel)
theorem qw1151 : Cond.instanceMethod yX10_sum ∈ TB := tb_i 1151 (by decide +kernel) (by decide +kernel)
theorem qw1152 : Cond.selects RX10 yX10_sum yX10_sum ∈ TB := tb_i 1152 (by decide +kernel) (by decide +kernel)
theorem qw1153 : Cond.code yX10_sum cX10_sum 2 (some FieldType.long) ∈ TB := tb_i 1153 (by decide +kernel) (by decide +kernel)
theorem qw1154 : Cond.methodLink RX10 219 yX10_held ∈ TB := tb_i 1154 (by decide +kernel) (by decide +kernel)
theorem qw1156 : Cond.instanceMethod yX10_held ∈ TB := tb_i 1156 (by decide +kernel) (by decide +kernel)
theorem qw1157 : Cond.code yX10_held cX10_held 4 (some FieldType.long) ∈ TB := tb_i 1157 (by decide +kernel) (by decide +kernel)
theorem qw1158 : Cond.methodLink RX10 223 yX10_falseOnes ∈ TB := tb_i 1158 (by decide +kernel) (by decide +kernel)
theorem qw1160 : Cond.instanceMethod yX10_falseOnes ∈ TB := tb_i 1160 (by decide +kernel) (by decide +kernel)
theorem qw1161 : Cond.code yX10_falseOnes cX10_falseOnes 4 (some FieldType.long) ∈ TB := tb_i 1161 (by decide +kernel) (by decide +kernel)
theorem qw231 : Cond.codeWith yL_rock cL_rock 5 (some FieldType.int) [(0, 10, 13, 13), (0, 10, 17, 15)] ∈ TB := tb_i 231 (by decide +kernel) (by decide +kernel)
theorem qw312 : Cond.arrayClass FieldType.byte ∈ TB := tb_i 312 (by decide +kernel) (by decide +kernel)
theorem qw337 : Cond.codeWith yL_land cL_land 5 (some FieldType.int) [(0, 10, 13, 13), (0, 10, 17, 15), (0, 10, 21, 20)] ∈ TB := tb_i 337 (by decide +kernel) (by decide +kernel)
theorem qw364 : Cond.codeWith yL_lead cL_lead 5 (some FieldType.int) [(0, 10, 13, 13), (0, 10, 17, 15)] ∈ TB := tb_i 364 (by decide +kernel) (by decide +kernel)
theorem qw375 : Cond.codeWith yL_spill cL_spill 5 (some FieldType.int) [(0, 10, 13, 13), (0, 10, 17, 20)] ∈ TB := tb_i 375 (by decide +kernel) (by decide +kernel)
theorem qw386 : Cond.codeWith yL_contract cL_contract 5 (some FieldType.int) [(0, 7, 10, 13), (0, 7, 14, 15), (0, 7, 18, 20)] ∈ TB := tb_i 386 (by decide +kernel) (by decide +kernel)
theorem qw393 : Cond.codeWith yL_pass cL_pass 5 (some FieldType.int) [(0, 10, 13, 15), (0, 10, 17, 20)] ∈ TB := tb_i 393 (by decide +kernel) (by decide +kernel)
theorem qw499 : Cond.constantLong RX9 151 10 ∈ TB := tb_i 499 (by decide +kernel) (by decide +kernel)
theorem qw506 : Cond.codeWith yL_well cL_well 5 (some FieldType.int) [(0, 10, 13, 13), (0, 10, 17, 15), (0, 10, 21, 20)] ∈ TB := tb_i 506 (by decide +kernel) (by decide +kernel)
theorem qw530 : Cond.codeWith yL_drought cL_drought 5 (some FieldType.int) [(0, 7, 10, 13), (0, 7, 14, 15)] ∈ TB := tb_i 530 (by decide +kernel) (by decide +kernel)
theorem qw538 : Cond.codeWith yL_share cL_share 4 (some FieldType.int) [(0, 9, 12, 15)] ∈ TB := tb_i 538 (by decide +kernel) (by decide +kernel)
theorem qw545 : Cond.codeWith yL_bottle cL_bottle 5 (some FieldType.int) [(0, 10, 13, 13), (0, 10, 17, 15), (0, 10, 21, 20)] ∈ TB := tb_i 545 (by decide +kernel) (by decide +kernel)
theorem qw600 : Cond.codeWith yL_treat cL_treat 5 (some FieldType.int) [(0, 10, 13, 13), (0, 10, 17, 20)] ∈ TB := tb_i 600 (by decide +kernel) (by decide +kernel)
theorem qw611 : Cond.codeWith yL_label cL_label 5 (some FieldType.int) [(0, 17, 20, 13), (0, 17, 24, 15), (0, 17, 28, 20)] ∈ TB := tb_i 611 (by decide +kernel) (by decide +kernel)
theorem qw647 : Cond.codeWith yL_forbid cL_forbid 4 (some FieldType.int) [(0, 9, 12, 13), (0, 9, 15, 20)] ∈ TB := tb_i 647 (by decide +kernel) (by decide +kernel)
theorem qw658 : Cond.codeWith yL_cellOf cL_cellOf 5 (some FieldType.int) [(0, 10, 13, 13), (0, 10, 17, 15)] ∈ TB := tb_i 658 (by decide +kernel) (by decide +kernel)
theorem qw666 : Cond.codeWith yL_flow cL_flow 4 (some FieldType.int) [(0, 9, 12, 15)] ∈ TB := tb_i 666 (by decide +kernel) (by decide +kernel)
theorem qw682 : Cond.codeWith yL_wellOf cL_wellOf 5 (some FieldType.int) [(0, 10, 13, 13), (0, 10, 17, 15)] ∈ TB := tb_i 682 (by decide +kernel) (by decide +kernel)
theorem qw689 : Cond.codeWith yL_lotOf cL_lotOf 5 (some FieldType.int) [(0, 10, 13, 13), (0, 10, 17, 15)] ∈ TB := tb_i 689 (by decide +kernel) (by decide +kernel)
theorem qw706 : Cond.codeWith yL_age cL_age 4 (some FieldType.int) [(0, 9, 12, 13)] ∈ TB := tb_i 706 (by decide +kernel) (by decide +kernel)
theorem qw721 : Cond.codeWith yL_best cL_best 4 (some FieldType.int) [(0, 9, 12, 13)] ∈ TB := tb_i 721 (by decide +kernel) (by decide +kernel)
theorem qw728 : Cond.codeWith yL_from cL_from 6 (some FieldType.int) [(0, 12, 15, 13)] ∈ TB := tb_i 728 (by decide +kernel) (by decide +kernel)
theorem qw739 : Cond.codeWith yL_fromAnew cL_fromAnew 6 (some FieldType.int) [(0, 12, 15, 13)] ∈ TB := tb_i 739 (by decide +kernel) (by decide +kernel)
theorem qw803 : Cond.codeWith yL_whence cL_whence 5 (some FieldType.int) [(0, 10, 13, 13)] ∈ TB := tb_i 803 (by decide +kernel) (by decide +kernel)
theorem qw817 : Cond.codeWith yL_sum cL_sum 4 (some FieldType.int) [(0, 8, 11, 15)] ∈ TB := tb_i 817 (by decide +kernel) (by decide +kernel)
theorem qw961 : Cond.arrayClass FieldType.int ∈ TB := tb_i 961 (by decide +kernel) (by decide +kernel)
theorem qw962 : Cond.arrayClass FieldType.boolean ∈ TB := tb_i 962 (by decide +kernel) (by decide +kernel)
theorem qw1088 : Cond.constantLong RX10 197 5 ∈ TB := tb_i 1088 (by decide +kernel) (by decide +kernel)
theorem qw1089 : Cond.constantLong RX10 199 8 ∈ TB := tb_i 1089 (by decide +kernel) (by decide +kernel)
theorem qw1162 : Cond.arrayClass FieldType.long ∈ TB := tb_i 1162 (by decide +kernel) (by decide +kernel)
theorem qw1163 : Cond.arrayClass FieldType.double ∈ TB := tb_i 1163 (by decide +kernel) (by decide +kernel)
theorem inT0 : ∀ w ∈ u_ws RX0 TX0 8, w ∈ TB := by decide +kernel
theorem inT1 : ∀ w ∈ u_ws RX1 TX1 4, w ∈ TB := by decide +kernel
theorem inT2 : ∀ w ∈ u_ws RX2 TX2 7, w ∈ TB := by decide +kernel
theorem inT3 : ∀ w ∈ u_ws RX3 TX3 4, w ∈ TB := by decide +kernel
theorem inT4 : ∀ w ∈ u_ws RX4 TX4 3, w ∈ TB := by decide +kernel
theorem inT5 : ∀ w ∈ u_ws RX5 TX5 6, w ∈ TB := by decide +kernel
theorem inT6 : ∀ w ∈ u_ws RX6 TX6 3, w ∈ TB := by decide +kernel
theorem inT7 : ∀ w ∈ u_ws RX7 TX7 4, w ∈ TB := by decide +kernel
theorem inT8 : ∀ w ∈ u_ws RX8 TX8 3, w ∈ TB := by decide +kernel
theorem inT9 : ∀ w ∈ u_ws RX9 TX9 17, w ∈ TB := by decide +kernel
theorem inT10 : ∀ w ∈ u_ws RX10 TX10 40, w ∈ TB := by decide +kernel
theorem inTx1 : ∀ w ∈ (vx_atS RX9 291 "java/lang/IndexOutOfBoundsException" ["java/lang/RuntimeException", "java/lang/Exception"]).filter goodWord, w ∈ TB := by decide +kernel
theorem ngTx1 : ∀ w ∈ (vx_atS RX9 291 "java/lang/IndexOutOfBoundsException" ["java/lang/RuntimeException", "java/lang/Exception"]).filter (fun w => !goodWord w), w ∈ TN := by decide +kernel
theorem csTx1 : Cond.castable "java/lang/IndexOutOfBoundsException" "java/lang/IndexOutOfBoundsException" ∈ TN := by decide +kernel
theorem otTx1 : ∀ w ∈ vx_atS RX9 291 "java/lang/IndexOutOfBoundsException" ["java/lang/RuntimeException", "java/lang/Exception"], vx_ot w = true := by decide +kernel
theorem inTx2 : ∀ w ∈ (vx_atS RX9 298 "java/lang/IllegalArgumentException" ["java/lang/RuntimeException", "java/lang/Exception"]).filter goodWord, w ∈ TB := by decide +kernel
theorem ngTx2 : ∀ w ∈ (vx_atS RX9 298 "java/lang/IllegalArgumentException" ["java/lang/RuntimeException", "java/lang/Exception"]).filter (fun w => !goodWord w), w ∈ TN := by decide +kernel
theorem csTx2 : Cond.castable "java/lang/IllegalArgumentException" "java/lang/IllegalArgumentException" ∈ TN := by decide +kernel
theorem otTx2 : ∀ w ∈ vx_atS RX9 298 "java/lang/IllegalArgumentException" ["java/lang/RuntimeException", "java/lang/Exception"], vx_ot w = true := by decide +kernel
theorem inTx3 : ∀ w ∈ (vx_atS RX9 303 "java/lang/IllegalStateException" ["java/lang/RuntimeException", "java/lang/Exception"]).filter goodWord, w ∈ TB := by decide +kernel
theorem ngTx3 : ∀ w ∈ (vx_atS RX9 303 "java/lang/IllegalStateException" ["java/lang/RuntimeException", "java/lang/Exception"]).filter (fun w => !goodWord w), w ∈ TN := by decide +kernel
theorem csTx3 : Cond.castable "java/lang/IllegalStateException" "java/lang/IllegalStateException" ∈ TN := by decide +kernel
theorem otTx3 : ∀ w ∈ vx_atS RX9 303 "java/lang/IllegalStateException" ["java/lang/RuntimeException", "java/lang/Exception"], vx_ot w = true := by decide +kernel
end
section
/-! ===== a store in place of a world of lists: which cell holds what, by its address; one form of contract for every method ===== -/
abbrev kS : Type := Nat → Option va_E
def kUp (σ : kS) (a : Nat) (e : va_E) : kS := fun b => if b = a then some e else σ b
theorem kUp_eq {σ : kS} {a : Nat} {e : va_E} : kUp σ a e a = some e := by simp [kUp]
theorem kUp_ne {σ : kS} {a b : Nat} {e : va_E} (h : b ≠ a) : kUp σ a e b = σ b := by simp [kUp, h]
theorem kUp_o {σ : kS} {a b : Nat} {e : va_E} {x : Option va_E} (h : b ≠ a) (hb : σ b = x) : kUp σ a e b = x := (kUp_ne h).trans hb
theorem kUp_uu {σ : kS} {a : Nat} {e e2 : va_E} : kUp (kUp σ a e) a e2 = kUp σ a e2 := by
  funext b
  by_cases h : b = a <;> simp [kUp, h]
/-- two cells of different classes are two cells -/
theorem kNe {σ : kS} {a b i j : Nat} {f g : List Value} (h1 : σ a = some (.inr (i, f))) (h2 : σ b = some (.inr (j, g))) (hij : i ≠ j) : a ≠ b := by
  intro e
  subst e
  rw [h1] at h2
  cases h2
  exact hij rfl
theorem kNeN {σ : kS} {a b : Nat} {x : va_E} (h1 : σ a = some x) (h2 : σ b = none) : a ≠ b := by
  intro e
  subst e
  rw [h1] at h2
  cases h2
theorem kNeL {σ : kS} {a b i : Nat} {f : List Value} {g : ClassId × vp_A} (h1 : σ a = some (.inr (i, f))) (h2 : σ b = some (.inl g)) : a ≠ b := by
  intro e
  subst e
  rw [h1] at h2
  cases h2
def kTys (D : va_G) : List (ClassId × FieldType) := [(D.1 11, .int), (D.1 12, .boolean), (D.1 13, .long), (D.1 14, .double), (D.1 15, .object RX0), (D.1 16, .object RX8), (D.1 17, .object RX2), (D.1 18, .object RX7)]
def kOk (D : va_G) (σ : kS) (H : Heap) : Prop := ∀ (a : Nat) (e : va_E), σ a = some e → va_at D vwCl (a, e) H
theorem kOk.p {D : va_G} {σ : kS} {H : Heap} (h : kOk D σ H) {a : Nat} {e : va_E} (he : σ a = some e) : va_P D vwCl [(a, e)] H := by
  intro k q hk
  match k, hk with
  | 0, hk => cases hk; exact h a e he
  | k + 1, hk => simp at hk
theorem kOk.lt {D : va_G} {σ : kS} {H : Heap} (h : kOk D σ H) {a : Nat} {e : va_E} (he : σ a = some e) : a < H.size := va_at.lt (q := (a, e)) (h a e he)
theorem kOk.fresh {D : va_G} {σ : kS} {H : Heap} (h : kOk D σ H) {q : Nat} (hq : H.size ≤ q) : σ q = none := by
  cases he : σ q with
  | none => rfl
  | some e => exact absurd (h.lt he) (Nat.not_lt.mpr hq)
theorem kOk.up {D : va_G} {σ : kS} {H H1 : Heap} (h : kOk D σ H) {a : Nat} {e : va_E} (he : va_at D vwCl (a, e) H1) (oq : ∀ q : Nat, q ≠ a → q < H.size → H1[q]? = H[q]?) : kOk D (kUp σ a e) H1 := by
  intro b x hx
  by_cases hb : b = a
  · subst hb
    rw [kUp_eq] at hx
    cases hx
    exact he
  · rw [kUp_ne hb] at hx
    exact va_at.kept (q := (b, x)) (h b x hx) (oq b hb (h.lt hx))
theorem kOk.kept {D : va_G} {σ : kS} {H H1 : Heap} (h : kOk D σ H) (oq : ∀ q : Nat, q < H.size → H1[q]? = H[q]?) : kOk D σ H1 := fun b x hx => va_at.kept (q := (b, x)) (h b x hx) (oq b (h.lt hx))
def kA (σ : kS) (sz : Nat) : Nat → Prop := fun q => (∃ e, σ q = some e) ∨ sz ≤ q
/-- what the throws and the catches rest on, beside the words -/
def kZ (A : Nat → Prop) (U : State) : Prop := vx_Zq Bundle.tN "UNASSIGNED_STACK" Bundle.steD A U U.heap ∧ vx_Zq Bundle.tN "SUPPRESSED_SENTINEL" Bundle.listD A U U.heap ∧ (∃ a, vk_R RX9 289 "there is no such number" a U) ∧ (∃ a, vk_R RX9 296 "an argument is out of range" a U) ∧ (∃ a, vk_R RX9 301 "this may not be done now" a U) ∧ (∀ w ∈ TN, va_Nw w U) ∧ va_Nc "java/lang/IllegalArgumentException" "java/lang/IndexOutOfBoundsException" U ∧ va_Nc "java/lang/IllegalStateException" "java/lang/IndexOutOfBoundsException" U ∧ va_Nc "java/lang/IllegalStateException" "java/lang/IllegalArgumentException" U
theorem tn_warm {s U : State} (hW : s.WarmedH U.vm) : ∀ w : Cond, kCND w = true → va_Nw w s → va_Nw w U := by
  intro w hw h
  unfold kCND at hw
  split at hw
  · exact va_Nw.warmC hW h
  · exact va_Nw.warmD hW h
  · exact va_Nw.warmM hW h
  · cases hw
theorem kZ.call {A A1 : Nat → Prop} {s U : State} (h : kZ A s) (hW : s.WarmedH U.vm) (hk : ∀ q : Nat, q < s.heap.size → ¬ A q → U.heap[q]? = s.heap[q]?) (hA : ∀ q : Nat, q < U.heap.size → A1 q → A q ∨ s.heap.size ≤ q) (hs : ∀ q : Nat, s.heap.size ≤ q → A q) (hA2 : ∀ q : Nat, A1 q → A q) : kZ A1 U := by
  obtain ⟨h1, h2, ⟨a, h3⟩, ⟨b, h4⟩, ⟨c, h5⟩, h6, h7, h8, h9⟩ := h
  refine ⟨((h1.moved hW.alike).kept hk).narrow hA2, ((h2.moved hW.alike).kept hk).narrow hA2, ⟨a, h3.warm hW⟩, ⟨b, h4.warm hW⟩, ⟨c, h5.warm hW⟩, fun w hw => tn_warm hW w (List.mem_filter.mp hw).2 (h6 w hw), h7.moved hW.alike, h8.moved hW.alike, h9.moved hW.alike⟩
theorem kZ.blind {A : Nat → Prop} {U : State} (h : kZ A U) (g : JFrame) (mk : MethodId) (a : Array Value) : kZ A (U.calling g mk a) := by
  obtain ⟨h1, h2, ⟨x, h3⟩, ⟨b, h4⟩, ⟨c, h5⟩, h6, h7, h8, h9⟩ := h
  have hal : U.vm.Alike (U.calling g mk a).vm := Vm.Alike.refl U.vm
  exact ⟨h1.moved hal, h2.moved hal, ⟨x, h3.same rfl⟩, ⟨b, h4.same rfl⟩, ⟨c, h5.same rfl⟩, fun w hw => va_tabs (by
    have hw2 := (List.mem_filter.mp hw).2
    unfold kCND at hw2
    split at hw2 <;> first | rfl | cases hw2) (u := U) (A := #[]) rfl (h6 w hw), h7.moved hal, h8.moved hal, h9.moved hal⟩
/-! locals: a list of places, none where nothing is known -/
def kHas (ls : Array Slot) (nL : Nat) (L : List (Option Value)) : Prop := ls.size = nL ∧ lv_wf ls ∧ ∀ (i : Nat) (v : Value), L[i]? = some (some v) → ls[i]? = some (.val v)
def kClr (L : List (Option Value)) : Nat → List (Option Value)
  | 0 => L
  | j + 1 => match L[j]? with
    | some (some (.long _)) => L.set j none
    | some (some (.double _)) => L.set j none
    | _ => L
def kSt1 (L : List (Option Value)) (i : Nat) (v : Value) : List (Option Value) := (kClr L i).set i (some v)
def kSt2 (L : List (Option Value)) (i : Nat) (v : Value) : List (Option Value) := ((kClr L i).set (i + 1) none).set i (some v)
def kFl (L : List (Option Value)) : List (Nat × Value) := (List.range L.length).filterMap (fun i => (L.getD i none).map (fun v => (i, v)))
theorem kFl_mem {L : List (Option Value)} {q : Nat × Value} : q ∈ kFl L ↔ L[q.1]? = some (some q.2) := by
  unfold kFl
  rw [List.mem_filterMap]
  constructor
  · rintro ⟨i, hi, h⟩
    have hi := List.mem_range.mp hi
    rw [List.getD_eq_getElem?_getD, List.getElem?_eq_getElem hi, Option.getD_some] at h
    cases hv : L[i] with
    | none => rw [hv] at h; cases h
    | some v =>
      rw [hv] at h
      cases h
      rw [List.getElem?_eq_getElem hi, hv]
  · intro h
    have hi : q.1 < L.length := (List.getElem?_eq_some_iff.mp h).1
    refine ⟨q.1, List.mem_range.mpr hi, ?_⟩
    rw [List.getD_eq_getElem?_getD, h]
    rfl
theorem kHas.lv {ls : Array Slot} {nL : Nat} {L : List (Option Value)} (h : kHas ls nL L) : lv_has ls nL (kFl L) := ⟨h.1, h.2.1, fun q hq => h.2.2 q.1 q.2 (kFl_mem.mp hq)⟩
theorem kClr_at {L : List (Option Value)} {i j : Nat} {w : Value} (h : (kClr L i)[j]? = some (some w)) : L[j]? = some (some w) ∧ ¬ (j + 1 = i ∧ w.category = 2) := by
  cases i with
  | zero => exact ⟨h, fun q => by omega⟩
  | succ k =>
    simp only [kClr] at h
    by_cases hj : j = k
    · subst hj
      split at h
      · rw [List.getElem?_set] at h
        rename_i hx
        have := (List.getElem?_eq_some_iff.mp hx).1
        simp [this] at h
      · rw [List.getElem?_set] at h
        rename_i hx
        have := (List.getElem?_eq_some_iff.mp hx).1
        simp [this] at h
      · rename_i h1 h2
        refine ⟨h, fun q => ?_⟩
        cases w with
        | long x => exact h1 x h
        | double x => exact h2 x h
        | _ => simp [Value.category] at q
    · refine ⟨?_, fun q => by omega⟩
      split at h
      · rw [List.getElem?_set_ne (by omega)] at h; exact h
      · rw [List.getElem?_set_ne (by omega)] at h; exact h
      · exact h
theorem kHas.st1 {ls : Array Slot} {nL i : Nat} {L : List (Option Value)} {v : Value} (h : lv_has ls nL ((i, v) :: (kFl L).filter (fun q => !(q.1 == i) && !(q.1 + 1 == i && q.2.category == 2)))) : kHas ls nL (kSt1 L i v) := by
  refine ⟨h.1, h.2.1, fun j w hj => ?_⟩
  unfold kSt1 at hj
  by_cases e : j = i
  · subst e
    rw [List.getElem?_set] at hj
    split at hj
    · split at hj
      · have hvw : v = w := by simpa using hj
        subst hvw
        exact h.2.2 (j, v) List.mem_cons_self
      · cases hj
    · rename_i hne
      exact absurd rfl hne
  · rw [List.getElem?_set_ne (by omega)] at hj
    obtain ⟨h1, h2⟩ := kClr_at hj
    refine h.2.2 (j, w) (List.mem_cons_of_mem _ (List.mem_filter.mpr ⟨kFl_mem.mpr h1, ?_⟩))
    simp only [Bool.and_eq_true, Bool.not_eq_true', beq_eq_false_iff_ne, Bool.and_eq_false_iff]
    refine ⟨e, ?_⟩
    by_cases h3 : j + 1 = i
    · exact Or.inr (fun q => h2 ⟨h3, q⟩)
    · exact Or.inl h3
theorem kHas.st2 {ls : Array Slot} {nL i : Nat} {L : List (Option Value)} {v : Value} (h : lv_has ls nL ((i, v) :: (kFl L).filter (fun q => !(q.1 == i) && (!(q.1 == i + 1) && !(q.1 + 1 == i && q.2.category == 2))))) : kHas ls nL (kSt2 L i v) := by
  refine ⟨h.1, h.2.1, fun j w hj => ?_⟩
  unfold kSt2 at hj
  by_cases e : j = i
  · subst e
    rw [List.getElem?_set] at hj
    split at hj
    · split at hj
      · have hvw : v = w := by simpa using hj
        subst hvw
        exact h.2.2 (j, v) List.mem_cons_self
      · cases hj
    · rename_i hne
      exact absurd rfl hne
  · rw [List.getElem?_set_ne (by omega)] at hj
    by_cases e2 : j = i + 1
    · subst e2
      rw [List.getElem?_set] at hj
      split at hj
      · split at hj <;> cases hj
      · rename_i hne
        exact absurd rfl hne
    · rw [List.getElem?_set_ne (by omega)] at hj
      obtain ⟨h1, h2⟩ := kClr_at hj
      refine h.2.2 (j, w) (List.mem_cons_of_mem _ (List.mem_filter.mpr ⟨kFl_mem.mpr h1, ?_⟩))
      simp only [Bool.and_eq_true, Bool.not_eq_true', beq_eq_false_iff_ne, Bool.and_eq_false_iff]
      refine ⟨e, e2, ?_⟩
      by_cases h3 : j + 1 = i
      · exact Or.inr (fun q => h2 ⟨h3, q⟩)
      · exact Or.inl h3
/-- a reference or null -/
def kRf (v : Value) : Prop := ∃ r : Option Nat, v = va_rf r
theorem kRf_r (a : Nat) : kRf (.ref a) := ⟨some a, rfl⟩
theorem kRf_n : kRf .null := ⟨none, rfl⟩
theorem kRf_q (r : Option Nat) : kRf (va_rf r) := ⟨r, rfl⟩
theorem kCat_q (r : Option Nat) : (va_rf r).category = 1 := by cases r <;> rfl
/-! the judgement -/
def kK (p : Program) (l : Launch) (e : Env) (R : Room) (s : State) (m : MethodId) (args : Array Value) (below : List Frame) (meth : Method) (c : Code) (D : va_G) (A : Nat → Prop) (nL : Nat) (Q : State → Prop) (σ : kS) (k n pc : Nat) (L : List (Option Value)) (S : List Value) : Prop :=
  ∀ (H : Heap) (locs : List Loc) (ls : Array Slot), kOk D σ H → (∀ (a : Nat) (x : va_E), σ a = some x → A a) → va_S A s.heap H locs → kHas ls nL L → W p l e R s m args below meth c H locs k n Q (F0 m pc ls S)
/-- .. where a method stands that throws an E -/
def kX (p : Program) (l : Launch) (e : Env) (R : Room) (s : State) (m : MethodId) (args : Array Value) (below : List Frame) (meth : Method) (c : Code) (D : va_G) (A : Nat → Prop) (nL : Nat) (Q : State → Prop) (σ : kS) (k n pc : Nat) (L : List (Option Value)) (S : List Value) (E : String) : Prop :=
  ∀ (H : Heap) (locs : List Loc) (ls : Array Slot) (ce : Cell) (q9 : Addr), kOk D σ H → (∀ (a : Nat) (x : va_E), σ a = some x → A a) → va_S A s.heap H locs → kHas ls nL L → H[q9]? = some ce → ce.vm = .none → s.vm.findClass E = some ce.cls → vx_W p l e R s m args below meth c H locs k n Q (F0 m pc ls S) q9
def kB (p : Program) (l : Launch) (s : State) (m : MethodId) (args : Array Value) (meth : Method) (c : Code) (D : va_G) (A : Nat → Prop) (nL : Nat) (cc : ByteArray) (own : String) : Prop :=
  p.tables.exec = Jvm.exec ∧ c.code = cc ∧ c.maxLocals = nL ∧ s.vm.findClass own = some m.cls ∧ (∀ w ∈ TB, w.before args s = true) ∧ va_K D vwCl (kTys D) s ∧ (∀ q : Nat, s.heap.size ≤ q → A q) ∧ kZ A s ∧ l.stackTraces = false ∧ meth.locks = false
/-- the room of a method of height h -/
def kR (h mc ms : Nat) : Room := { frames := h, cells := mc, slots := ms, locals := 36 * h }
/-- THE CONTRACT: from any heap that holds σ it returns v and a heap that holds σ2, with Post v σ2, or throws an E with PX E, and σ is as it was -/
def kM (l : Launch) (D : va_G) (y : MethodName) (cc : ByteArray) (maxL : Nat) (ret : Option FieldType) (h mc ms : Nat) (av : List Value) (σ : kS) (Post : Option Value → kS → Prop) (PX : String → Prop) : Prop :=
  ∀ sz : Nat, vx_Met l y (.code y cc maxL ret :: TB) (kR h mc ms) (va_Pc av (fun U => U.heap.size = sz ∧ kOk D σ U.heap ∧ va_K D vwCl (kTys D) U ∧ kZ (kA σ sz) U))
    (fun _ st o t => ∃ (v : Option Value) (σ2 : kS), o = .returned v ∧ Post v σ2 ∧ kOk D σ2 t.heap ∧ (∀ (a : Nat) (x : va_E), σ2 a = some x → kA σ sz a) ∧ va_F (kA σ sz) st t)
    (fun E st t => PX E ∧ kOk D σ t.heap ∧ va_F (kA σ sz) st t) mc ms (kA σ sz)
/-- what a method's walk must come to -/
def kQ (below : List Frame) (args : Array Value) (s : State) (D : va_G) (σ0 : kS) (Post : Option Value → kS → Prop) (PX : String → Prop) (mc ms : Nat) : State → Prop :=
  vx_MQ below (fun _ st o t => ∃ (v : Option Value) (σ2 : kS), o = .returned v ∧ Post v σ2 ∧ kOk D σ2 t.heap ∧ (∀ (a : Nat) (x : va_E), σ2 a = some x → kA σ0 s.heap.size a) ∧ va_F (kA σ0 s.heap.size) st t)
    (fun E st t => PX E ∧ kOk D σ0 t.heap ∧ va_F (kA σ0 s.heap.size) st t) args s mc ms (kA σ0 s.heap.size)
theorem kEntry {av : List Value} (h : ∀ v ∈ av, v.category = 1) : ∀ (n i : Nat) (v : Value), av[i]? = some v → (n + i, v) ∈ lv_args n av := by
  induction av with
  | nil => intro n i v hi; simp at hi
  | cons a l ih =>
    intro n i v hi
    have ha := h a List.mem_cons_self
    cases i with
    | zero =>
      simp at hi
      subst hi
      simp [lv_args]
    | succ j =>
      have hi : l[j]? = some v := by simpa using hi
      have := ih (fun w hw => h w (List.mem_cons_of_mem _ hw)) (n + 1) j v hi
      simp only [lv_args]
      refine List.mem_cons_of_mem _ ?_
      rw [show n + (j + 1) = n + 1 + j by omega, ha]
      exact this
end
section
section KR
variable {p : Program} {l : Launch} {e : Env} {R : Room} {s : State} {m : MethodId} {args : Array Value} {below : List Frame} {meth : Method} {c : Code} {D : va_G} {A : Nat → Prop} {nL : Nat} {Q : State → Prop} {σ : kS} {k n pc : Nat} {L : List (Option Value)} {S : List Value} {cc : ByteArray} {own : String}
theorem kK.st {σ2 : kS} (h : ∀ (a : Nat) (x : va_E), σ2 a = some x → σ a = some x) (kk : kK p l e R s m args below meth c D A nL Q σ2 k n pc L S) : kK p l e R s m args below meth c D A nL Q σ k n pc L S := fun H locs ls h1 h2 h3 h4 => kk H locs ls (fun a x hx => h1 a x (h a x hx)) (fun a x hx => h2 a x (h a x hx)) h3 h4
theorem kK.eq {σ2 : kS} (h : σ = σ2) (kk : kK p l e R s m args below meth c D A nL Q σ2 k n pc L S) : kK p l e R s m args below meth c D A nL Q σ k n pc L S := h ▸ kk
theorem kK.widen {k2 n2 : Nat} (h1 : k ≤ k2) (h2 : n ≤ n2) (kk : kK p l e R s m args below meth c D A nL Q σ k2 n2 pc L S) : kK p l e R s m args below meth c D A nL Q σ k n pc L S := fun H locs ls a1 a2 a3 a4 => W.widen h1 h2 (kk H locs ls a1 a2 a3 a4)
theorem kX.widen {E : String} {k2 n2 : Nat} (h1 : k ≤ k2) (h2 : n ≤ n2) (kk : kX p l e R s m args below meth c D A nL Q σ k2 n2 pc L S E) : kX p l e R s m args below meth c D A nL Q σ k n pc L S E := fun H locs ls ce q9 a1 a2 a3 a4 a5 a6 a7 => vx_widen h1 h2 (kk H locs ls ce q9 a1 a2 a3 a4 a5 a6 a7)
theorem kK.loc {L2 : List (Option Value)} (h : ∀ (i : Nat) (v : Value), L2[i]? = some (some v) → L[i]? = some (some v)) (kk : kK p l e R s m args below meth c D A nL Q σ k n pc L2 S) : kK p l e R s m args below meth c D A nL Q σ k n pc L S := fun H locs ls a1 a2 a3 a4 => kk H locs ls a1 a2 a3 ⟨a4.1, a4.2.1, fun i v hv => a4.2.2 i v (h i v hv)⟩
/-- forget what some places of the locals hold: place by place the same or nothing -/
def kSub : List (Option Value) → List (Option Value) → Prop
  | [], _ => True
  | _ :: _, [] => False
  | a :: t, b :: u => (a = none ∨ a = b) ∧ kSub t u
theorem kSub.spec : ∀ (L2 L : List (Option Value)), kSub L2 L → ∀ (i : Nat) (v : Value), L2[i]? = some (some v) → L[i]? = some (some v)
  | [], _, _, i, v, h => by simp at h
  | a :: t, [], hs, i, v, h => hs.elim
  | a :: t, b :: u, hs, i, v, h => by
    cases i with
    | zero =>
      simp at h
      rcases hs.1 with e1 | e1
      · rw [e1] at h; cases h
      · rw [← e1, h]; simp
    | succ j =>
      simp at h
      simp
      exact kSub.spec t u hs.2 j v h
theorem kK.sub {L2 : List (Option Value)} (h : kSub L2 L) (kk : kK p l e R s m args below meth c D A nL Q σ k n pc L2 S) : kK p l e R s m args below meth c D A nL Q σ k n pc L S := kK.loc (kSub.spec L2 L h) kk
theorem kK.topi {x : Int32} (kk : ∀ y : Int32, y = x → kK p l e R s m args below meth c D A nL Q σ k n pc L (.int y :: S)) : kK p l e R s m args below meth c D A nL Q σ k n pc L (.int x :: S) := kk x rfl
theorem kK.rei {x y : Int32} (h : x = y) (kk : kK p l e R s m args below meth c D A nL Q σ k n pc L (.int y :: S)) : kK p l e R s m args below meth c D A nL Q σ k n pc L (.int x :: S) := h ▸ kk
theorem kK.rel {x y : Int64} (h : x = y) (kk : kK p l e R s m args below meth c D A nL Q σ k n pc L (.long y :: S)) : kK p l e R s m args below meth c D A nL Q σ k n pc L (.long x :: S) := h ▸ kk
theorem kK.rev {x y : Value} (h : x = y) (kk : kK p l e R s m args below meth c D A nL Q σ k n pc L (y :: S)) : kK p l e R s m args below meth c D A nL Q σ k n pc L (x :: S) := h ▸ kk

theorem k_iconst (B : kB p l s m args meth c D A nL cc own) {z : Int} {v : Int32} (hv : Int32.ofInt z = v) (hd : decode cc pc = .ok (.iconst z, 1)) (kk : kK p l e R s m args below meth c D A nL Q σ k n (pc + 1) L (.int v :: S)) : kK p l e R s m args below meth c D A nL Q σ k n pc L S := fun H locs ls h1 h2 h3 h4 => lv_iconst B.1 B.2.1 hd hv (kk H locs ls h1 h2 h3 h4)
theorem k_bipush (B : kB p l s m args meth c D A nL cc own) {z : Int} {v : Int32} (hv : (Int8.ofInt z).toInt32 = v) (hd : decode cc pc = .ok (.bipush z, 2)) (kk : kK p l e R s m args below meth c D A nL Q σ k n (pc + 2) L (.int v :: S)) : kK p l e R s m args below meth c D A nL Q σ k n pc L S := fun H locs ls h1 h2 h3 h4 => lv_bipush B.1 B.2.1 hd hv (kk H locs ls h1 h2 h3 h4)
theorem k_sipush (B : kB p l s m args meth c D A nL cc own) {z : Int} {v : Int32} (hv : (Int16.ofInt z).toInt32 = v) (hd : decode cc pc = .ok (.sipush z, 3)) (kk : kK p l e R s m args below meth c D A nL Q σ k n (pc + 3) L (.int v :: S)) : kK p l e R s m args below meth c D A nL Q σ k n pc L S := fun H locs ls h1 h2 h3 h4 => lv_sipush B.1 B.2.1 hd hv (kk H locs ls h1 h2 h3 h4)
theorem k_lconst (B : kB p l s m args meth c D A nL cc own) {z : Fin 2} {v : Int64} (hv : Int64.ofNat (z : Nat) = v) (hd : decode cc pc = .ok (.lconst z, 1)) (kk : kK p l e R s m args below meth c D A nL Q σ k n (pc + 1) L (.long v :: S)) : kK p l e R s m args below meth c D A nL Q σ k n pc L S := fun H locs ls h1 h2 h3 h4 => lv_lconst B.1 B.2.1 hd hv (kk H locs ls h1 h2 h3 h4)
theorem k_null (B : kB p l s m args meth c D A nL cc own)  (hd : decode cc pc = .ok (.aconst_null, 1)) (kk : kK p l e R s m args below meth c D A nL Q σ k n (pc + 1) L (.null :: S)) : kK p l e R s m args below meth c D A nL Q σ k n pc L S := fun H locs ls h1 h2 h3 h4 => lv_null B.1 B.2.1 hd (kk H locs ls h1 h2 h3 h4)
theorem k_iload_n (B : kB p l s m args meth c D A nL cc own) {z : Fin 4} {x : Int32} (hl : L[(z : Nat)]? = some (some (.int x))) (hd : decode cc pc = .ok (.iload_n z, 1)) (kk : kK p l e R s m args below meth c D A nL Q σ k n (pc + 1) L (.int x :: S)) : kK p l e R s m args below meth c D A nL Q σ k n pc L S := fun H locs ls h1 h2 h3 h4 => lv_iload_n B.1 B.2.1 hd rfl (h4.2.2 _ _ hl) (kk H locs ls h1 h2 h3 h4)
theorem k_iload (B : kB p l s m args meth c D A nL cc own) {z : Nat} {x : Int32} (hl : L[z]? = some (some (.int x))) (hd : decode cc pc = .ok (.iload z, 2)) (kk : kK p l e R s m args below meth c D A nL Q σ k n (pc + 2) L (.int x :: S)) : kK p l e R s m args below meth c D A nL Q σ k n pc L S := fun H locs ls h1 h2 h3 h4 => lv_iload B.1 B.2.1 hd (h4.2.2 _ _ hl) (kk H locs ls h1 h2 h3 h4)
theorem k_lload_n (B : kB p l s m args meth c D A nL cc own) {z : Fin 4} {x : Int64} (hl : L[(z : Nat)]? = some (some (.long x))) (hd : decode cc pc = .ok (.lload_n z, 1)) (kk : kK p l e R s m args below meth c D A nL Q σ k n (pc + 1) L (.long x :: S)) : kK p l e R s m args below meth c D A nL Q σ k n pc L S := fun H locs ls h1 h2 h3 h4 => lv_lload_n B.1 B.2.1 hd rfl (h4.2.2 _ _ hl) (kk H locs ls h1 h2 h3 h4)
theorem k_lload (B : kB p l s m args meth c D A nL cc own) {z : Nat} {x : Int64} (hl : L[z]? = some (some (.long x))) (hd : decode cc pc = .ok (.lload z, 2)) (kk : kK p l e R s m args below meth c D A nL Q σ k n (pc + 2) L (.long x :: S)) : kK p l e R s m args below meth c D A nL Q σ k n pc L S := fun H locs ls h1 h2 h3 h4 => lv_lload B.1 B.2.1 hd (h4.2.2 _ _ hl) (kk H locs ls h1 h2 h3 h4)
theorem k_fload_n (B : kB p l s m args meth c D A nL cc own) {z : Fin 4} {x : UInt32} (hl : L[(z : Nat)]? = some (some (.float x))) (hd : decode cc pc = .ok (.fload_n z, 1)) (kk : kK p l e R s m args below meth c D A nL Q σ k n (pc + 1) L (.float x :: S)) : kK p l e R s m args below meth c D A nL Q σ k n pc L S := fun H locs ls h1 h2 h3 h4 => lv_fload_n B.1 B.2.1 hd rfl (h4.2.2 _ _ hl) (kk H locs ls h1 h2 h3 h4)
theorem k_fload (B : kB p l s m args meth c D A nL cc own) {z : Nat} {x : UInt32} (hl : L[z]? = some (some (.float x))) (hd : decode cc pc = .ok (.fload z, 2)) (kk : kK p l e R s m args below meth c D A nL Q σ k n (pc + 2) L (.float x :: S)) : kK p l e R s m args below meth c D A nL Q σ k n pc L S := fun H locs ls h1 h2 h3 h4 => lv_fload B.1 B.2.1 hd (h4.2.2 _ _ hl) (kk H locs ls h1 h2 h3 h4)
theorem k_aload_n (B : kB p l s m args meth c D A nL cc own) {z : Fin 4} {v : Value} (hl : L[(z : Nat)]? = some (some v)) (hv : kRf v) (hd : decode cc pc = .ok (.aload_n z, 1)) (kk : kK p l e R s m args below meth c D A nL Q σ k n (pc + 1) L (v :: S)) : kK p l e R s m args below meth c D A nL Q σ k n pc L S := fun H locs ls h1 h2 h3 h4 => by obtain ⟨r, rfl⟩ := hv; cases r with | none => exact lv_aload_nN B.1 B.2.1 hd rfl (h4.2.2 _ _ hl) (kk H locs ls h1 h2 h3 h4) | some x => exact lv_aload_n B.1 B.2.1 hd rfl (h4.2.2 _ _ hl) (kk H locs ls h1 h2 h3 h4)
theorem k_aload (B : kB p l s m args meth c D A nL cc own) {z : Nat} {v : Value} (hl : L[z]? = some (some v)) (hv : kRf v) (hd : decode cc pc = .ok (.aload z, 2)) (kk : kK p l e R s m args below meth c D A nL Q σ k n (pc + 2) L (v :: S)) : kK p l e R s m args below meth c D A nL Q σ k n pc L S := fun H locs ls h1 h2 h3 h4 => by obtain ⟨r, rfl⟩ := hv; cases r with | none => exact lv_aloadN B.1 B.2.1 hd (h4.2.2 _ _ hl) (kk H locs ls h1 h2 h3 h4) | some x => exact lv_aload B.1 B.2.1 hd (h4.2.2 _ _ hl) (kk H locs ls h1 h2 h3 h4)
theorem k_istore_n (B : kB p l s m args meth c D A nL cc own) {z : Fin 4} {x : Int32} (hn : (z : Nat) < nL) (hd : decode cc pc = .ok (.istore_n z, 1)) (kk : kK p l e R s m args below meth c D A nL Q σ k n (pc + 1) (kSt1 L (z : Nat) (.int x)) S) : kK p l e R s m args below meth c D A nL Q σ k n pc L (.int x :: S) := fun H locs ls h1 h2 h3 h4 => lv_istore_n B.1 B.2.1 hd rfl h4.lv hn rfl (fun ls2 h5 => kk H locs ls2 h1 h2 h3 (kHas.st1 h5))
theorem k_istore (B : kB p l s m args meth c D A nL cc own) {z : Nat} {x : Int32} (hn : z < nL) (hd : decode cc pc = .ok (.istore z, 2)) (kk : kK p l e R s m args below meth c D A nL Q σ k n (pc + 2) (kSt1 L z (.int x)) S) : kK p l e R s m args below meth c D A nL Q σ k n pc L (.int x :: S) := fun H locs ls h1 h2 h3 h4 => lv_istore B.1 B.2.1 hd h4.lv hn rfl (fun ls2 h5 => kk H locs ls2 h1 h2 h3 (kHas.st1 h5))
theorem k_fstore_n (B : kB p l s m args meth c D A nL cc own) {z : Fin 4} {x : UInt32} (hn : (z : Nat) < nL) (hd : decode cc pc = .ok (.fstore_n z, 1)) (kk : kK p l e R s m args below meth c D A nL Q σ k n (pc + 1) (kSt1 L (z : Nat) (.float x)) S) : kK p l e R s m args below meth c D A nL Q σ k n pc L (.float x :: S) := fun H locs ls h1 h2 h3 h4 => lv_fstore_n B.1 B.2.1 hd rfl h4.lv hn rfl (fun ls2 h5 => kk H locs ls2 h1 h2 h3 (kHas.st1 h5))
theorem k_fstore (B : kB p l s m args meth c D A nL cc own) {z : Nat} {x : UInt32} (hn : z < nL) (hd : decode cc pc = .ok (.fstore z, 2)) (kk : kK p l e R s m args below meth c D A nL Q σ k n (pc + 2) (kSt1 L z (.float x)) S) : kK p l e R s m args below meth c D A nL Q σ k n pc L (.float x :: S) := fun H locs ls h1 h2 h3 h4 => lv_fstore B.1 B.2.1 hd h4.lv hn rfl (fun ls2 h5 => kk H locs ls2 h1 h2 h3 (kHas.st1 h5))
theorem k_lstore_n (B : kB p l s m args meth c D A nL cc own) {z : Fin 4} {x : Int64} (hn : (z : Nat) + 1 < nL) (hd : decode cc pc = .ok (.lstore_n z, 1)) (kk : kK p l e R s m args below meth c D A nL Q σ k n (pc + 1) (kSt2 L (z : Nat) (.long x)) S) : kK p l e R s m args below meth c D A nL Q σ k n pc L (.long x :: S) := fun H locs ls h1 h2 h3 h4 => lv_lstore_n B.1 B.2.1 hd rfl h4.lv hn rfl (fun ls2 h5 => kk H locs ls2 h1 h2 h3 (kHas.st2 h5))
theorem k_lstore (B : kB p l s m args meth c D A nL cc own) {z : Nat} {x : Int64} (hn : z + 1 < nL) (hd : decode cc pc = .ok (.lstore z, 2)) (kk : kK p l e R s m args below meth c D A nL Q σ k n (pc + 2) (kSt2 L z (.long x)) S) : kK p l e R s m args below meth c D A nL Q σ k n pc L (.long x :: S) := fun H locs ls h1 h2 h3 h4 => lv_lstore B.1 B.2.1 hd h4.lv hn rfl (fun ls2 h5 => kk H locs ls2 h1 h2 h3 (kHas.st2 h5))
theorem k_astore_n (B : kB p l s m args meth c D A nL cc own) {z : Fin 4} {v : Value} (hn : (z : Nat) < nL) (hv : kRf v) (hd : decode cc pc = .ok (.astore_n z, 1)) (kk : kK p l e R s m args below meth c D A nL Q σ k n (pc + 1) (kSt1 L (z : Nat) v) S) : kK p l e R s m args below meth c D A nL Q σ k n pc L (v :: S) := fun H locs ls h1 h2 h3 h4 => by obtain ⟨r, rfl⟩ := hv; cases r with | none => exact lv_astore_nN B.1 B.2.1 hd rfl h4.lv hn rfl (fun ls2 h5 => kk H locs ls2 h1 h2 h3 (kHas.st1 h5)) | some x => exact lv_astore_n B.1 B.2.1 hd rfl h4.lv hn rfl (fun ls2 h5 => kk H locs ls2 h1 h2 h3 (kHas.st1 h5))
theorem k_astore (B : kB p l s m args meth c D A nL cc own) {z : Nat} {v : Value} (hn : z < nL) (hv : kRf v) (hd : decode cc pc = .ok (.astore z, 2)) (kk : kK p l e R s m args below meth c D A nL Q σ k n (pc + 2) (kSt1 L z v) S) : kK p l e R s m args below meth c D A nL Q σ k n pc L (v :: S) := fun H locs ls h1 h2 h3 h4 => by obtain ⟨r, rfl⟩ := hv; cases r with | none => exact lv_astoreN B.1 B.2.1 hd h4.lv hn rfl (fun ls2 h5 => kk H locs ls2 h1 h2 h3 (kHas.st1 h5)) | some x => exact lv_astore B.1 B.2.1 hd h4.lv hn rfl (fun ls2 h5 => kk H locs ls2 h1 h2 h3 (kHas.st1 h5))
theorem k_iinc (B : kB p l s m args meth c D A nL cc own) {z : Nat} {w : Int} {x y : Int32} (hl : L[z]? = some (some (.int x))) (hv : x + Int32.ofInt w = y) (hn : z < nL) (hd : decode cc pc = .ok (.iinc z w, 3)) (kk : kK p l e R s m args below meth c D A nL Q σ k n (pc + 3) (kSt1 L z (.int y)) S) : kK p l e R s m args below meth c D A nL Q σ k n pc L S := fun H locs ls h1 h2 h3 h4 => by obtain ⟨j, hj⟩ := List.getElem?_of_mem (kFl_mem.mpr (show L[(z, Value.int x).1]? = some (some (z, Value.int x).2) from hl)); exact lv_iinc B.1 B.2.1 hd h4.lv hj hv hn rfl (fun ls2 h5 => kk H locs ls2 h1 h2 h3 (kHas.st1 h5))
theorem k_iadd (B : kB p l s m args meth c D A nL cc own) {x y : Int32}  (hd : decode cc pc = .ok (.iadd, 1)) (kk : kK p l e R s m args below meth c D A nL Q σ k n (pc + 1) L (.int (x + y) :: S)) : kK p l e R s m args below meth c D A nL Q σ k n pc L (.int y :: .int x :: S) := fun H locs ls h1 h2 h3 h4 => lv_iadd B.1 B.2.1 hd  (kk H locs ls h1 h2 h3 h4)
theorem k_isub (B : kB p l s m args meth c D A nL cc own) {x y : Int32}  (hd : decode cc pc = .ok (.isub, 1)) (kk : kK p l e R s m args below meth c D A nL Q σ k n (pc + 1) L (.int (x - y) :: S)) : kK p l e R s m args below meth c D A nL Q σ k n pc L (.int y :: .int x :: S) := fun H locs ls h1 h2 h3 h4 => lv_isub B.1 B.2.1 hd  (kk H locs ls h1 h2 h3 h4)
theorem k_imul (B : kB p l s m args meth c D A nL cc own) {x y : Int32}  (hd : decode cc pc = .ok (.imul, 1)) (kk : kK p l e R s m args below meth c D A nL Q σ k n (pc + 1) L (.int (x * y) :: S)) : kK p l e R s m args below meth c D A nL Q σ k n pc L (.int y :: .int x :: S) := fun H locs ls h1 h2 h3 h4 => lv_imul B.1 B.2.1 hd  (kk H locs ls h1 h2 h3 h4)
theorem k_iand (B : kB p l s m args meth c D A nL cc own) {x y : Int32}  (hd : decode cc pc = .ok (.iand, 1)) (kk : kK p l e R s m args below meth c D A nL Q σ k n (pc + 1) L (.int (x &&& y) :: S)) : kK p l e R s m args below meth c D A nL Q σ k n pc L (.int y :: .int x :: S) := fun H locs ls h1 h2 h3 h4 => lv_iand B.1 B.2.1 hd  (kk H locs ls h1 h2 h3 h4)
theorem k_ior (B : kB p l s m args meth c D A nL cc own) {x y : Int32}  (hd : decode cc pc = .ok (.ior, 1)) (kk : kK p l e R s m args below meth c D A nL Q σ k n (pc + 1) L (.int (x ||| y) :: S)) : kK p l e R s m args below meth c D A nL Q σ k n pc L (.int y :: .int x :: S) := fun H locs ls h1 h2 h3 h4 => lv_ior B.1 B.2.1 hd  (kk H locs ls h1 h2 h3 h4)
theorem k_ixor (B : kB p l s m args meth c D A nL cc own) {x y : Int32}  (hd : decode cc pc = .ok (.ixor, 1)) (kk : kK p l e R s m args below meth c D A nL Q σ k n (pc + 1) L (.int (x ^^^ y) :: S)) : kK p l e R s m args below meth c D A nL Q σ k n pc L (.int y :: .int x :: S) := fun H locs ls h1 h2 h3 h4 => lv_ixor B.1 B.2.1 hd  (kk H locs ls h1 h2 h3 h4)
theorem k_ishl (B : kB p l s m args meth c D A nL cc own) {x y : Int32}  (hd : decode cc pc = .ok (.ishl, 1)) (kk : kK p l e R s m args below meth c D A nL Q σ k n (pc + 1) L (.int (x <<< (y &&& 31)) :: S)) : kK p l e R s m args below meth c D A nL Q σ k n pc L (.int y :: .int x :: S) := fun H locs ls h1 h2 h3 h4 => lv_ishl B.1 B.2.1 hd  (kk H locs ls h1 h2 h3 h4)
theorem k_ishr (B : kB p l s m args meth c D A nL cc own) {x y : Int32}  (hd : decode cc pc = .ok (.ishr, 1)) (kk : kK p l e R s m args below meth c D A nL Q σ k n (pc + 1) L (.int (x >>> (y &&& 31)) :: S)) : kK p l e R s m args below meth c D A nL Q σ k n pc L (.int y :: .int x :: S) := fun H locs ls h1 h2 h3 h4 => lv_ishr B.1 B.2.1 hd  (kk H locs ls h1 h2 h3 h4)
theorem k_idiv (B : kB p l s m args meth c D A nL cc own) {x y : Int32} (hne : ¬ y = 0) (hd : decode cc pc = .ok (.idiv, 1)) (kk : kK p l e R s m args below meth c D A nL Q σ k n (pc + 1) L (.int (x / y) :: S)) : kK p l e R s m args below meth c D A nL Q σ k n pc L (.int y :: .int x :: S) := fun H locs ls h1 h2 h3 h4 => lv_idiv B.1 B.2.1 hd hne (kk H locs ls h1 h2 h3 h4)
theorem k_ladd (B : kB p l s m args meth c D A nL cc own) {x y : Int64}  (hd : decode cc pc = .ok (.ladd, 1)) (kk : kK p l e R s m args below meth c D A nL Q σ k n (pc + 1) L (.long (x + y) :: S)) : kK p l e R s m args below meth c D A nL Q σ k n pc L (.long y :: .long x :: S) := fun H locs ls h1 h2 h3 h4 => lv_ladd B.1 B.2.1 hd  (kk H locs ls h1 h2 h3 h4)
theorem k_lmul (B : kB p l s m args meth c D A nL cc own) {x y : Int64}  (hd : decode cc pc = .ok (.lmul, 1)) (kk : kK p l e R s m args below meth c D A nL Q σ k n (pc + 1) L (.long (x * y) :: S)) : kK p l e R s m args below meth c D A nL Q σ k n pc L (.long y :: .long x :: S) := fun H locs ls h1 h2 h3 h4 => lv_lmul B.1 B.2.1 hd  (kk H locs ls h1 h2 h3 h4)
theorem k_i2l (B : kB p l s m args meth c D A nL cc own) {x : Int32} (hd : decode cc pc = .ok (.i2l, 1)) (kk : kK p l e R s m args below meth c D A nL Q σ k n (pc + 1) L (.long x.toInt64 :: S)) : kK p l e R s m args below meth c D A nL Q σ k n pc L (.int x :: S) := fun H locs ls h1 h2 h3 h4 => lv_i2l B.1 B.2.1 hd rfl (kk H locs ls h1 h2 h3 h4)
theorem k_l2i (B : kB p l s m args meth c D A nL cc own) {x : Int64} (hd : decode cc pc = .ok (.l2i, 1)) (kk : kK p l e R s m args below meth c D A nL Q σ k n (pc + 1) L (.int x.toInt32 :: S)) : kK p l e R s m args below meth c D A nL Q σ k n pc L (.long x :: S) := fun H locs ls h1 h2 h3 h4 => lv_l2i B.1 B.2.1 hd rfl (kk H locs ls h1 h2 h3 h4)
theorem k_i2f (B : kB p l s m args meth c D A nL cc own) {x : Int32} (hd : decode cc pc = .ok (.i2f, 1)) (kk : kK p l e R s m args below meth c D A nL Q σ k n (pc + 1) L (.float (FP.i2f x) :: S)) : kK p l e R s m args below meth c D A nL Q σ k n pc L (.int x :: S) := fun H locs ls h1 h2 h3 h4 => lv_i2f B.1 B.2.1 hd (kk H locs ls h1 h2 h3 h4)
theorem k_l2f (B : kB p l s m args meth c D A nL cc own) {x : Int64} (hd : decode cc pc = .ok (.l2f, 1)) (kk : kK p l e R s m args below meth c D A nL Q σ k n (pc + 1) L (.float (FP.l2f x) :: S)) : kK p l e R s m args below meth c D A nL Q σ k n pc L (.long x :: S) := fun H locs ls h1 h2 h3 h4 => lv_l2f B.1 B.2.1 hd (kk H locs ls h1 h2 h3 h4)
theorem k_fdiv (B : kB p l s m args meth c D A nL cc own) {x y : UInt32} (hne : vf_n32 (FP.fdiv x y)) (hd : decode cc pc = .ok (.fdiv, 1)) (kk : kK p l e R s m args below meth c D A nL Q σ k n (pc + 1) L (.float (FP.fdiv x y) :: S)) : kK p l e R s m args below meth c D A nL Q σ k n pc L (.float y :: .float x :: S) := fun H locs ls h1 h2 h3 h4 => lv_fdiv B.1 B.2.1 hd hne (kk H locs ls h1 h2 h3 h4)
theorem k_lcmp (B : kB p l s m args meth c D A nL cc own) {x y : Int64} (hd : decode cc pc = .ok (.lcmp, 1)) (kk : kK p l e R s m args below meth c D A nL Q σ k n (pc + 1) L (.int (lg_cmp x y) :: S)) : kK p l e R s m args below meth c D A nL Q σ k n pc L (.long y :: .long x :: S) := fun H locs ls h1 h2 h3 h4 => W.lcmp B.1 B.2.1 hd (kk H locs ls h1 h2 h3 h4)
theorem k_fcmp (B : kB p l s m args meth c D A nL cc own) {x y : UInt32} {op : CmpOp} (hd : decode cc pc = .ok (.fcmp op, 1)) (kk : kK p l e R s m args below meth c D A nL Q σ k n (pc + 1) L (.int (Op.cmpValue (FP.fcmp x y) op) :: S)) : kK p l e R s m args below meth c D A nL Q σ k n pc L (.float y :: .float x :: S) := fun H locs ls h1 h2 h3 h4 => lv_fcmp B.1 B.2.1 hd (kk H locs ls h1 h2 h3 h4)
theorem k_dcmp (B : kB p l s m args meth c D A nL cc own) {x y : UInt64} {op : CmpOp} (hd : decode cc pc = .ok (.dcmp op, 1)) (kk : kK p l e R s m args below meth c D A nL Q σ k n (pc + 1) L (.int (Op.cmpValue (FP.dcmp x y) op) :: S)) : kK p l e R s m args below meth c D A nL Q σ k n pc L (.double y :: .double x :: S) := fun H locs ls h1 h2 h3 h4 => lv_dcmp B.1 B.2.1 hd (kk H locs ls h1 h2 h3 h4)
theorem k_dup (B : kB p l s m args meth c D A nL cc own) {v : Value} (hv : v.category = 1) (hd : decode cc pc = .ok (.dup, 1)) (kk : kK p l e R s m args below meth c D A nL Q σ k n (pc + 1) L (v :: v :: S)) : kK p l e R s m args below meth c D A nL Q σ k n pc L (v :: S) := fun H locs ls h1 h2 h3 h4 => lv_dup B.1 B.2.1 hd hv (kk H locs ls h1 h2 h3 h4)
theorem k_dup2 (B : kB p l s m args meth c D A nL cc own) {v w : Value} (hv : v.category = 1) (hw : w.category = 1) (hd : decode cc pc = .ok (.dup2, 1)) (kk : kK p l e R s m args below meth c D A nL Q σ k n (pc + 1) L (v :: w :: v :: w :: S)) : kK p l e R s m args below meth c D A nL Q σ k n pc L (v :: w :: S) := fun H locs ls h1 h2 h3 h4 => lv_dup2_11 B.1 B.2.1 hd hv hw (kk H locs ls h1 h2 h3 h4)
theorem k_if_eq (B : kB p l s m args meth c D A nL cc own) {x : Int32} {off : Int} (tgt : Nat) (hd : decode cc pc = .ok (.ifCond .eq off, 3)) (ht : (pc : Int) + off = (tgt : Int)) (kt : x = 0 → kK p l e R s m args below meth c D A nL Q σ k n tgt L S) (kf : ¬ x = 0 → kK p l e R s m args below meth c D A nL Q σ k n (pc + 3) L S) : kK p l e R s m args below meth c D A nL Q σ k n pc L (.int x :: S) := fun H locs ls h1 h2 h3 h4 => lv_if_eq B.1 B.2.1 hd ht (fun q => kt q H locs ls h1 h2 h3 h4) (fun q => kf q H locs ls h1 h2 h3 h4)
theorem k_if_ne (B : kB p l s m args meth c D A nL cc own) {x : Int32} {off : Int} (tgt : Nat) (hd : decode cc pc = .ok (.ifCond .ne off, 3)) (ht : (pc : Int) + off = (tgt : Int)) (kt : ¬ x = 0 → kK p l e R s m args below meth c D A nL Q σ k n tgt L S) (kf : x = 0 → kK p l e R s m args below meth c D A nL Q σ k n (pc + 3) L S) : kK p l e R s m args below meth c D A nL Q σ k n pc L (.int x :: S) := fun H locs ls h1 h2 h3 h4 => lv_if_ne B.1 B.2.1 hd ht (fun q => kt q H locs ls h1 h2 h3 h4) (fun q => kf q H locs ls h1 h2 h3 h4)
theorem k_if_lt (B : kB p l s m args meth c D A nL cc own) {x : Int32} {off : Int} (tgt : Nat) (hd : decode cc pc = .ok (.ifCond .lt off, 3)) (ht : (pc : Int) + off = (tgt : Int)) (kt : x < 0 → kK p l e R s m args below meth c D A nL Q σ k n tgt L S) (kf : ¬ x < 0 → kK p l e R s m args below meth c D A nL Q σ k n (pc + 3) L S) : kK p l e R s m args below meth c D A nL Q σ k n pc L (.int x :: S) := fun H locs ls h1 h2 h3 h4 => lv_if_lt B.1 B.2.1 hd ht (fun q => kt q H locs ls h1 h2 h3 h4) (fun q => kf q H locs ls h1 h2 h3 h4)
theorem k_if_le (B : kB p l s m args meth c D A nL cc own) {x : Int32} {off : Int} (tgt : Nat) (hd : decode cc pc = .ok (.ifCond .le off, 3)) (ht : (pc : Int) + off = (tgt : Int)) (kt : x ≤ 0 → kK p l e R s m args below meth c D A nL Q σ k n tgt L S) (kf : ¬ x ≤ 0 → kK p l e R s m args below meth c D A nL Q σ k n (pc + 3) L S) : kK p l e R s m args below meth c D A nL Q σ k n pc L (.int x :: S) := fun H locs ls h1 h2 h3 h4 => lv_if_le B.1 B.2.1 hd ht (fun q => kt q H locs ls h1 h2 h3 h4) (fun q => kf q H locs ls h1 h2 h3 h4)
theorem k_if_gt (B : kB p l s m args meth c D A nL cc own) {x : Int32} {off : Int} (tgt : Nat) (hd : decode cc pc = .ok (.ifCond .gt off, 3)) (ht : (pc : Int) + off = (tgt : Int)) (kt : 0 < x → kK p l e R s m args below meth c D A nL Q σ k n tgt L S) (kf : ¬ 0 < x → kK p l e R s m args below meth c D A nL Q σ k n (pc + 3) L S) : kK p l e R s m args below meth c D A nL Q σ k n pc L (.int x :: S) := fun H locs ls h1 h2 h3 h4 => lv_if_gt B.1 B.2.1 hd ht (fun q => kt q H locs ls h1 h2 h3 h4) (fun q => kf q H locs ls h1 h2 h3 h4)
theorem k_if_ge (B : kB p l s m args meth c D A nL cc own) {x : Int32} {off : Int} (tgt : Nat) (hd : decode cc pc = .ok (.ifCond .ge off, 3)) (ht : (pc : Int) + off = (tgt : Int)) (kt : 0 ≤ x → kK p l e R s m args below meth c D A nL Q σ k n tgt L S) (kf : ¬ 0 ≤ x → kK p l e R s m args below meth c D A nL Q σ k n (pc + 3) L S) : kK p l e R s m args below meth c D A nL Q σ k n pc L (.int x :: S) := fun H locs ls h1 h2 h3 h4 => lv_if_ge B.1 B.2.1 hd ht (fun q => kt q H locs ls h1 h2 h3 h4) (fun q => kf q H locs ls h1 h2 h3 h4)
theorem k_icmp_eq (B : kB p l s m args meth c D A nL cc own) {x y : Int32} {off : Int} (tgt : Nat) (hd : decode cc pc = .ok (.if_icmp .eq off, 3)) (ht : (pc : Int) + off = (tgt : Int)) (kt : x = y → kK p l e R s m args below meth c D A nL Q σ k n tgt L S) (kf : ¬ x = y → kK p l e R s m args below meth c D A nL Q σ k n (pc + 3) L S) : kK p l e R s m args below meth c D A nL Q σ k n pc L (.int y :: .int x :: S) := fun H locs ls h1 h2 h3 h4 => lv_icmp_eq B.1 B.2.1 hd ht (fun q => kt q H locs ls h1 h2 h3 h4) (fun q => kf q H locs ls h1 h2 h3 h4)
theorem k_icmp_ne (B : kB p l s m args meth c D A nL cc own) {x y : Int32} {off : Int} (tgt : Nat) (hd : decode cc pc = .ok (.if_icmp .ne off, 3)) (ht : (pc : Int) + off = (tgt : Int)) (kt : ¬ x = y → kK p l e R s m args below meth c D A nL Q σ k n tgt L S) (kf : x = y → kK p l e R s m args below meth c D A nL Q σ k n (pc + 3) L S) : kK p l e R s m args below meth c D A nL Q σ k n pc L (.int y :: .int x :: S) := fun H locs ls h1 h2 h3 h4 => lv_icmp_ne B.1 B.2.1 hd ht (fun q => kt q H locs ls h1 h2 h3 h4) (fun q => kf q H locs ls h1 h2 h3 h4)
theorem k_icmp_lt (B : kB p l s m args meth c D A nL cc own) {x y : Int32} {off : Int} (tgt : Nat) (hd : decode cc pc = .ok (.if_icmp .lt off, 3)) (ht : (pc : Int) + off = (tgt : Int)) (kt : x < y → kK p l e R s m args below meth c D A nL Q σ k n tgt L S) (kf : ¬ x < y → kK p l e R s m args below meth c D A nL Q σ k n (pc + 3) L S) : kK p l e R s m args below meth c D A nL Q σ k n pc L (.int y :: .int x :: S) := fun H locs ls h1 h2 h3 h4 => lv_icmp_lt B.1 B.2.1 hd ht (fun q => kt q H locs ls h1 h2 h3 h4) (fun q => kf q H locs ls h1 h2 h3 h4)
theorem k_icmp_le (B : kB p l s m args meth c D A nL cc own) {x y : Int32} {off : Int} (tgt : Nat) (hd : decode cc pc = .ok (.if_icmp .le off, 3)) (ht : (pc : Int) + off = (tgt : Int)) (kt : x ≤ y → kK p l e R s m args below meth c D A nL Q σ k n tgt L S) (kf : ¬ x ≤ y → kK p l e R s m args below meth c D A nL Q σ k n (pc + 3) L S) : kK p l e R s m args below meth c D A nL Q σ k n pc L (.int y :: .int x :: S) := fun H locs ls h1 h2 h3 h4 => lv_icmp_le B.1 B.2.1 hd ht (fun q => kt q H locs ls h1 h2 h3 h4) (fun q => kf q H locs ls h1 h2 h3 h4)
theorem k_icmp_gt (B : kB p l s m args meth c D A nL cc own) {x y : Int32} {off : Int} (tgt : Nat) (hd : decode cc pc = .ok (.if_icmp .gt off, 3)) (ht : (pc : Int) + off = (tgt : Int)) (kt : y < x → kK p l e R s m args below meth c D A nL Q σ k n tgt L S) (kf : ¬ y < x → kK p l e R s m args below meth c D A nL Q σ k n (pc + 3) L S) : kK p l e R s m args below meth c D A nL Q σ k n pc L (.int y :: .int x :: S) := fun H locs ls h1 h2 h3 h4 => lv_icmp_gt B.1 B.2.1 hd ht (fun q => kt q H locs ls h1 h2 h3 h4) (fun q => kf q H locs ls h1 h2 h3 h4)
theorem k_icmp_ge (B : kB p l s m args meth c D A nL cc own) {x y : Int32} {off : Int} (tgt : Nat) (hd : decode cc pc = .ok (.if_icmp .ge off, 3)) (ht : (pc : Int) + off = (tgt : Int)) (kt : y ≤ x → kK p l e R s m args below meth c D A nL Q σ k n tgt L S) (kf : ¬ y ≤ x → kK p l e R s m args below meth c D A nL Q σ k n (pc + 3) L S) : kK p l e R s m args below meth c D A nL Q σ k n pc L (.int y :: .int x :: S) := fun H locs ls h1 h2 h3 h4 => lv_icmp_ge B.1 B.2.1 hd ht (fun q => kt q H locs ls h1 h2 h3 h4) (fun q => kf q H locs ls h1 h2 h3 h4)
theorem k_goto (B : kB p l s m args meth c D A nL cc own) {off : Int} (tgt : Nat) (hd : decode cc pc = .ok (.goto off, 3)) (ht : (pc : Int) + off = (tgt : Int)) (kk : kK p l e R s m args below meth c D A nL Q σ k n tgt L S) : kK p l e R s m args below meth c D A nL Q σ k n pc L S := fun H locs ls h1 h2 h3 h4 => lv_goto B.1 B.2.1 hd ht (kk H locs ls h1 h2 h3 h4)
theorem k_ifnull (B : kB p l s m args meth c D A nL cc own) {r : Option Nat} {off : Int} (tgt : Nat) (hd : decode cc pc = .ok (.ifnull off, 3)) (ht : (pc : Int) + off = (tgt : Int)) (kt : r = none → kK p l e R s m args below meth c D A nL Q σ k n tgt L S) (kf : ∀ a : Nat, r = some a → kK p l e R s m args below meth c D A nL Q σ k n (pc + 3) L S) : kK p l e R s m args below meth c D A nL Q σ k n pc L (va_rf r :: S) := fun H locs ls h1 h2 h3 h4 => by
  cases r with
  | none => exact lv_ifnullN B.1 B.2.1 hd ht (kt rfl H locs ls h1 h2 h3 h4)
  | some a => exact lv_ifnull B.1 B.2.1 hd (kf a rfl H locs ls h1 h2 h3 h4)
theorem k_ifnullR (B : kB p l s m args meth c D A nL cc own) {a : Nat} {off : Int} (tgt : Nat) (hd : decode cc pc = .ok (.ifnull off, 3)) (ht : (pc : Int) + off = (tgt : Int)) (kf : kK p l e R s m args below meth c D A nL Q σ k n (pc + 3) L S) : kK p l e R s m args below meth c D A nL Q σ k n pc L (.ref a :: S) := k_ifnull B (r := some a) tgt hd ht (fun q => by cases q) (fun _ _ => kf)
theorem k_ifnullN (B : kB p l s m args meth c D A nL cc own) {off : Int} (tgt : Nat) (hd : decode cc pc = .ok (.ifnull off, 3)) (ht : (pc : Int) + off = (tgt : Int)) (kt : kK p l e R s m args below meth c D A nL Q σ k n tgt L S) : kK p l e R s m args below meth c D A nL Q σ k n pc L (.null :: S) := k_ifnull B (r := none) tgt hd ht (fun _ => kt) (fun _ q => by cases q)
theorem k_ifnonnull (B : kB p l s m args meth c D A nL cc own) {r : Option Nat} {off : Int} (tgt : Nat) (hd : decode cc pc = .ok (.ifnonnull off, 3)) (ht : (pc : Int) + off = (tgt : Int)) (kt : r = none → kK p l e R s m args below meth c D A nL Q σ k n (pc + 3) L S) (kf : ∀ a : Nat, r = some a → kK p l e R s m args below meth c D A nL Q σ k n tgt L S) : kK p l e R s m args below meth c D A nL Q σ k n pc L (va_rf r :: S) := fun H locs ls h1 h2 h3 h4 => by
  cases r with
  | none => exact lv_ifnonnullN B.1 B.2.1 hd (kt rfl H locs ls h1 h2 h3 h4)
  | some a => exact lv_ifnonnull B.1 B.2.1 hd ht (kf a rfl H locs ls h1 h2 h3 h4)
theorem k_ifnonnullR (B : kB p l s m args meth c D A nL cc own) {a : Nat} {off : Int} (tgt : Nat) (hd : decode cc pc = .ok (.ifnonnull off, 3)) (ht : (pc : Int) + off = (tgt : Int)) (kf : kK p l e R s m args below meth c D A nL Q σ k n tgt L S) : kK p l e R s m args below meth c D A nL Q σ k n pc L (.ref a :: S) := k_ifnonnull B (r := some a) tgt hd ht (fun q => by cases q) (fun _ _ => kf)
theorem k_ifnonnullN (B : kB p l s m args meth c D A nL cc own) {off : Int} (tgt : Nat) (hd : decode cc pc = .ok (.ifnonnull off, 3)) (ht : (pc : Int) + off = (tgt : Int)) (kt : kK p l e R s m args below meth c D A nL Q σ k n (pc + 3) L S) : kK p l e R s m args below meth c D A nL Q σ k n pc L (.null :: S) := k_ifnonnull B (r := none) tgt hd ht (fun _ => kt) (fun _ q => by cases q)
theorem k_tabIn (B : kB p l s m args meth c D A nL cc own) {dflt lo hi : Int} {offs : Array Int} {len : Nat} {x : Int32} {off : Int} (tgt : Nat) (hd : decode cc pc = .ok (.tableswitch dflt lo hi offs, len)) (g1 : ¬ x.toInt < lo) (g2 : ¬ hi < x.toInt) (ho : offs[(x.toInt - lo).toNat]? = some off) (ht : (pc : Int) + off = (tgt : Int)) (kk : kK p l e R s m args below meth c D A nL Q σ k n tgt L S) : kK p l e R s m args below meth c D A nL Q σ k n pc L (.int x :: S) := fun H locs ls h1 h2 h3 h4 => lv_tableIn B.1 B.2.1 hd g1 g2 ho ht (kk H locs ls h1 h2 h3 h4)
theorem k_tabOut (B : kB p l s m args meth c D A nL cc own) {dflt lo hi : Int} {offs : Array Int} {len : Nat} {x : Int32} (tgt : Nat) (hd : decode cc pc = .ok (.tableswitch dflt lo hi offs, len)) (g1 : x.toInt < lo ∨ hi < x.toInt) (ht : (pc : Int) + dflt = (tgt : Int)) (kk : kK p l e R s m args below meth c D A nL Q σ k n tgt L S) : kK p l e R s m args below meth c D A nL Q σ k n pc L (.int x :: S) := fun H locs ls h1 h2 h3 h4 => lv_tableOut B.1 B.2.1 hd g1 ht (kk H locs ls h1 h2 h3 h4)
theorem k_lookup (B : kB p l s m args meth c D A nL cc own) {dflt : Int} {ps : Array (Int × Int)} {len : Nat} {x : Int32} {off : Int} (tgt : Nat) (hd : decode cc pc = .ok (.lookupswitch dflt ps, len)) (hp : (ps.toList.zip (ps.toList.drop 1)).all (fun (a, next) => a.1 < next.1) = true) (ho : Op.lookupswitch.offset ps.toList dflt x.toInt = off) (ht : (pc : Int) + off = (tgt : Int)) (kk : kK p l e R s m args below meth c D A nL Q σ k n tgt L S) : kK p l e R s m args below meth c D A nL Q σ k n pc L (.int x :: S) := fun H locs ls h1 h2 h3 h4 => lv_lookup B.1 B.2.1 hd hp ho ht (kk H locs ls h1 h2 h3 h4)
theorem k_ldc2 (B : kB p l s m args meth c D A nL cc own) {idx : Nat} {v : Int64} (hw : Cond.constantLong own idx v ∈ TB) (hd : decode cc pc = .ok (.ldc2_w idx, 3)) (kk : kK p l e R s m args below meth c D A nL Q σ k n (pc + 3) L (.long v :: S)) : kK p l e R s m args below meth c D A nL Q σ k n pc L S := fun H locs ls h1 h2 h3 h4 => lv_ldc2 B.1 B.2.1 B.2.2.2.1 (B.2.2.2.2.1 _ hw) hd (kk H locs ls h1 h2 h3 h4)
theorem k_ldc (B : kB p l s m args meth c D A nL cc own) {idx : Nat} {v : Int32} (hw : Cond.constant own idx v ∈ TB) (hd : decode cc pc = .ok (.ldc idx, 2)) (kk : kK p l e R s m args below meth c D A nL Q σ k n (pc + 2) L (.int v :: S)) : kK p l e R s m args below meth c D A nL Q σ k n pc L S := fun H locs ls h1 h2 h3 h4 => lv_ldc B.1 B.2.1 B.2.2.2.1 (B.2.2.2.2.1 _ hw) hd (kk H locs ls h1 h2 h3 h4)
end KR
end
section
section KH
variable {p : Program} {l : Launch} {e : Env} {R : Room} {s : State} {m : MethodId} {args : Array Value} {below : List Frame} {meth : Method} {c : Code} {D : va_G} {A : Nat → Prop} {nL : Nat} {Q : State → Prop} {σ : kS} {k n pc : Nat} {L : List (Option Value)} {S : List Value} {cc : ByteArray} {own : String}
theorem kK_dom {A : Nat → Prop} {σ : kS} {a : Nat} {x : va_E} (h : ∀ (b : Nat) (y : va_E), σ b = some y → A b) (ha : A a) : ∀ (b : Nat) (y : va_E), kUp σ a x b = some y → A b := by
  intro b y hb
  by_cases q : b = a
  · rw [q]; exact ha
  · rw [kUp_ne q] at hb; exact h b y hb
theorem k_get (B : kB p l s m args meth c D A nL cc own) {C : String} {T : u_T} {N ci idx a : Nat} (hin : ∀ w ∈ u_ws C T N, w ∈ TB) (hc : vwCl[ci]? = some (C, T, N)) (j : Nat) (hj : j < N) (hw : Cond.fieldLink own idx C (T j).2.1 (T j).2.2.1 ∈ TB) (hT : (T j).1 = C) (hd : decode cc pc = .ok (.getfield idx, 3)) {fs : List Value} (he : σ a = some (.inr (ci, fs))) {v : Value} (hv : fs[j]? = some v)
    (kk : kK p l e R s m args below meth c D A nL Q σ k n (pc + 3) L (v :: S)) : kK p l e R s m args below meth c D A nL Q σ k n pc L (.ref a :: S) := fun H locs ls h1 h2 h3 h4 =>
  va_get (D := D) (Ts := TB) B.1 B.2.1 B.2.2.2.2.1 hin B.2.2.2.1 B.2.2.2.2.2.1 (h1.p he) 0 rfl hc j hj (B.2.2.2.2.1 _ hw) (fun x hx => by rw [hT] at hx; exact hx) hv hd (kk H locs ls h1 h2 h3 h4)
theorem k_put (B : kB p l s m args meth c D A nL cc own) {C : String} {T : u_T} {N ci idx a : Nat} (hin : ∀ w ∈ u_ws C T N, w ∈ TB) (hc : vwCl[ci]? = some (C, T, N)) (ty0 : Nat → FieldType) (hty : ∀ k, k < N → parseFieldDescriptor (T k).2.2.1 = some (ty0 k)) (hnm : ∀ a, a < N → ∀ b, b < N → a ≠ b → (T a).2.1 ≠ (T b).2.1) (j : Nat) (hj : j < N) (hw : Cond.fieldLink own idx C (T j).2.1 (T j).2.2.1 ∈ TB) (hT : (T j).1 = C) (hfin : (T j).2.2.2 = false) (hd : decode cc pc = .ok (.putfield idx, 3)) {fs : List Value} (he : σ a = some (.inr (ci, fs))) {v : Value} (hn : narrow (ty0 j) v = v) (hfit : fits (ty0 j) v = true) (hl : j < fs.length)
    (kk : kK p l e R s m args below meth c D A nL Q (kUp σ a (.inr (ci, fs.set j v))) k n (pc + 3) L S) : kK p l e R s m args below meth c D A nL Q σ k n pc L (v :: .ref a :: S) := by
  intro H locs ls h1 h2 h3 h4
  obtain ⟨hexec, hb, -, hown, hts, hK, -, -, -, -⟩ := B
  have hap := va_apart (own := own) hts hin ty0 hty hnm hK hc
  obtain ⟨r, g1, cell, q1, q2, q3, q4⟩ := h1 a _ he
  have hr : r = (C, T, N) := Option.some.inj (g1.symm.trans hc)
  subst hr
  obtain ⟨hS, hfc, kC, hkC, hkind⟩ := hK.1 ci _ hc
  obtain ⟨cf, kf, fi, f, hi, hsl⟩ := hS j hj
  have hlay := hts _ (hin _ (u_in_lay hj))
  unfold u_lay at hlay
  rw [if_neg (by rw [hfin]; decide)] at hlay
  have hst := (u_facts hfc hkC (u_lays hts hin hj) hi).1
  have h6 := u_store hfc hkC hkind hlay hi (hty j hj) hn hfit
  refine W.putK hexec hb (f := f) ⟨hown, hts _ hw, ⟨_, _, _, (by rw [hT] at hi; exact hi)⟩, hst⟩ (by rw [q2]; exact h6) q1 q3 (by rw [hsl]; exact k2_hasslot (q4 j hj)) rfl rfl hd fun H' e1 e2 e3 => ?_
  rw [hsl] at e1 ⊢
  exact kk H' _ ls (h1.up ⟨_, hc, t_OB.to (V := updV (vp_V fs) j v) ⟨_, e1, q2, q3, t_set q4 hap hj v⟩ (fun i _ => vp_updV_set hl v i)⟩ (fun q hq _ => e3 q hq)) (kK_dom h2 (h2 a _ he)) (h3.put e2 e3 (h2 a _ he)) h4
theorem k_putF (B : kB p l s m args meth c D A nL cc own) {C : String} {T : u_T} {N ci idx a : Nat} (hin : ∀ w ∈ u_ws C T N, w ∈ TB) (hc : vwCl[ci]? = some (C, T, N)) (ty0 : Nat → FieldType) (hty : ∀ k, k < N → parseFieldDescriptor (T k).2.2.1 = some (ty0 k)) (hnm : ∀ a, a < N → ∀ b, b < N → a ≠ b → (T a).2.1 ≠ (T b).2.1) (j : Nat) (hj : j < N) (hw : Cond.fieldLink own idx C (T j).2.1 (T j).2.2.1 ∈ TB) (hT : (T j).1 = C) (hfin : (T j).2.2.2 = true) (hown2 : C = own) (hin2 : meth.name = "<init>") (hd : decode cc pc = .ok (.putfield idx, 3)) {fs : List Value} (he : σ a = some (.inr (ci, fs))) {v : Value} (hn : narrow (ty0 j) v = v) (hfit : fits (ty0 j) v = true) (hl : j < fs.length)
    (kk : kK p l e R s m args below meth c D A nL Q (kUp σ a (.inr (ci, fs.set j v))) k n (pc + 3) L S) : kK p l e R s m args below meth c D A nL Q σ k n pc L (v :: .ref a :: S) := by
  intro H locs ls h1 h2 h3 h4
  obtain ⟨hexec, hb, -, hown, hts, hK, -, -, -, -⟩ := B
  have hap := va_apart (own := own) hts hin ty0 hty hnm hK hc
  obtain ⟨r, g1, cell, q1, q2, q3, q4⟩ := h1 a _ he
  have hr : r = (C, T, N) := Option.some.inj (g1.symm.trans hc)
  subst hr
  obtain ⟨hS, hfc, kC, hkC, hkind⟩ := hK.1 ci _ hc
  obtain ⟨cf, kf, fi, f, hi, hsl⟩ := hS j hj
  have hlay := hts _ (hin _ (u_in_lay hj))
  unfold u_lay at hlay
  rw [if_pos hfin] at hlay
  have hst := (u_facts hfc hkC (u_lays hts hin hj) hi).1
  have hcf : m.cls = cf := by
    obtain ⟨_, _, c', _, _, _, -, -, hf', -, -, -, hown3, -⟩ := Cond.laysFinal_spec hlay
    have e1 : c' = cf := by have := hi.symm.trans hf'; simp at this; exact this.1.symm
    rw [hT, hown2] at hown3
    rw [← e1]; exact Option.some.inj (hown.symm.trans hown3)
  have h6 := u_fits hfc hkC hkind (Or.inr hlay) hi (hty j hj) hn hfit
  refine W.putFinK hexec hb hown (hts _ hw) (by rw [hT] at hi; exact hi) hst hcf hin2 (by rw [q2]; exact h6) q1 q3 (by rw [hsl]; exact k2_hasslot (q4 j hj)) rfl rfl hd fun H' e1 e2 e3 => ?_
  rw [hsl] at e1 ⊢
  exact kk H' _ ls (h1.up ⟨_, hc, t_OB.to (V := updV (vp_V fs) j v) ⟨_, e1, q2, q3, t_set q4 hap hj v⟩ (fun i _ => vp_updV_set hl v i)⟩ (fun q hq _ => e3 q hq)) (kK_dom h2 (h2 a _ he)) (h3.put e2 e3 (h2 a _ he)) h4
theorem va_S.grow {A : Nat → Prop} {H0 H H1 : Heap} {locs : List Loc} (h : va_S A H0 H locs) (z : H1.size = H.size + 1) (o : ∀ q : Nat, q < H.size → H1[q]? = H[q]?) : va_S A H0 H1 locs := ⟨Nat.le_trans h.1 (by omega), fun x h1 h2 => (o x (Nat.lt_of_lt_of_le h1 h.1)).trans (h.2.1 x h1 h2), h.2.2⟩
theorem k_new (B : kB p l s m args meth c D A nL cc own) {C : String} {T : u_T} {N ci idx : Nat} (hin : ∀ w ∈ u_ws C T N, w ∈ TB) (hc : vwCl[ci]? = some (C, T, N)) (ty0 : Nat → FieldType) (hty : ∀ k, k < N → parseFieldDescriptor (T k).2.2.1 = some (ty0 k)) (hw : Cond.classLink own idx C ∈ TB) (hw2 : Cond.instantiable C N ∈ TB) (hw3 : Cond.initialized C ∈ TB) (hd : decode cc pc = .ok (.new idx, 3)) {fs : List Value} (hfs : ∀ j, j < N → defaultValue (ty0 j) = vp_V fs j) (hk : k + 1 ≤ R.cells) (hn : n + N ≤ R.slots)
    (kk : ∀ q : Nat, σ q = none → kK p l e R s m args below meth c D A nL Q (kUp σ q (.inr (ci, fs))) (k + 1) (n + N) (pc + 3) L (.ref q :: S)) : kK p l e R s m args below meth c D A nL Q σ k n pc L S := by
  intro H locs ls h1 h2 h3 h4
  obtain ⟨hexec, hb, -, hown, hts, hK, hA, -, -, -⟩ := B
  have hKn := hK.1 ci _ hc
  refine W.newcK hexec hb hown (hts _ hw) (hts _ hw2) (hts _ hw3) rfl hd hk hn hKn.2.1 rfl fun H1 kC hkC e1 z1 o1 => ?_
  exact kk H.size (h1.fresh (Nat.le_refl _)) H1 locs ls (h1.up ⟨_, hc, (u_born ty0 hts hin hKn hkC e1 hty).to hfs⟩ (fun q _ hq => o1 q hq)) (kK_dom h2 (hA _ h3.1)) (h3.grow z1 o1) h4
theorem k_newa (B : kB p l s m args meth c D A nL cc own) {atype : ArrayType} {ty : FieldType} (ti : Nat) {cA : ClassId} (ht : (kTys D)[ti]? = some (cA, ty)) (hty : newarray.typeOf atype = ty) (hnr : ∀ C, ty ≠ .object C) (hw : Cond.arrayClass (newarray.typeOf atype) ∈ TB) (hd : decode cc pc = .ok (.newarray atype, 2)) {z : Int32} {N : Nat} {a0 : vp_A} (ha : ∀ cA : ClassId, vp_cell cA a0 = arrV cA N (fun _ => defaultValue ty)) (h0 : ¬ z < 0) (hN : z.toNatClampNeg = N) (hby : N * componentBytes ty ≤ 536870912) (hk : k + 1 ≤ R.cells) (hn : n + N ≤ R.slots)
    (kk : ∀ q : Nat, σ q = none → kK p l e R s m args below meth c D A nL Q (kUp σ q (.inl (cA, a0))) (k + 1) (n + N) (pc + 2) L (.ref q :: S)) : kK p l e R s m args below meth c D A nL Q σ k n pc L (.int z :: S) := by
  intro H locs ls h1 h2 h3 h4
  obtain ⟨hexec, hb, -, hown, hts, hK, hA, -, -, -⟩ := B
  subst hty
  refine va_newaK hexec hb (hts _ hw) rfl hd rfl h0 hN hby hk hn rfl fun H1 cA2 e1 z1 o1 hAr hNm => ?_
  have hRA := (hK.2 ti _ ht).2
  have hcA : cA2 = cA := by
    have h9 : s.vm.findClass ("[" ++ (newarray.typeOf atype).toString) = some cA := by
      unfold va_RA at hRA
      split at hRA
      · rename_i C hC
        exact absurd hC (hnr C)
      · exact hRA
    exact Option.some.inj (hNm.symm.trans h9)
  subst hcA
  refine kk H.size (h1.fresh (Nat.le_refl _)) H1 locs ls (h1.up (show H1[H.size]? = some (vp_cell _ _) by rw [ha]; exact e1) (fun q _ hq => o1 q hq)) (kK_dom h2 (hA _ h3.1)) (h3.grow z1 o1) h4
theorem k_newq (B : kB p l s m args meth c D A nL cc own) {C : String} {idx : Nat} (ti : Nat) {cA : ClassId} (ht : (kTys D)[ti]? = some (cA, .object C)) (hw : Cond.classLink own idx C ∈ TB) (hov : Cond.arrayOver (.object C) ∈ TB) (hd : decode cc pc = .ok (.anewarray idx, 3)) {z : Int32} {N : Nat} (h0 : ¬ z < 0) (hN : z.toNatClampNeg = N) (hby : N * 4 ≤ 536870912) (hk : k + 1 ≤ R.cells) (hn : n + N ≤ R.slots)
    (kk : ∀ q : Nat, σ q = none → kK p l e R s m args below meth c D A nL Q (kUp σ q (.inl (cA, N, .inr (.inr (.inr (.inr (fun _ => none))))))) (k + 1) (n + N) (pc + 3) L (.ref q :: S)) : kK p l e R s m args below meth c D A nL Q σ k n pc L (.int z :: S) := by
  intro H locs ls h1 h2 h3 h4
  obtain ⟨hexec, hb, -, hown, hts, hK, hA, -, -, -⟩ := B
  subst hN
  refine W.anew hexec hb hown (hts _ hw) (hts _ hov) rfl hd rfl h0 hby hk hn fun cA2 kA comp f1 f2 f3 f4 => ?_
  obtain ⟨kA9, comp9, g1, g2, g3, g4⟩ := (hK.2 ti _ ht).2
  have hcA : cA2 = cA := Option.some.inj (f1.symm.trans g4)
  subst hcA
  generalize hH1 : H.push ({ cls := cA2, slots := Array.replicate z.toNatClampNeg .null, vm := .none } : Cell) = H1
  have z1 : H1.size = H.size + 1 := by rw [← hH1, Array.size_push]
  have e1 : H1[H.size]? = some (arrV cA2 z.toNatClampNeg (fun _ => .null)) := by rw [← hH1, Array.getElem?_push_size, ← arrV_new]
  have o1 : ∀ q : Nat, q < H.size → H1[q]? = H[q]? := fun q hq => by rw [← hH1, Array.getElem?_push, if_neg (Nat.ne_of_lt hq)]
  exact kk H.size (h1.fresh (Nat.le_refl _)) H1 locs ls (h1.up (show H1[H.size]? = some (vp_cell _ _) by rw [vp_cell_q]; exact e1) (fun q _ hq => o1 q hq)) (kK_dom h2 (hA _ h3.1)) (h3.grow z1 o1) h4
theorem k_iald (B : kB p l s m args meth c D A nL cc own) {a N : Nat} {f : Nat → Int32} {i : Int32} (hd : decode cc pc = .ok (.iaload, 1)) (he : σ a = some (.inl (D.1 11, N, .inl f))) (hi : vp_in i N) (kk : kK p l e R s m args below meth c D A nL Q σ k n (pc + 1) L (.int (f i.toNatClampNeg) :: S)) : kK p l e R s m args below meth c D A nL Q σ k n pc L (.int i :: .ref a :: S) := fun H locs ls h1 h2 h3 h4 =>
  va_iald B.1 B.2.1 B.2.2.2.2.2.1 (h1.p he) 0 0 rfl rfl hi hd (kk H locs ls h1 h2 h3 h4)
theorem k_zald (B : kB p l s m args meth c D A nL cc own) {a N : Nat} {f : Nat → Int32} {i : Int32} (hd : decode cc pc = .ok (.baload, 1)) (he : σ a = some (.inl (D.1 12, N, .inl f))) (hi : vp_in i N) (kk : kK p l e R s m args below meth c D A nL Q σ k n (pc + 1) L (.int (f i.toNatClampNeg) :: S)) : kK p l e R s m args below meth c D A nL Q σ k n pc L (.int i :: .ref a :: S) := fun H locs ls h1 h2 h3 h4 =>
  va_zald B.1 B.2.1 B.2.2.2.2.2.1 (h1.p he) 0 1 rfl rfl hi hd (kk H locs ls h1 h2 h3 h4)
theorem k_lald (B : kB p l s m args meth c D A nL cc own) {a N : Nat} {f : Nat → Int64} {i : Int32} (hd : decode cc pc = .ok (.laload, 1)) (he : σ a = some (.inl (D.1 13, N, .inr (.inl f)))) (hi : vp_in i N) (kk : kK p l e R s m args below meth c D A nL Q σ k n (pc + 1) L (.long (f i.toNatClampNeg) :: S)) : kK p l e R s m args below meth c D A nL Q σ k n pc L (.int i :: .ref a :: S) := fun H locs ls h1 h2 h3 h4 =>
  va_lald B.1 B.2.1 B.2.2.2.2.2.1 (h1.p he) 0 2 rfl rfl hi hd (kk H locs ls h1 h2 h3 h4)
theorem k_dald (B : kB p l s m args meth c D A nL cc own) {a N : Nat} {f : Nat → UInt64} {i : Int32} (hd : decode cc pc = .ok (.daload, 1)) (he : σ a = some (.inl (D.1 14, N, .inr (.inr (.inr (.inl f)))))) (hi : vp_in i N) (kk : kK p l e R s m args below meth c D A nL Q σ k n (pc + 1) L (.double (f i.toNatClampNeg) :: S)) : kK p l e R s m args below meth c D A nL Q σ k n pc L (.int i :: .ref a :: S) := fun H locs ls h1 h2 h3 h4 =>
  va_dald B.1 B.2.1 B.2.2.2.2.2.1 (h1.p he) 0 3 rfl rfl hi hd (kk H locs ls h1 h2 h3 h4)
theorem k_aald (B : kB p l s m args meth c D A nL cc own) (ti : Nat) {cA : ClassId} {C : String} (ht : (kTys D)[ti]? = some (cA, .object C)) {a N : Nat} {f : Nat → Option Nat} {i : Int32} (hd : decode cc pc = .ok (.aaload, 1)) (he : σ a = some (.inl (cA, N, .inr (.inr (.inr (.inr f)))))) (hi : vp_in i N) (kk : kK p l e R s m args below meth c D A nL Q σ k n (pc + 1) L (va_rf (f i.toNatClampNeg) :: S)) : kK p l e R s m args below meth c D A nL Q σ k n pc L (.int i :: .ref a :: S) := fun H locs ls h1 h2 h3 h4 =>
  va_aldq B.1 B.2.1 B.2.2.2.2.2.1 (h1.p he) 0 ti rfl ht hi hd (kk H locs ls h1 h2 h3 h4)
theorem k_iast (B : kB p l s m args meth c D A nL cc own) {a N : Nat} {f : Nat → Int32} {i x : Int32} (hd : decode cc pc = .ok (.iastore, 1)) (he : σ a = some (.inl (D.1 11, N, .inl f))) (hi : vp_in i N) (kk : kK p l e R s m args below meth c D A nL Q (kUp σ a (.inl (D.1 11, N, .inl (upd f i.toNatClampNeg x)))) k n (pc + 1) L S) : kK p l e R s m args below meth c D A nL Q σ k n pc L (.int x :: .int i :: .ref a :: S) := by
  intro H locs ls h1 h2 h3 h4
  refine W.iast B.1 B.2.1 (h1 a _ he) ((B.2.2.2.2.2.1.2 0 _ rfl).1 N (fun j => .int (f j))) (fun q => by cases q) (by show ¬ (i < 0 ∨ (arrV _ _ _).slots.size ≤ _); rw [arrV_size]; exact hi) rfl rfl hd fun H1 e1 z oq => ?_
  refine kk H1 _ ls (h1.up ?_ (fun q hq _ => oq q hq)) (kK_dom h2 (h2 a _ he)) (h3.put z oq (h2 a _ he)) h4
  show H1[a]? = some (vp_cell _ _)
  rw [e1]
  rw [vp_cell_i, vp_cell_i, arrV_store]
  congr 2
  funext q
  by_cases hq : q = i.toNatClampNeg
  · subst hq
    simp [updV, upd]
  · simp [updV, upd, hq]
theorem k_zast (B : kB p l s m args meth c D A nL cc own) {a N : Nat} {f : Nat → Int32} {i x : Int32} (hd : decode cc pc = .ok (.bastore, 1)) (he : σ a = some (.inl (D.1 12, N, .inl f))) (hi : vp_in i N) (kk : kK p l e R s m args below meth c D A nL Q (kUp σ a (.inl (D.1 12, N, .inl (upd f i.toNatClampNeg (vp_nar .boolean x))))) k n (pc + 1) L S) : kK p l e R s m args below meth c D A nL Q σ k n pc L (.int x :: .int i :: .ref a :: S) := by
  intro H locs ls h1 h2 h3 h4
  refine W.zast B.1 B.2.1 (h1 a _ he) ((B.2.2.2.2.2.1.2 1 _ rfl).1 N (fun j => .int (f j))) (fun q => by cases q) (by show ¬ (i < 0 ∨ (arrV _ _ _).slots.size ≤ _); rw [arrV_size]; exact hi) rfl rfl hd fun H1 e1 z oq => ?_
  refine kk H1 _ ls (h1.up ?_ (fun q hq _ => oq q hq)) (kK_dom h2 (h2 a _ he)) (h3.put z oq (h2 a _ he)) h4
  show H1[a]? = some (vp_cell _ _)
  rw [e1]
  rw [vp_cell_i, vp_cell_i, arrV_store]
  congr 2
  funext q
  by_cases hq : q = i.toNatClampNeg
  · subst hq
    simp [updV, upd, vp_nar]
    try rfl
  · simp [updV, upd, hq]
theorem k_last (B : kB p l s m args meth c D A nL cc own) {a N : Nat} {f : Nat → Int64} {i : Int32} {x : Int64} (hd : decode cc pc = .ok (.lastore, 1)) (he : σ a = some (.inl (D.1 13, N, .inr (.inl f)))) (hi : vp_in i N) (kk : kK p l e R s m args below meth c D A nL Q (kUp σ a (.inl (D.1 13, N, .inr (.inl (vp_updL f i.toNatClampNeg x))))) k n (pc + 1) L S) : kK p l e R s m args below meth c D A nL Q σ k n pc L (.long x :: .int i :: .ref a :: S) := by
  intro H locs ls h1 h2 h3 h4
  refine W.last B.1 B.2.1 (h1 a _ he) ((B.2.2.2.2.2.1.2 2 _ rfl).1 N (fun j => .long (f j))) (fun q => by cases q) (by show ¬ (i < 0 ∨ (arrV _ _ _).slots.size ≤ _); rw [arrV_size]; exact hi) rfl rfl hd fun H1 e1 z oq => ?_
  refine kk H1 _ ls (h1.up ?_ (fun q hq _ => oq q hq)) (kK_dom h2 (h2 a _ he)) (h3.put z oq (h2 a _ he)) h4
  show H1[a]? = some (vp_cell _ _)
  rw [e1]
  rw [vp_cell_l, vp_cell_l, arrV_store]
  congr 2
  funext q
  by_cases hq : q = i.toNatClampNeg
  · subst hq
    simp [updV, vp_updL]
  · simp [updV, vp_updL, hq]
theorem k_dast (B : kB p l s m args meth c D A nL cc own) {a N : Nat} {f : Nat → UInt64} {i : Int32} {x : UInt64} (hd : decode cc pc = .ok (.dastore, 1)) (he : σ a = some (.inl (D.1 14, N, .inr (.inr (.inr (.inl f)))))) (hi : vp_in i N) (kk : kK p l e R s m args below meth c D A nL Q (kUp σ a (.inl (D.1 14, N, .inr (.inr (.inr (.inl (vf_upd f i.toNatClampNeg x))))))) k n (pc + 1) L S) : kK p l e R s m args below meth c D A nL Q σ k n pc L (.double x :: .int i :: .ref a :: S) := by
  intro H locs ls h1 h2 h3 h4
  refine W.dast B.1 B.2.1 (h1 a _ he) ((B.2.2.2.2.2.1.2 3 _ rfl).1 N (fun j => .double (f j))) (fun q => by cases q) (by show ¬ (i < 0 ∨ (arrV _ _ _).slots.size ≤ _); rw [arrV_size]; exact hi) rfl rfl hd fun H1 e1 z oq => ?_
  refine kk H1 _ ls (h1.up ?_ (fun q hq _ => oq q hq)) (kK_dom h2 (h2 a _ he)) (h3.put z oq (h2 a _ he)) h4
  show H1[a]? = some (vp_cell _ _)
  rw [e1]
  rw [vp_cell_d, vp_cell_d, arrV_store]
  congr 2
  funext q
  by_cases hq : q = i.toNatClampNeg
  · subst hq
    simp [updV, vf_upd]
  · simp [updV, vf_upd, hq]
theorem k_aast (B : kB p l s m args meth c D A nL cc own) (ti : Nat) {cA : ClassId} {C : String} (ht : (kTys D)[ti]? = some (cA, .object C)) {a N ci v : Nat} {vs : List Value} {T : u_T} {NT : Nat} (hc : vwCl[ci]? = some (C, T, NT)) {f : Nat → Option Nat} {i : Int32} (hd : decode cc pc = .ok (.aastore, 1)) (he : σ a = some (.inl (cA, N, .inr (.inr (.inr (.inr f)))))) (hv : σ v = some (.inr (ci, vs))) (hi : vp_in i N) (kk : kK p l e R s m args below meth c D A nL Q (kUp σ a (.inl (cA, N, .inr (.inr (.inr (.inr (va_up f i.toNatClampNeg (some v)))))))) k n (pc + 1) L S) : kK p l e R s m args below meth c D A nL Q σ k n pc L (.ref v :: .int i :: .ref a :: S) := by
  intro H locs ls h1 h2 h3 h4
  have hK := B.2.2.2.2.2.1
  have hlt : i.toNatClampNeg < N := Nat.not_le.mp fun q => hi (Or.inr q)
  have h0 : ¬ i < 0 := fun q => hi (Or.inl q)
  obtain ⟨r', hr', cellV, g1, g2, g3, -⟩ := h1 v _ hv
  have hcls := (hK.1 ci _ hc).2
  obtain ⟨kA, comp, k1, k2, k3, -⟩ := (hK.2 ti _ ht).2
  have hcomp : comp = D.1 ci := Option.some.inj (k3.symm.trans hcls.1)
  subst hcomp
  obtain ⟨kC, hkC, -⟩ := hcls.2
  refine W.aast B.1 B.2.1 (h1 a _ he) (fun q h => by cases h) (fun h => by cases h) k1 k2 rfl hkC ⟨h0, by show _ < (arrV _ _ _).slots.size; rw [arrV_size]; exact hlt⟩ g1 (fun q h => by rw [g3] at h; cases h) (by rw [g2]; exact hkC) (by rw [g2]; exact va_assign hcls) rfl rfl hd fun H1 e1 z oq => ?_
  refine kk H1 _ ls (h1.up ?_ (fun q hq _ => oq q hq)) (kK_dom h2 (h2 a _ he)) (h3.put z oq (h2 a _ he)) h4
  show H1[a]? = some (vp_cell _ _)
  rw [e1]
  rw [vp_cell_q, vp_cell_q, arrV_store]
  congr 2
  funext q
  by_cases hq : q = i.toNatClampNeg
  · subst hq
    simp [updV, va_up, va_rf]
  · simp [updV, va_up, hq]
end KH
end
section
section VXIA
variable {p : Program} {l : Launch} {e : Env} {R : Room} {s : State} {m : MethodId} {args : Array Value} {below : List Frame} {meth : Method} {c : Code} {T : State} {locs : List Loc} {cells slots : Nat}
theorem vx_callI (X : Stand p l e R s m args below meth c T locs cells slots) (hexec : p.tables.exec = Jvm.exec) {own : String} {index : Nat} {y : MethodName} {bytes : ByteArray} {maxL : Nat}
    (hown : s.vm.findClass own = some m.cls) (hy1 : y.name = "<init>") (hlink : (Cond.methodLink own index y).before args s = true) (hinst : (Cond.instanceMethod y).before args s = true)
    (hcode : (Cond.code y bytes maxL none).before args s = true) (hy : y.cls ≠ "java/lang/invoke/MethodHandle" ∧ y.cls ≠ "java/lang/invoke/VarHandle")
    {W9 : Nat} {Pre : Pt → Array Value → Prop} {Post : Pt → Array Value → Option Value → Pt → Prop} {PostX : Pt → Array Value → Addr → Pt → Prop} (hK : vx_Back l R p e below s args y 3 W9 Pre Post PostX)
    {g : JFrame} (hg : g.method = m) (hsize : g.locals.size = c.maxLocals) {a : Addr} {argsL rest : List Value} (hlen : ∀ sig, parseMethodDescriptor y.desc = some sig → argsL.length = sig.parameters.length)
    (hstack : g.stack = argsL.reverse ++ .ref a :: rest) (hW : 2 * g.monitorRoom + (rest.map fun v => v.category).sum ≤ W9) (hdg : decode c.code g.pc = .ok (.invokespecial index, 3))
    (hpre : ∀ vm₁, s.WarmedH vm₁ → Pre ⟨T.setVm vm₁, locs, cells, slots⟩ (Value.ref a :: argsL).toArray) :
    (∃ (v : Option Value) (vm₁ : Vm) (B : Pt), s.WarmedH vm₁ ∧ Stand p l e R s m args below meth c B.U B.locs B.cells B.slots ∧ Post ⟨T.setVm vm₁, locs, cells, slots⟩ (Value.ref a :: argsL).toArray v B ∧
      ∀ target, Steps p.tables e below (B.U.setTop { g with pc := g.pc + 3, stack := v.toList ++ rest }) target → Steps p.tables e below (T.setTop g) target) ∨
    (∃ (q : Addr) (vm₁ : Vm) (B : Pt), s.WarmedH vm₁ ∧ Stand p l e R s m args below meth c B.U B.locs B.cells B.slots ∧ PostX ⟨T.setVm vm₁, locs, cells, slots⟩ (Value.ref a :: argsL).toArray q B ∧
      Steps p.tables e below (T.setTop g) ((B.U.setTop { g with stack := rest }).pushFrame (.throwing q))) := by
  subst hg
  have hpl : e.platform.magicAccessors = ({} : Platform).magicAccessors := by rw [X.admits.platform]
  obtain ⟨mk, methM, cM, kP, vm₁, hnamed, hmethM, hcodeM, -, hlocalsM, -, hkP, -, hW₁, hstep₁⟩ := Steps.initColdArgs (e := e) X.here hexec X.warmed hpl hown hy1 hy hlink hinst hcode (f := g) rfl hlen hstack hdg
  have X₁ := X.noted hW₁
  rcases hK g.method meth c ⟨T.setVm vm₁, locs, cells, slots⟩ { g with stack := rest } (.invokespecial index) mk (Value.ref a :: argsL).toArray X₁ rfl hsize hdg hW (X₁.named hnamed) (hpre vm₁ X₁.warmed) with ⟨v, B, X', hpost, hsteps⟩ | ⟨q, B, X', hpost, hsteps⟩
  · exact Or.inl ⟨v, vm₁, B, X₁.warmed, X', hpost, fun target h => hstep₁ _ fun acts => by rw [doInvoke_state]; exact hsteps.trans h⟩
  · exact Or.inr ⟨q, vm₁, B, X₁.warmed, X', hpost, hstep₁ _ fun acts => by rw [doInvoke_state]; exact hsteps⟩
end VXIA
section VXIB
variable {p : Program} {l : Launch} {e : Env} {R : Room} {s : State} {m : MethodId} {args : Array Value} {below : List Frame} {meth : Method} {c : Code} {H : Heap} {locs : List Loc} {cells slots : Nat}
variable {y : MethodName} {bytes cc : ByteArray} {maxL nL mc ms n index : Nat} {ret : Option FieldType} {ws : List Cond} {rm : Room} {Pc : Array Value → State → Prop} {Qc : Array Value → State → Outcome → State → Prop} {XC : String → State → State → Prop} {free : Addr → Prop} {Ts : List Cond} {own C : String} {b : Addr} {As rest : List Value} {g : JFrame}
theorem vx_runI (S : CallFix p m c cc nL s args Ts own) (hM : vx_Met l y ws rm Pc Qc XC mc ms free) (cw : CallB R s args own index y bytes maxL none ws rm mc ms n ∧ y.name = "<init>" ∧ (Cond.instanceMethod y).before args s = true) (hp : PreS s H Pc (.ref b :: As))
    (hg : g.method = m) (hn : As.length = n) (hsize : g.locals.size = nL) (hstack : g.stack = As.reverse ++ .ref b :: rest) (hW : 2 * g.monitorRoom + (rest.map fun v => v.category).sum ≤ 8) (hdg : decode cc g.pc = .ok (.invokespecial index, 3)) (hf : cells + mc ≤ R.cells ∧ slots + ms ≤ R.slots) :
    vx_Run p l e R s m args below meth c H locs cells slots mc ms g rest (Qc (Value.ref b :: As).toArray) XC free := by
  have hK : vx_Back l R p e below s args y 3 8 (PreOf R mc ms Pc) (PostOf Qc mc ms free) (vx_Post XC mc ms free) := vx_callBack cw.1 hM hp.1
  obtain ⟨⟨-, -, -, -, -, -, hcode, -, hy, hlen, hl⟩, hy1, hin⟩ := cw
  obtain ⟨hx, hb, hml, ho, -⟩ := S
  have hPc := hp.2
  intro T hT X
  rcases vx_callI X hx (bytes := bytes) (maxL := maxL) ho hy1 hl hin hcode hy hK hg (hsize.trans hml.symm) (a := b) (argsL := As) (rest := rest) (fun sig h => hn.trans (hlen sig h)) hstack hW (by rw [hb]; exact hdg)
    (fun vm₁ hW₁ => ⟨hf.1, hf.2, hPc (T.setVm vm₁) hT hW₁⟩) with ⟨v, vm₁, ⟨U', l2, c2, s2⟩, hW₁, X', ⟨g', mk, t, L, e1, e2, hq, h1, hL, h2, h3⟩, st⟩ | ⟨q, vm₁, ⟨U', l2, c2, s2⟩, hW₁, X', ⟨g', mk, t, L, E, ce, e1, e2, hq, hce, hcv, hcl, h1, hL, h2, h3⟩, st⟩
  · dsimp only [Pt.U, Pt.locs, Pt.cells, Pt.slots] at X' e1 e2 h1 h2 h3 st
    subst h1; subst h2; subst h3
    exact Or.inl ⟨v, (T.setVm vm₁).calling g' mk (Value.ref b :: As).toArray, t, U', L, hT, X', hL, e1, e2, hq, st⟩
  · dsimp only [Pt.U, Pt.locs, Pt.cells, Pt.slots] at X' e1 e2 h1 h2 h3 st hcl
    subst h1; subst h2; subst h3
    exact Or.inr ⟨q, (T.setVm vm₁).calling g' mk (Value.ref b :: As).toArray, t, U', L, E, ce, hT, X', hL, e1, e2, hq, hce, hcv, vx_cls hW₁ hcl, st⟩
end VXIB
section VXIC
variable {p : Program} {l : Launch} {e : Env} {R : Room} {s : State} {m : MethodId} {args : Array Value} {below : List Frame} {meth : Method} {c : Code} {T : State} {locs : List Loc} {cells slots : Nat}
theorem vx_callIN (X : Stand p l e R s m args below meth c T locs cells slots) (hexec : p.tables.exec = Jvm.exec) {own : String} {index : Nat} {host : String} {y : MethodName} {bytes : ByteArray} {maxL : Nat}
    (hown : s.vm.findClass own = some m.cls) (hy1 : y.name = "<init>") (hlink : (Cond.methodLinkNest own index y host).before args s = true) (hinst : (Cond.instanceMethod y).before args s = true)
    (hcode : (Cond.code y bytes maxL none).before args s = true) (hy : y.cls ≠ "java/lang/invoke/MethodHandle" ∧ y.cls ≠ "java/lang/invoke/VarHandle")
    {W9 : Nat} {Pre : Pt → Array Value → Prop} {Post : Pt → Array Value → Option Value → Pt → Prop} {PostX : Pt → Array Value → Addr → Pt → Prop} (hK : vx_Back l R p e below s args y 3 W9 Pre Post PostX)
    {g : JFrame} (hg : g.method = m) (hsize : g.locals.size = c.maxLocals) {a : Addr} {argsL rest : List Value} (hlen : ∀ sig, parseMethodDescriptor y.desc = some sig → argsL.length = sig.parameters.length)
    (hstack : g.stack = argsL.reverse ++ .ref a :: rest) (hW : 2 * g.monitorRoom + (rest.map fun v => v.category).sum ≤ W9) (hdg : decode c.code g.pc = .ok (.invokespecial index, 3))
    (hpre : ∀ vm₁, s.WarmedH vm₁ → Pre ⟨T.setVm vm₁, locs, cells, slots⟩ (Value.ref a :: argsL).toArray) :
    (∃ (v : Option Value) (vm₁ : Vm) (B : Pt), s.WarmedH vm₁ ∧ Stand p l e R s m args below meth c B.U B.locs B.cells B.slots ∧ Post ⟨T.setVm vm₁, locs, cells, slots⟩ (Value.ref a :: argsL).toArray v B ∧
      ∀ target, Steps p.tables e below (B.U.setTop { g with pc := g.pc + 3, stack := v.toList ++ rest }) target → Steps p.tables e below (T.setTop g) target) ∨
    (∃ (q : Addr) (vm₁ : Vm) (B : Pt), s.WarmedH vm₁ ∧ Stand p l e R s m args below meth c B.U B.locs B.cells B.slots ∧ PostX ⟨T.setVm vm₁, locs, cells, slots⟩ (Value.ref a :: argsL).toArray q B ∧
      Steps p.tables e below (T.setTop g) ((B.U.setTop { g with stack := rest }).pushFrame (.throwing q))) := by
  subst hg
  have hpl : e.platform.magicAccessors = ({} : Platform).magicAccessors := by rw [X.admits.platform]
  obtain ⟨mk, methM, cM, kP, vm₁, hnamed, hmethM, hcodeM, -, hlocalsM, -, hkP, -, hW₁, hstep₁⟩ := Steps.initColdArgsNest (e := e) X.here hexec X.warmed hpl hown hy1 hy hlink hinst hcode (f := g) rfl hlen hstack hdg
  have X₁ := X.noted hW₁
  rcases hK g.method meth c ⟨T.setVm vm₁, locs, cells, slots⟩ { g with stack := rest } (.invokespecial index) mk (Value.ref a :: argsL).toArray X₁ rfl hsize hdg hW (X₁.named hnamed) (hpre vm₁ X₁.warmed) with ⟨v, B, X', hpost, hsteps⟩ | ⟨q, B, X', hpost, hsteps⟩
  · exact Or.inl ⟨v, vm₁, B, X₁.warmed, X', hpost, fun target h => hstep₁ _ fun acts => by rw [doInvoke_state]; exact hsteps.trans h⟩
  · exact Or.inr ⟨q, vm₁, B, X₁.warmed, X', hpost, hstep₁ _ fun acts => by rw [doInvoke_state]; exact hsteps⟩
end VXIC
section VXID
variable {p : Program} {l : Launch} {e : Env} {R : Room} {s : State} {m : MethodId} {args : Array Value} {below : List Frame} {meth : Method} {c : Code} {H : Heap} {locs : List Loc} {cells slots : Nat}
theorem vx_runIN {y : MethodName} {bytes cc : ByteArray} {maxL nL mc ms n index : Nat} {ws : List Cond} {rm : Room} {Pc : Array Value → State → Prop} {Qc : Array Value → State → Outcome → State → Prop} {XC : String → State → State → Prop} {free : Addr → Prop} {Ts : List Cond} {own host : String} {b : Addr} {As rest : List Value} {g : JFrame}
    (S : CallFix p m c cc nL s args Ts own) (hM : vx_Met l y ws rm Pc Qc XC mc ms free) (cw : va_CN R s args own index y host bytes maxL none ws rm mc ms n ∧ y.name = "<init>" ∧ (Cond.instanceMethod y).before args s = true) (hp : PreS s H Pc (.ref b :: As))
    (hg : g.method = m) (hn : As.length = n) (hsize : g.locals.size = nL) (hstack : g.stack = As.reverse ++ .ref b :: rest) (hW : 2 * g.monitorRoom + (rest.map fun v => v.category).sum ≤ 8) (hdg : decode cc g.pc = .ok (.invokespecial index, 3)) (hf : cells + mc ≤ R.cells ∧ slots + ms ≤ R.slots) :
    vx_Run p l e R s m args below meth c H locs cells slots mc ms g rest (Qc (Value.ref b :: As).toArray) XC free := by
  obtain ⟨⟨⟨hrc, hrs, hfr, hlo, hws, hcw⟩, hcode, hini, hy, hlen, hl⟩, hx1, hx2⟩ := cw
  have hK : vx_Back l R p e below s args y 3 8 (PreOf R mc ms Pc) (PostOf Qc mc ms free) (vx_Post XC mc ms free) := vx_back (bytes := bytes) (maxL := maxL) (ret := none) hM hp.1 hrc hrs hfr hlo hws hcw (fun a' U hW => word_at hW (Or.inl (by first | rfl | simp [Cond.onTables, Cond.keeps, Cond.steady])) hini)
  obtain ⟨hx, hb, hml, ho, -⟩ := S
  have hPc := hp.2
  intro T hT X
  rcases vx_callIN X hx (bytes := bytes) (maxL := maxL) ho hx1 hl hx2 hcode hy hK hg (hsize.trans hml.symm) (a := b) (argsL := As) (rest := rest) (fun sig h => hn.trans (hlen sig h)) hstack hW (by rw [hb]; exact hdg)
    (fun vm₁ hW₁ => ⟨hf.1, hf.2, hPc (T.setVm vm₁) hT hW₁⟩) with ⟨v, vm₁, ⟨U', l2, c2, s2⟩, hW₁, X', ⟨g', mk, t, L, e1, e2, hq, h1, hL, h2, h3⟩, st⟩ | ⟨q, vm₁, ⟨U', l2, c2, s2⟩, hW₁, X', ⟨g', mk, t, L, E, ce, e1, e2, hq, hce, hcv, hcl, h1, hL, h2, h3⟩, st⟩
  · dsimp only [Pt.U, Pt.locs, Pt.cells, Pt.slots] at X' e1 e2 h1 h2 h3 st
    subst h1; subst h2; subst h3
    exact Or.inl ⟨v, (T.setVm vm₁).calling g' mk (Value.ref b :: As).toArray, t, U', L, hT, X', hL, e1, e2, hq, st⟩
  · dsimp only [Pt.U, Pt.locs, Pt.cells, Pt.slots] at X' e1 e2 h1 h2 h3 st hcl
    subst h1; subst h2; subst h3
    exact Or.inr ⟨q, (T.setVm vm₁).calling g' mk (Value.ref b :: As).toArray, t, U', L, E, ce, hT, X', hL, e1, e2, hq, hce, hcv, vx_cls hW₁ hcl, st⟩
end VXID
end
section
theorem lg_sl_len {av : List Value} (h : ∀ v ∈ av, v.category = 1) : (lg_sl av).length = av.length := by
  induction av with
  | nil => rfl
  | cons a t ih =>
    have ha := h a List.mem_cons_self
    have := ih (fun w hw => h w (List.mem_cons_of_mem _ hw))
    simp only [lg_sl, List.flatMap_cons, ha, List.length_append, List.length_cons] at this ⊢
    simp at this ⊢
    omega
/-- a contract with any head word -/
def kMh (hd : Cond) (l : Launch) (D : va_G) (y : MethodName) (h mc ms : Nat) (av : List Value) (σ : kS) (Post : Option Value → kS → Prop) (PX : String → Prop) : Prop :=
  ∀ sz : Nat, vx_Met l y (hd :: TB) (kR h mc ms) (va_Pc av (fun U => U.heap.size = sz ∧ kOk D σ U.heap ∧ va_K D vwCl (kTys D) U ∧ kZ (kA σ sz) U))
    (fun _ st o t => ∃ (v : Option Value) (σ2 : kS), o = .returned v ∧ Post v σ2 ∧ kOk D σ2 t.heap ∧ (∀ (a : Nat) (x : va_E), σ2 a = some x → kA σ sz a) ∧ va_F (kA σ sz) st t)
    (fun E st t => PX E ∧ kOk D σ t.heap ∧ va_F (kA σ sz) st t) mc ms (kA σ sz)
theorem kPre_blind {av : List Value} {D : va_G} {σ : kS} {sz : Nat} : FrameBlind (va_Pc av (fun U => U.heap.size = sz ∧ kOk D σ U.heap ∧ va_K D vwCl (kTys D) U ∧ kZ (kA σ sz) U)) := fun a U g mk q => by
  obtain ⟨q0, q1, q2, q3, q4⟩ := q
  exact ⟨q0, q1, q2, va_K.moved (u := U) (U := U.calling g mk a) (Vm.Alike.refl U.vm) q3, q4.blind g mk a⟩
section KE
variable {l : Launch} {D : va_G}
theorem kB_of {p : Program} {y : MethodName} {hd : Cond} {σ : kS} {h mc ms maxL : Nat} {ret : Option FieldType} {cc : ByteArray} {e : Env} {s s₁ : State} {m : MethodId} {args : Array Value} {below : List Frame} {meth : Method} {c : Code} (B : BodyLoose p l y (headSpec (hd :: TB) (kR h mc ms)) cc maxL ret e s m args below meth c s₁) (hml : c.maxLocals = maxL) (hl : l.stackTraces = false) (hK : va_K D vwCl (kTys D) s) (hZ : kZ (kA σ s.heap.size) s) : kB p l s m args meth c D (kA σ s.heap.size) maxL cc y.cls :=
  ⟨B.exec, B.bytes, hml, findClass_of_methodNamed B.named, fun w hw => atoms_spec (ws := hd :: TB) B.pre w (List.mem_cons_of_mem _ hw), hK, fun _ hq => Or.inr hq, hZ, hl, B.notSynchronized⟩
theorem kHas_entry {av : List Value} {maxL : Nat} {L : List (Option Value)} (hcat : ∀ v ∈ av, v.category = 1) (hlen : av.length ≤ maxL) (hL : av.map some ++ List.replicate (maxL - av.length) none = L) : kHas ((lg_sl av ++ List.replicate (maxL - (lg_sl av).length) Slot.unset).toArray) maxL L := by
  have h0 := lv_entry av (n := maxL) (by rw [lg_sl_len hcat]; exact hlen)
  refine ⟨h0.1, h0.2.1, fun i v hi => ?_⟩
  subst hL
  have hiv : av[i]? = some v := by
    by_cases q : i < av.length
    · rw [List.getElem?_append_left (by simpa using q), List.getElem?_map] at hi
      cases hv : av[i]? with
      | none => rw [hv] at hi; cases hi
      | some w => rw [hv] at hi; simpa using hi
    · rw [List.getElem?_append_right (by simpa using q), List.getElem?_replicate] at hi
      split at hi <;> cases hi
  have := kEntry hcat 0 i v hiv
  rw [Nat.zero_add] at this
  exact h0.2.2 (i, v) this
theorem kM_of {y : MethodName} {cc : ByteArray} {maxL : Nat} {ret : Option FieldType} {h mc ms : Nat} {av : List Value} {σ : kS} {Post : Option Value → kS → Prop} {PX : String → Prop} (hy : plainName y.cls = true) (hl : l.stackTraces = false) (hcat : ∀ v ∈ av, v.category = 1) (hlen : av.length ≤ maxL) {L : List (Option Value)} (hL : av.map some ++ List.replicate (maxL - av.length) none = L)
    (body : ∀ (p : Program) (e : Env) (s : State) (m : MethodId) (args : Array Value) (below : List Frame) (meth : Method) (c : Code), kB p l s m args meth c D (kA σ s.heap.size) maxL cc y.cls → meth.sig.returnType = ret → (∀ x ∈ c.exceptionTable.toList, False) → meth.name = y.name →
      kK p l e (kR h mc ms) s m args below meth c D (kA σ s.heap.size) maxL (kQ below args s D σ Post PX mc ms) σ 0 0 0 L []) : kMh (.code y cc maxL ret) l D y h mc ms av σ Post PX := by
  intro sz
  refine vx_ofW (cc := cc) (maxL := maxL) (ret := ret) hy rfl ?_
  intro p e s m args below meth c s₁ B hml hex hv
  obtain ⟨rfl, hsz, hok, hK, hZ⟩ := hv
  subst hsz
  rw [lg_entry_eq]
  exact body p e s m av.toArray below meth c (kB_of B hml hl hK hZ) B.returns hex (name_of_methodNamed B.named B.method).1 s.heap [] _ hok (fun a x hx => Or.inl ⟨x, hx⟩) va_S.rf (kHas_entry hcat hlen hL)
theorem kM_ofW {y : MethodName} {cc : ByteArray} {maxL : Nat} {ret : Option FieldType} {hh : List (Nat × Nat × Nat × Nat)} {h mc ms : Nat} {av : List Value} {σ : kS} {Post : Option Value → kS → Prop} {PX : String → Prop} (hy : plainName y.cls = true) (hl : l.stackTraces = false) (hcat : ∀ v ∈ av, v.category = 1) (hlen : av.length ≤ maxL) {L : List (Option Value)} (hL : av.map some ++ List.replicate (maxL - av.length) none = L)
    (body : ∀ (p : Program) (e : Env) (s : State) (m : MethodId) (args : Array Value) (below : List Frame) (meth : Method) (c : Code), kB p l s m args meth c D (kA σ s.heap.size) maxL cc y.cls → meth.sig.returnType = ret → c.exceptionTable.toList = tableOf hh → meth.name = y.name →
      kK p l e (kR h mc ms) s m args below meth c D (kA σ s.heap.size) maxL (kQ below args s D σ Post PX mc ms) σ 0 0 0 L []) : kMh (.codeWith y cc maxL ret hh) l D y h mc ms av σ Post PX := by
  intro sz
  refine vx_ofWH (cc := cc) (maxL := maxL) (ret := ret) (hh := hh) hy rfl ?_
  intro p e s m args below meth c s₁ B hml hv
  obtain ⟨rfl, hsz, hok, hK, hZ⟩ := hv
  subst hsz
  rw [lg_entry_eq]
  exact body p e s m av.toArray below meth c (kB_of B hml hl hK hZ) B.returns (vx_table (x := y) B (atoms_spec (ws := .codeWith y cc maxL ret hh :: TB) B.pre _ List.mem_cons_self)) (name_of_methodNamed B.named B.method).1 s.heap [] _ hok (fun a x hx => Or.inl ⟨x, hx⟩) va_S.rf (kHas_entry hcat hlen hL)
end KE
section KC
variable {p : Program} {l : Launch} {e : Env} {R : Room} {s : State} {m : MethodId} {args : Array Value} {below : List Frame} {meth : Method} {c : Code} {D : va_G} {A : Nat → Prop} {nL : Nat} {Q : State → Prop} {σ : kS} {k n pc : Nat} {L : List (Option Value)} {S : List Value} {cc : ByteArray} {own : String}
/-! ends -/
variable {σ0 : kS} {Post : Option Value → kS → Prop} {PX : String → Prop} {mc ms : Nat}
theorem kQ_q {H : Heap} {locs : List Loc} {t : State} {v : Option Value} (h1 : kOk D σ H) (h2 : ∀ (a : Nat) (x : va_E), σ a = some x → kA σ0 s.heap.size a) (h3 : va_S (kA σ0 s.heap.size) s.heap H locs) (hP : Post v σ) (ht : t.heap = H) : ∃ (w : Option Value) (σ2 : kS), Outcome.returned v = .returned w ∧ Post w σ2 ∧ kOk D σ2 t.heap ∧ (∀ (a : Nat) (x : va_E), σ2 a = some x → kA σ0 s.heap.size a) ∧ va_F (kA σ0 s.heap.size) s t := ⟨v, σ, rfl, hP, by rw [ht]; exact h1, h2, h3.F ht⟩
theorem k_iret (B : kB p l s m args meth c D (kA σ0 s.heap.size) nL cc own) (hr : meth.sig.returnType = some .int) (hd : decode cc pc = .ok (.ireturn, 1)) {v : Int32} (hP : Post (some (.int v)) σ) (hk : k ≤ mc) (hn : n ≤ ms) : kK p l e R s m args below meth c D (kA σ0 s.heap.size) nL (kQ below args s D σ0 Post PX mc ms) σ k n pc L [.int v] := fun H locs ls h1 h2 h3 h4 =>
  W.widen hk hn (vx_ret (W.iret B.1 B.2.1 hr (fun t ht _ => kQ_q h1 h2 h3 hP ht) h3.2.2 hd B.2.2.2.2.2.2.2.2.2))
theorem k_zret (B : kB p l s m args meth c D (kA σ0 s.heap.size) nL cc own) (hr : meth.sig.returnType = some .boolean) (hd : decode cc pc = .ok (.ireturn, 1)) {v : Int32} (hz : narrow .boolean (.int v) = .int v) (hP : Post (some (.int v)) σ) (hk : k ≤ mc) (hn : n ≤ ms) : kK p l e R s m args below meth c D (kA σ0 s.heap.size) nL (kQ below args s D σ0 Post PX mc ms) σ k n pc L [.int v] := fun H locs ls h1 h2 h3 h4 =>
  W.widen hk hn (vx_ret (W.zret B.1 B.2.1 hr hz (fun t ht _ => kQ_q h1 h2 h3 hP ht) h3.2.2 hd B.2.2.2.2.2.2.2.2.2))
theorem k_lret (B : kB p l s m args meth c D (kA σ0 s.heap.size) nL cc own) (hr : meth.sig.returnType = some .long) (hd : decode cc pc = .ok (.lreturn, 1)) {v : Int64} (hP : Post (some (.long v)) σ) (hk : k ≤ mc) (hn : n ≤ ms) : kK p l e R s m args below meth c D (kA σ0 s.heap.size) nL (kQ below args s D σ0 Post PX mc ms) σ k n pc L [.long v] := fun H locs ls h1 h2 h3 h4 =>
  W.widen hk hn (vx_ret (W.lret B.1 B.2.1 hr (fun t ht _ => kQ_q h1 h2 h3 hP ht) h3.2.2 hd B.2.2.2.2.2.2.2.2.2))
theorem k_fret (B : kB p l s m args meth c D (kA σ0 s.heap.size) nL cc own) (hr : meth.sig.returnType = some .float) (hd : decode cc pc = .ok (.freturn, 1)) {v : UInt32} (hP : Post (some (.float v)) σ) (hk : k ≤ mc) (hn : n ≤ ms) : kK p l e R s m args below meth c D (kA σ0 s.heap.size) nL (kQ below args s D σ0 Post PX mc ms) σ k n pc L [.float v] := fun H locs ls h1 h2 h3 h4 => by
  have hlk := B.2.2.2.2.2.2.2.2.2
  exact W.widen hk hn (vx_ret (W.fret B.1 B.2.1 hr (fun t ht _ => kQ_q h1 h2 h3 hP ht) h3.2.2 hd hlk))
theorem k_vret (B : kB p l s m args meth c D (kA σ0 s.heap.size) nL cc own) (hr : meth.sig.returnType = none) (hd : decode cc pc = .ok (.return_, 1)) (hP : Post none σ) (hk : k ≤ mc) (hn : n ≤ ms) : kK p l e R s m args below meth c D (kA σ0 s.heap.size) nL (kQ below args s D σ0 Post PX mc ms) σ k n pc L [] := fun H locs ls h1 h2 h3 h4 =>
  W.widen hk hn (vx_ret (W.vret B.1 B.2.1 hr (fun t ht _ => kQ_q h1 h2 h3 hP ht) h3.2.2 hd B.2.2.2.2.2.2.2.2.2))
theorem k_aret (B : kB p l s m args meth c D (kA σ0 s.heap.size) nL cc own) {rt : FieldType} (hr : meth.sig.returnType = some rt) (hrt : ∃ C, rt = .object C) (hd : decode cc pc = .ok (.areturn, 1)) {v : Value} (hv : kRf v) (hP : Post (some v) σ) (hk : k ≤ mc) (hn : n ≤ ms) : kK p l e R s m args below meth c D (kA σ0 s.heap.size) nL (kQ below args s D σ0 Post PX mc ms) σ k n pc L [v] := fun H locs ls h1 h2 h3 h4 => by
  have hv2 : v = .null ∨ ∃ a, v = .ref a := by
    obtain ⟨r, rfl⟩ := hv
    cases r with
    | none => exact Or.inl rfl
    | some a => exact Or.inr ⟨a, rfl⟩
  exact W.widen hk hn (vx_ret (W.aret B.1 B.2.1 hr (Or.inl hrt) hv2 (fun t ht _ => kQ_q h1 h2 h3 hP ht) h3.2.2 hd B.2.2.2.2.2.2.2.2.2))
/-! a throw that leaves, and one that is made -/
theorem k_xout {E : String} (B : kB p l s m args meth c D (kA σ0 s.heap.size) nL cc own) (hex : ∀ x ∈ c.exceptionTable.toList, False) (hσ : ∀ (a : Nat) (x : va_E), σ0 a = some x → σ a = some x) (hP : PX E) (hk : k ≤ mc) (hn : n ≤ ms) : kX p l e R s m args below meth c D (kA σ0 s.heap.size) nL (kQ below args s D σ0 Post PX mc ms) σ k n pc L S E := fun H locs ls ce q9 h1 h2 h3 h4 h5 h6 h7 =>
  vx_out (fun x hx => (hex x hx).elim) B.2.2.2.2.2.2.2.2.2 h5 h6 h7 (fun t ht _ => ⟨hP, by rw [ht]; exact fun a x hx => h1 a x (hσ a x hx), h3.F ht⟩) h3.2.2 hk hn
theorem kB_tn (B : kB p l s m args meth c D A nL cc own) : ∀ w ∈ TN, w.before args s = true := fun w hw => va_tabs (by
    have hw2 := (List.mem_filter.mp hw).2
    unfold kCND at hw2
    split at hw2 <;> first | rfl | cases hw2) (u := s) (A := #[]) rfl (B.2.2.2.2.2.2.2.1.2.2.2.2.2.1 w hw)
theorem k_throw {ik is ic : Nat} {cls text : String} {names : List String} (B : kB p l s m args meth c D (kA σ s.heap.size) nL cc RX9) (hex : ∀ x ∈ c.exceptionTable.toList, False) (hcls : Bundle.fit cls = true) (hnames : ∀ n ∈ names, Bundle.fit n = true)
    (w1 : Cond.classLink RX9 ik cls ∈ TB) (w2 : Cond.initialized cls ∈ TB) (hstr : ∃ a, vk_R RX9 is text a s) (i1 : ∀ w ∈ (vx_atS RX9 ic cls names).filter goodWord, w ∈ TB) (i2 : ∀ w ∈ (vx_atS RX9 ic cls names).filter (fun w => !goodWord w), w ∈ TN) (i3 : ∀ w ∈ vx_atS RX9 ic cls names, vx_ot w = true)
    (d0 : decode cc pc = .ok (.new ik, 3)) (d3 : decode cc (pc + 3) = .ok (.dup, 1)) (d4 : decode cc (pc + 4) = .ok (.ldc_w is, 3)) (d7 : decode cc (pc + 7) = .ok (.invokespecial ic, 3)) (d10 : decode cc (pc + 10) = .ok (.athrow, 1))
    (hf : names.length + 3 < R.frames) (hlc : (S.map fun v => v.category).sum + (13 * (names.length + 1) + 43) ≤ R.locals) (hk : k + 1 ≤ R.cells) (hn : n + 6 ≤ R.slots) (hP : PX cls) (hk2 : k + 1 ≤ mc) (hn2 : n + 6 ≤ ms) :
    kK p l e R s m args below meth c D (kA σ s.heap.size) nL (kQ below args s D σ Post PX mc ms) σ k n pc L S := by
  intro H locs ls h1 h2 h3 h4
  obtain ⟨sa, hsa⟩ := hstr
  have hZ := B.2.2.2.2.2.2.2.1
  refine vx_throwSW B.1 B.2.1 B.2.2.2.2.2.2.2.2.1 B.2.2.2.1 hcls hnames (B.2.2.2.2.1 _ w1) (B.2.2.2.2.1 _ w2) hsa (vx_hat (fun w hw => B.2.2.2.2.1 _ (i1 w hw)) i2 (kB_tn B)) ?_ hZ.1 hZ.2.1 h3 (h4.1.trans B.2.2.1.symm) d0 d3 d4 d7 d10 (fun x hx => (hex x hx).elim) hf hlc hk hn B.2.2.2.2.2.2.2.2.2 (fun t _ hz hq => ⟨hP, h1.kept hq, Nat.le_trans h3.1 hz, fun q q1 q2 => (hq q (Nat.lt_of_lt_of_le q1 h3.1)).trans (h3.2.1 q q1 q2)⟩) h3.2.2 hk2 hn2
  intro w hw
  rcases List.mem_cons.mp hw with rfl | hw
  · rfl
  · rcases List.mem_cons.mp hw with rfl | hw
    · rfl
    · exact i3 w hw
/-! calls -/
theorem kZ_in (B : kB p l s m args meth c D A nL cc own) {H : Heap} {locs : List Loc} (h2 : ∀ (a : Nat) (x : va_E), σ a = some x → A a) (h3 : va_S A s.heap H locs) {U : State} (hU : U.heap = H) (hW : s.WarmedH U.vm) : kZ (kA σ H.size) U := by
  have hA2 : ∀ q : Nat, kA σ H.size q → A q := fun q hq => hq.elim (fun ⟨x, hx⟩ => h2 q x hx) (fun hq => B.2.2.2.2.2.2.1 q (Nat.le_trans h3.1 hq))
  exact B.2.2.2.2.2.2.2.1.call hW (fun q q1 q2 => by rw [hU]; exact h3.2.1 q q1 q2) (fun q _ hq => Or.inl (hA2 q hq)) B.2.2.2.2.2.2.1 hA2
variable {y : MethodName} {hd9 : Cond} {cc2 : ByteArray} {maxL2 : Nat} {ret2 : Option FieldType} {g9 mc2 ms2 : Nat} {Post2 : Option Value → kS → Prop} {PX2 : String → Prop} {As st : List Value} {idx : Nat}
/-- behind any run of a call -/
theorem k_run (B : kB p l s m args meth c D A nL cc own) {sa : Array Value} (hr : ∀ (H : Heap) (locs : List Loc) (ls : Array Slot), kOk D σ H → (∀ (a : Nat) (x : va_E), σ a = some x → A a) → va_S A s.heap H locs → kHas ls nL L →
      vx_Run p l e R s m args below meth c H locs k n mc2 ms2 (F0 m pc ls st) S (fun st0 o t => ∃ (v : Option Value) (σ2 : kS), o = .returned v ∧ Post2 v σ2 ∧ kOk D σ2 t.heap ∧ (∀ (a : Nat) (x : va_E), σ2 a = some x → kA σ H.size a) ∧ va_F (kA σ H.size) st0 t) (fun E st0 t => PX2 E ∧ kOk D σ t.heap ∧ va_F (kA σ H.size) st0 t) (kA σ H.size))
    (kx : ∀ E : String, PX2 E → kX p l e R s m args below meth c D A nL Q σ (k + mc2) (n + ms2) pc L S E)
    (kk : ∀ (v : Option Value) (σ2 : kS), Post2 v σ2 → kK p l e R s m args below meth c D A nL Q σ2 (k + mc2) (n + ms2) (pc + 3) L (v.toList ++ S)) : kK p l e R s m args below meth c D A nL Q σ k n pc L st := by
  intro H locs ls h1 h2 h3 h4 T hT X
  have hA2 : ∀ q : Nat, kA σ H.size q → A q := fun q hq => hq.elim (fun ⟨x, hx⟩ => h2 q x hx) (fun hq => B.2.2.2.2.2.2.1 q (Nat.le_trans h3.1 hq))
  rcases hr H locs ls h1 h2 h3 h4 T hT X with ⟨v, st₀, t, T', Lx, h0, X', hLx, e1, e2, ⟨v2, σ2, hv, hP, hok, hdom, hF⟩, go⟩ | ⟨q9, st₀, t, T', Lx, E, ce, h0, X', hLx, e1, e2, ⟨hP, hok, hF⟩, hce, hcv, hcl, go⟩
  · cases hv
    obtain ⟨a1, a2, a3⟩ := vx_keep h0 e1 h3 (fun q _ hq => hA2 q hq) hA2 hLx hF
    obtain ⟨t2, b1, b2⟩ := kk v σ2 hP T'.heap (locs ++ Lx) ls (by rw [e1]; exact hok) (fun a x hx => hA2 a (hdom a x hx)) a3 h4 T' rfl X'
    exact ⟨t2, go t2 b1, b2⟩
  · obtain ⟨a1, a2, a3⟩ := vx_keep h0 e1 h3 (fun q _ hq => hA2 q hq) hA2 hLx hF
    obtain ⟨t2, b1, b2⟩ := kx E hP T'.heap (locs ++ Lx) ls ce q9 (by rw [e1]; exact hok) h2 a3 h4 (by rw [e1]; exact hce) hcv hcl T' rfl X'
    exact ⟨t2, go.trans b1, b2⟩
theorem k_callV (B : kB p l s m args meth c D A nL cc own) {b : Nat} (hM : kMh (.code y cc2 maxL2 ret2) l D y g9 mc2 ms2 (.ref b :: As) σ Post2 PX2) {ci N : Nat} {C : String} {T : u_T} {fs : List Value} (hb : σ b = some (.inr (ci, fs))) (hc : vwCl[ci]? = some (C, T, N))
    (hd : decode cc pc = .ok (.invokevirtual idx, 3)) (hst : st = As.reverse ++ .ref b :: S)
    (w1 : Cond.methodLink own idx y ∈ TB) (w2 : Cond.instanceMethod y ∈ TB) (w3 : Cond.selects C y y ∈ TB) (w4 : Cond.initialized C ∈ TB) (w5 : Cond.code y cc2 maxL2 ret2 ∈ TB) (hy : y.cls = C ∧ y.cls ≠ "java/lang/invoke/MethodHandle" ∧ y.cls ≠ "java/lang/invoke/VarHandle" ∧ (parseMethodDescriptor y.desc).map (fun d => d.parameters.length) = some As.length)
    (hf : g9 + 1 ≤ R.frames) (hlc : 8 + (maxL2 + 11) + 36 * g9 ≤ R.locals) (hk : k + mc2 ≤ R.cells) (hn : n + ms2 ≤ R.slots) (hS : (S.map fun v => v.category).sum ≤ 8)
    (kx : ∀ E : String, PX2 E → kX p l e R s m args below meth c D A nL Q σ (k + mc2) (n + ms2) pc L S E)
    (kk : ∀ (v : Option Value) (σ2 : kS), Post2 v σ2 → kK p l e R s m args below meth c D A nL Q σ2 (k + mc2) (n + ms2) (pc + 3) L (v.toList ++ S)) : kK p l e R s m args below meth c D A nL Q σ k n pc L st := by
  refine k_run B (sa := #[]) (fun H locs ls h1 h2 h3 h4 => ?_) kx kk
  have hg : GoodIn TB (wsV own idx C y (.code y cc2 maxL2 ret2 :: TB)) := by
    intro w hw
    simp only [wsV, List.cons_append, List.nil_append, List.mem_cons] at hw
    rcases hw with rfl | rfl | rfl | rfl | rfl | hw
    · exact tb_good _ w1
    · exact tb_good _ w2
    · exact tb_good _ w3
    · exact tb_good _ w4
    · exact tb_good _ w5
    · exact tb_good _ hw
  exact vx_runV ⟨B.1, B.2.1, B.2.2.1, B.2.2.2.1, B.2.2.2.2.1⟩ (hM H.size) (cwV As.length B.2.2.2.2.1 hg rfl rfl rfl hy ⟨hf, hlc⟩) ⟨kPre_blind, va_recv B.2.2.2.2.2.1 (h1.p hb) hc (q0 := 0) rfl, fun U hU hW => ⟨rfl, by rw [hU], by rw [hU]; exact h1, va_K.moved hW.alike B.2.2.2.2.2.1, kZ_in B h2 h3 hU hW⟩⟩ rfl rfl h4.1 hst (lv_room hS) hd ⟨hk, hn⟩
theorem k_callS (B : kB p l s m args meth c D A nL cc own) (hM : kMh (.code y cc2 maxL2 ret2) l D y g9 mc2 ms2 As σ Post2 PX2)
    (hd : decode cc pc = .ok (.invokestatic idx, 3)) (hst : st = As.reverse ++ S)
    (w1 : Cond.methodLink own idx y ∈ TB) (w2 : Cond.static y ∈ TB) (w4 : Cond.initialized own ∈ TB) (w5 : Cond.code y cc2 maxL2 ret2 ∈ TB) (hy : y.cls = own ∧ y.cls ≠ "java/lang/invoke/MethodHandle" ∧ y.cls ≠ "java/lang/invoke/VarHandle" ∧ (parseMethodDescriptor y.desc).map (fun d => d.parameters.length) = some As.length)
    (hf : g9 + 1 ≤ R.frames) (hlc : 8 + (maxL2 + 11) + 36 * g9 ≤ R.locals) (hk : k + mc2 ≤ R.cells) (hn : n + ms2 ≤ R.slots) (hS : (S.map fun v => v.category).sum ≤ 8)
    (kx : ∀ E : String, PX2 E → kX p l e R s m args below meth c D A nL Q σ (k + mc2) (n + ms2) pc L S E)
    (kk : ∀ (v : Option Value) (σ2 : kS), Post2 v σ2 → kK p l e R s m args below meth c D A nL Q σ2 (k + mc2) (n + ms2) (pc + 3) L (v.toList ++ S)) : kK p l e R s m args below meth c D A nL Q σ k n pc L st := by
  refine k_run B (sa := #[]) (fun H locs ls h1 h2 h3 h4 => ?_) kx kk
  have hg : GoodIn TB (wsS own idx y (.code y cc2 maxL2 ret2 :: TB)) := by
    intro w hw
    simp only [wsS, List.cons_append, List.nil_append, List.mem_cons] at hw
    rcases hw with rfl | rfl | rfl | rfl | hw
    · exact tb_good _ w1
    · exact tb_good _ w2
    · exact tb_good _ w4
    · exact tb_good _ w5
    · exact tb_good _ hw
  exact vx_runS ⟨B.1, B.2.1, B.2.2.1, B.2.2.2.1, B.2.2.2.2.1⟩ (hM H.size) (cwS As.length B.2.2.2.2.1 hg rfl rfl rfl hy ⟨hf, hlc⟩) ⟨kPre_blind, fun U hU hW => ⟨rfl, by rw [hU], by rw [hU]; exact h1, va_K.moved hW.alike B.2.2.2.2.2.1, kZ_in B h2 h3 hU hW⟩⟩ rfl rfl h4.1 hst (lv_room hS) hd ⟨hk, hn⟩
theorem k_callSW (B : kB p l s m args meth c D A nL cc own) {hh : List (Nat × Nat × Nat × Nat)} (hM : kMh (.codeWith y cc2 maxL2 ret2 hh) l D y g9 mc2 ms2 As σ Post2 PX2)
    (hd : decode cc pc = .ok (.invokestatic idx, 3)) (hst : st = As.reverse ++ S)
    (w1 : Cond.methodLink own idx y ∈ TB) (w2 : Cond.static y ∈ TB) (w4 : Cond.initialized y.cls ∈ TB) (w5 : Cond.codeWith y cc2 maxL2 ret2 hh ∈ TB) (hy : y.cls ≠ "java/lang/invoke/MethodHandle" ∧ y.cls ≠ "java/lang/invoke/VarHandle" ∧ (parseMethodDescriptor y.desc).map (fun d => d.parameters.length) = some As.length)
    (hf : g9 + 1 ≤ R.frames) (hlc : 8 + (maxL2 + 11) + 36 * g9 ≤ R.locals) (hk : k + mc2 ≤ R.cells) (hn : n + ms2 ≤ R.slots) (hS : (S.map fun v => v.category).sum ≤ 8)
    (kx : ∀ E : String, PX2 E → kX p l e R s m args below meth c D A nL Q σ (k + mc2) (n + ms2) pc L S E)
    (kk : ∀ (v : Option Value) (σ2 : kS), Post2 v σ2 → kK p l e R s m args below meth c D A nL Q σ2 (k + mc2) (n + ms2) (pc + 3) L (v.toList ++ S)) : kK p l e R s m args below meth c D A nL Q σ k n pc L st := by
  refine k_run B (sa := #[]) (fun H locs ls h1 h2 h3 h4 => ?_) kx kk
  have hg : GoodIn TB (va_wsS own idx y (.codeWith y cc2 maxL2 ret2 hh :: TB)) := by
    intro w hw
    simp only [va_wsS, List.cons_append, List.nil_append, List.mem_cons] at hw
    rcases hw with rfl | rfl | rfl | rfl | hw
    · exact tb_good _ w1
    · exact tb_good _ w2
    · exact tb_good _ w4
    · exact tb_good _ w5
    · exact tb_good _ hw
  exact vx_runSX ⟨B.1, B.2.1, B.2.2.1, B.2.2.2.1, B.2.2.2.2.1⟩ (hM H.size) (vx_cwSW As.length B.2.2.2.2.1 hg rfl rfl rfl hy ⟨hf, hlc⟩) ⟨kPre_blind, fun U hU hW => ⟨rfl, by rw [hU], by rw [hU]; exact h1, va_K.moved hW.alike B.2.2.2.2.2.1, kZ_in B h2 h3 hU hW⟩⟩ rfl rfl h4.1 hst (lv_room hS) hd ⟨hk, hn⟩
theorem k_callI (B : kB p l s m args meth c D A nL cc own) {b : Nat} (hM : kMh (.code y cc2 maxL2 none) l D y g9 mc2 ms2 (.ref b :: As) σ Post2 PX2)
    (hd : decode cc pc = .ok (.invokespecial idx, 3)) (hst : st = As.reverse ++ .ref b :: S)
    (w1 : Cond.methodLink own idx y ∈ TB) (w2 : Cond.instanceMethod y ∈ TB) (w4 : Cond.initialized y.cls ∈ TB) (w5 : Cond.code y cc2 maxL2 none ∈ TB) (hy1 : y.name = "<init>") (hy : y.cls ≠ "java/lang/invoke/MethodHandle" ∧ y.cls ≠ "java/lang/invoke/VarHandle" ∧ (parseMethodDescriptor y.desc).map (fun d => d.parameters.length) = some As.length)
    (hf : g9 + 1 ≤ R.frames) (hlc : 8 + (maxL2 + 11) + 36 * g9 ≤ R.locals) (hk : k + mc2 ≤ R.cells) (hn : n + ms2 ≤ R.slots) (hS : (S.map fun v => v.category).sum ≤ 8)
    (kx : ∀ E : String, PX2 E → kX p l e R s m args below meth c D A nL Q σ (k + mc2) (n + ms2) pc L S E)
    (kk : ∀ (v : Option Value) (σ2 : kS), Post2 v σ2 → kK p l e R s m args below meth c D A nL Q σ2 (k + mc2) (n + ms2) (pc + 3) L (v.toList ++ S)) : kK p l e R s m args below meth c D A nL Q σ k n pc L st := by
  refine k_run B (sa := #[]) (fun H locs ls h1 h2 h3 h4 => ?_) kx kk
  have hg : GoodIn TB (.code y cc2 maxL2 none :: TB) := by
    intro w hw
    rcases List.mem_cons.mp hw with rfl | hw
    · exact tb_good _ w5
    · exact tb_good _ hw
  exact vx_runI ⟨B.1, B.2.1, B.2.2.1, B.2.2.2.1, B.2.2.2.2.1⟩ (hM H.size) (cwI As.length B.2.2.2.2.1 hg rfl rfl rfl (B.2.2.2.2.1 _ w4) (B.2.2.2.2.1 _ w1) (B.2.2.2.2.1 _ w2) hy1 hy ⟨hf, hlc⟩) ⟨kPre_blind, fun U hU hW => ⟨rfl, by rw [hU], by rw [hU]; exact h1, va_K.moved hW.alike B.2.2.2.2.2.1, kZ_in B h2 h3 hU hW⟩⟩ rfl rfl h4.1 hst (lv_room hS) hd ⟨hk, hn⟩
theorem k_callIN (B : kB p l s m args meth c D A nL cc own) {host : String} {b : Nat} (hM : kMh (.code y cc2 maxL2 none) l D y g9 mc2 ms2 (.ref b :: As) σ Post2 PX2)
    (hd : decode cc pc = .ok (.invokespecial idx, 3)) (hst : st = As.reverse ++ .ref b :: S)
    (w1 : Cond.methodLinkNest own idx y host ∈ TN) (w2 : Cond.instanceMethod y ∈ TB) (w4 : Cond.initialized y.cls ∈ TB) (w5 : Cond.code y cc2 maxL2 none ∈ TB) (hy1 : y.name = "<init>") (hy : y.cls ≠ "java/lang/invoke/MethodHandle" ∧ y.cls ≠ "java/lang/invoke/VarHandle" ∧ (parseMethodDescriptor y.desc).map (fun d => d.parameters.length) = some As.length)
    (hf : g9 + 1 ≤ R.frames) (hlc : 8 + (maxL2 + 11) + 36 * g9 ≤ R.locals) (hk : k + mc2 ≤ R.cells) (hn : n + ms2 ≤ R.slots) (hS : (S.map fun v => v.category).sum ≤ 8)
    (kx : ∀ E : String, PX2 E → kX p l e R s m args below meth c D A nL Q σ (k + mc2) (n + ms2) pc L S E)
    (kk : ∀ (v : Option Value) (σ2 : kS), Post2 v σ2 → kK p l e R s m args below meth c D A nL Q σ2 (k + mc2) (n + ms2) (pc + 3) L (v.toList ++ S)) : kK p l e R s m args below meth c D A nL Q σ k n pc L st := by
  refine k_run B (sa := #[]) (fun H locs ls h1 h2 h3 h4 => ?_) kx kk
  have hg : GoodIn TB (.code y cc2 maxL2 none :: TB) := by
    intro w hw
    rcases List.mem_cons.mp hw with rfl | hw
    · exact tb_good _ w5
    · exact tb_good _ hw
  exact vx_runIN ⟨B.1, B.2.1, B.2.2.1, B.2.2.2.1, B.2.2.2.2.1⟩ (hM H.size) ⟨va_cnB As.length B.2.2.2.2.1 hg rfl rfl rfl (B.2.2.2.2.2.2.2.1.2.2.2.2.2.1 _ w1) (B.2.2.2.2.1 _ w4) hy ⟨hf, hlc⟩, hy1, B.2.2.2.2.1 _ w2⟩ ⟨kPre_blind, fun U hU hW => ⟨rfl, by rw [hU], by rw [hU]; exact h1, va_K.moved hW.alike B.2.2.2.2.2.1, kZ_in B h2 h3 hU hW⟩⟩ rfl rfl h4.1 hst (lv_room hS) hd ⟨hk, hn⟩
theorem k_obj (B : kB p l s m args meth c D A nL cc own) {a : Nat} (hd : decode cc pc = .ok (.invokespecial idx, 3)) (w1 : Cond.methodLink own idx objectInit ∈ TB) (w2 : Cond.instanceMethod objectInit ∈ TB) (w3 : Cond.code objectInit ⟨#[0xb1]⟩ 1 none ∈ TB) (hf : 1 ≤ R.frames) (hlc : (S.map fun v => v.category).sum + 12 ≤ R.locals)
    (kk : kK p l e R s m args below meth c D A nL Q σ k n (pc + 3) L S) : kK p l e R s m args below meth c D A nL Q σ k n pc L (.ref a :: S) := fun H locs ls h1 h2 h3 h4 =>
  W.objInit B.1 B.2.1 B.2.2.2.1 (B.2.2.2.2.1 _ w1) (B.2.2.2.2.1 _ w2) (B.2.2.2.2.1 _ w3) rfl (h4.1.trans B.2.2.1.symm) rfl hd hf (by show 2 * (F0 m pc ls (.ref a :: S)).monitorRoom + _ + 12 ≤ _; have h0 : (F0 m pc ls (.ref a :: S)).monitorRoom = 0 := rfl; omega) (kk H locs ls h1 h2 h3 h4)
theorem k_max (B : kB p l s m args meth c D A nL cc own) {x y : Int32} (hd : decode cc pc = .ok (.invokestatic idx, 3)) (w1 : Cond.methodLink own idx Lib.Math.max.name ∈ TB) (w2 : Cond.static Lib.Math.max.name ∈ TB) (w3 : Cond.initialized "java/lang/Math" ∈ TB) (w4 : Cond.code Lib.Math.max.name Lib.Math.max.code 2 (some .int) ∈ TB) (hf : 1 ≤ R.frames) (hlc : (S.map fun v => v.category).sum + 13 ≤ R.locals) (hk : k ≤ R.cells) (hn : n ≤ R.slots)
    (kk : kK p l e R s m args below meth c D A nL Q σ k n (pc + 3) L (.int (if x < y then y else x) :: S)) : kK p l e R s m args below meth c D A nL Q σ k n pc L (.int y :: .int x :: S) := fun H locs ls h1 h2 h3 h4 =>
  va_mmax B.1 B.2.1 (B.2.2.1.trans h4.1.symm) B.2.2.2.1 (B.2.2.2.2.1 _ w1) (B.2.2.2.2.1 _ w2) (B.2.2.2.2.1 _ w3) (B.2.2.2.2.1 _ w4) hf hlc hk hn hd (kk H locs ls h1 h2 h3 h4)
theorem k_min (B : kB p l s m args meth c D A nL cc own) {x y : Int32} (hd : decode cc pc = .ok (.invokestatic idx, 3)) (w1 : Cond.methodLink own idx Lib.Math.min.name ∈ TB) (w2 : Cond.static Lib.Math.min.name ∈ TB) (w3 : Cond.initialized "java/lang/Math" ∈ TB) (w4 : Cond.code Lib.Math.min.name Lib.Math.min.code 2 (some .int) ∈ TB) (hf : 1 ≤ R.frames) (hlc : (S.map fun v => v.category).sum + 13 ≤ R.locals) (hk : k ≤ R.cells) (hn : n ≤ R.slots)
    (kk : kK p l e R s m args below meth c D A nL Q σ k n (pc + 3) L (.int (if y < x then y else x) :: S)) : kK p l e R s m args below meth c D A nL Q σ k n pc L (.int y :: .int x :: S) := fun H locs ls h1 h2 h3 h4 =>
  va_mmin B.1 B.2.1 (B.2.2.1.trans h4.1.symm) B.2.2.2.1 (B.2.2.2.2.1 _ w1) (B.2.2.2.2.1 _ w2) (B.2.2.2.2.1 _ w3) (B.2.2.2.2.1 _ w4) hf hlc hk hn hd (kk H locs ls h1 h2 h3 h4)
/-- a catch: the handler gets the exception, of which nothing is known but that it is none of the store's cells -/
theorem k_catch {E name : String} (B : kB p l s m args meth c D A nL cc own) (pre : List ExceptionTableEntry) (x : ExceptionTableEntry) (suf : List ExceptionTableEntry) (hsplit : c.exceptionTable.toList = pre ++ x :: suf) (hpass : ∀ z ∈ pre, covers z pc = false ∨ (z.catchType ≠ 0 ∧ ∃ nm : String, Cond.classLink own z.catchType nm ∈ TB ∧ va_Nc E nm s)) (hx : covers x pc = true) (h0 : x.catchType ≠ 0) (hlink : Cond.classLink own x.catchType name ∈ TB) (hcast : Cond.castable E name ∈ TN)
    (kk : ∀ q : Nat, kK p l e R s m args below meth c D A nL Q σ k n x.handlerPc L [.ref q]) : kX p l e R s m args below meth c D A nL Q σ k n pc L S E := fun H locs ls ce q9 h1 h2 h3 h4 h5 h6 h7 =>
  vx_catch B.2.2.2.1 pre x suf hsplit (fun z hz => (hpass z hz).imp id (fun ⟨a1, nm, a2, a3⟩ => ⟨a1, nm, B.2.2.2.2.1 _ a2, a3⟩)) hx h0 (B.2.2.2.2.1 _ hlink) (kB_tn B _ hcast) h5 h6 h7 (kk q9 H locs ls h1 h2 h3 h4)
end KC
end
