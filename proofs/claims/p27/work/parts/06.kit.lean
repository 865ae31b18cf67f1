/-! ===== a store in place of a world of lists: which cell holds what, by its address; one form of contract for every method ===== -/
abbrev kS : Type := Nat → Option va_E
def kUp (σ : kS) (a : Nat) (e : va_E) : kS := fun b => if b = a then some e else σ b
theorem kUp_eq {σ : kS} {a : Nat} {e : va_E} : kUp σ a e a = some e := by simp [kUp]
theorem kUp_ne {σ : kS} {a b : Nat} {e : va_E} (h : b ≠ a) : kUp σ a e b = σ b := by simp [kUp, h]
theorem kUp_o {σ : kS} {a b : Nat} {e : va_E} {x : Option va_E} (h : b ≠ a) (hb : σ b = x) : kUp σ a e b = x := (kUp_ne h).trans hb
theorem kUp_uu {σ : kS} {a : Nat} {e e2 : va_E} : kUp (kUp σ a e) a e2 = kUp σ a e2 := by
  funext b
  by_cases h : b = a <;> simp [kUp, h]
/-- two cells of different classes are two cells -/
theorem kNe {σ : kS} {a b i j : Nat} {f g : List Value} (h1 : σ a = some (.inr (i, f))) (h2 : σ b = some (.inr (j, g))) (hij : i ≠ j) : a ≠ b := by
  intro e
  subst e
  rw [h1] at h2
  cases h2
  exact hij rfl
theorem kNeN {σ : kS} {a b : Nat} {x : va_E} (h1 : σ a = some x) (h2 : σ b = none) : a ≠ b := by
  intro e
  subst e
  rw [h1] at h2
  cases h2
theorem kNeL {σ : kS} {a b i : Nat} {f : List Value} {g : ClassId × vp_A} (h1 : σ a = some (.inr (i, f))) (h2 : σ b = some (.inl g)) : a ≠ b := by
  intro e
  subst e
  rw [h1] at h2
  cases h2
def kTys (D : va_G) : List (ClassId × FieldType) := [(D.1 11, .int), (D.1 11, .int), (D.1 11, .int), (D.1 11, .int), (D.1 15, .object RX0), (D.1 16, .object RX8), (D.1 17, .object RX2), (D.1 18, .object RX7)]
def kOk (D : va_G) (σ : kS) (H : Heap) : Prop := ∀ (a : Nat) (e : va_E), σ a = some e → va_at D vwCl (a, e) H
theorem kOk.p {D : va_G} {σ : kS} {H : Heap} (h : kOk D σ H) {a : Nat} {e : va_E} (he : σ a = some e) : va_P D vwCl [(a, e)] H := by
  intro k q hk
  match k, hk with
  | 0, hk => cases hk; exact h a e he
  | k + 1, hk => simp at hk
theorem kOk.lt {D : va_G} {σ : kS} {H : Heap} (h : kOk D σ H) {a : Nat} {e : va_E} (he : σ a = some e) : a < H.size := va_at.lt (q := (a, e)) (h a e he)
theorem kOk.fresh {D : va_G} {σ : kS} {H : Heap} (h : kOk D σ H) {q : Nat} (hq : H.size ≤ q) : σ q = none := by
  cases he : σ q with
  | none => rfl
  | some e => exact absurd (h.lt he) (Nat.not_lt.mpr hq)
theorem kOk.up {D : va_G} {σ : kS} {H H1 : Heap} (h : kOk D σ H) {a : Nat} {e : va_E} (he : va_at D vwCl (a, e) H1) (oq : ∀ q : Nat, q ≠ a → q < H.size → H1[q]? = H[q]?) : kOk D (kUp σ a e) H1 := by
  intro b x hx
  by_cases hb : b = a
  · subst hb
    rw [kUp_eq] at hx
    cases hx
    exact he
  · rw [kUp_ne hb] at hx
    exact va_at.kept (q := (b, x)) (h b x hx) (oq b hb (h.lt hx))
theorem kOk.kept {D : va_G} {σ : kS} {H H1 : Heap} (h : kOk D σ H) (oq : ∀ q : Nat, q < H.size → H1[q]? = H[q]?) : kOk D σ H1 := fun b x hx => va_at.kept (q := (b, x)) (h b x hx) (oq b (h.lt hx))
def kA (σ : kS) (sz : Nat) : Nat → Prop := fun q => (∃ e, σ q = some e) ∨ sz ≤ q
/-- what the throws and the catches rest on, beside the words -/
def kZ (A : Nat → Prop) (U : State) : Prop := vx_Zq Bundle.tN "UNASSIGNED_STACK" Bundle.steD A U U.heap ∧ vx_Zq Bundle.tN "SUPPRESSED_SENTINEL" Bundle.listD A U U.heap ∧ (∃ a, vk_R RX9 289 "there is no such number" a U) ∧ (∃ a, vk_R RX9 296 "an argument is out of range" a U) ∧ (∃ a, vk_R RX9 301 "this may not be done now" a U) ∧ (∀ w ∈ TN, va_Nw w U) ∧ va_Nc "java/lang/IllegalArgumentException" "java/lang/IndexOutOfBoundsException" U ∧ va_Nc "java/lang/IllegalStateException" "java/lang/IndexOutOfBoundsException" U ∧ va_Nc "java/lang/IllegalStateException" "java/lang/IllegalArgumentException" U
theorem tn_any {w : Cond} (hw : kCND w = true) {A A2 : Array Value} {u U : State} (h : u.vm = U.vm) (hb : w.before A u = true) : w.before A2 U = true := by
  unfold kCND at hw
  split at hw
  · exact va_tabs rfl h hb
  · exact va_tabs rfl h hb
  · exact va_tabs rfl h hb
  · exact Cond.arrayOver_alike (h ▸ Vm.Alike.refl u.vm) hb
  · cases hw
theorem tn_warm {s U : State} (hW : s.WarmedH U.vm) : ∀ w : Cond, kCND w = true → va_Nw w s → va_Nw w U := by
  intro w hw h
  unfold kCND at hw
  split at hw
  · exact va_Nw.warmC hW h
  · exact va_Nw.warmD hW h
  · exact va_Nw.warmM hW h
  · exact Cond.arrayOver_alike hW.alike h
  · cases hw
theorem kZ.call {A A1 : Nat → Prop} {s U : State} (h : kZ A s) (hW : s.WarmedH U.vm) (hk : ∀ q : Nat, q < s.heap.size → ¬ A q → U.heap[q]? = s.heap[q]?) (hA : ∀ q : Nat, q < U.heap.size → A1 q → A q ∨ s.heap.size ≤ q) (hs : ∀ q : Nat, s.heap.size ≤ q → A q) (hA2 : ∀ q : Nat, A1 q → A q) : kZ A1 U := by
  obtain ⟨h1, h2, ⟨a, h3⟩, ⟨b, h4⟩, ⟨c, h5⟩, h6, h7, h8, h9⟩ := h
  refine ⟨((h1.moved hW.alike).kept hk).narrow hA2, ((h2.moved hW.alike).kept hk).narrow hA2, ⟨a, h3.warm hW⟩, ⟨b, h4.warm hW⟩, ⟨c, h5.warm hW⟩, fun w hw => tn_warm hW w (List.mem_filter.mp hw).2 (h6 w hw), h7.moved hW.alike, h8.moved hW.alike, h9.moved hW.alike⟩
theorem kZ.blind {A : Nat → Prop} {U : State} (h : kZ A U) (g : JFrame) (mk : MethodId) (a : Array Value) : kZ A (U.calling g mk a) := by
  obtain ⟨h1, h2, ⟨x, h3⟩, ⟨b, h4⟩, ⟨c, h5⟩, h6, h7, h8, h9⟩ := h
  have hal : U.vm.Alike (U.calling g mk a).vm := Vm.Alike.refl U.vm
  exact ⟨h1.moved hal, h2.moved hal, ⟨x, h3.same rfl⟩, ⟨b, h4.same rfl⟩, ⟨c, h5.same rfl⟩, fun w hw => tn_any (List.mem_filter.mp hw).2 (u := U) (A := #[]) rfl (h6 w hw), h7.moved hal, h8.moved hal, h9.moved hal⟩
/-! locals: a list of places, none where nothing is known -/
def kHas (ls : Array Slot) (nL : Nat) (L : List (Option Value)) : Prop := ls.size = nL ∧ lv_wf ls ∧ ∀ (i : Nat) (v : Value), L[i]? = some (some v) → ls[i]? = some (.val v)
def kClr (L : List (Option Value)) : Nat → List (Option Value)
  | 0 => L
  | j + 1 => match L[j]? with
    | some (some (.long _)) => L.set j none
    | some (some (.double _)) => L.set j none
    | _ => L
def kSt1 (L : List (Option Value)) (i : Nat) (v : Value) : List (Option Value) := (kClr L i).set i (some v)
def kSt2 (L : List (Option Value)) (i : Nat) (v : Value) : List (Option Value) := ((kClr L i).set (i + 1) none).set i (some v)
def kFl (L : List (Option Value)) : List (Nat × Value) := (List.range L.length).filterMap (fun i => (L.getD i none).map (fun v => (i, v)))
theorem kFl_mem {L : List (Option Value)} {q : Nat × Value} : q ∈ kFl L ↔ L[q.1]? = some (some q.2) := by
  unfold kFl
  rw [List.mem_filterMap]
  constructor
  · rintro ⟨i, hi, h⟩
    have hi := List.mem_range.mp hi
    rw [List.getD_eq_getElem?_getD, List.getElem?_eq_getElem hi, Option.getD_some] at h
    cases hv : L[i] with
    | none => rw [hv] at h; cases h
    | some v =>
      rw [hv] at h
      cases h
      rw [List.getElem?_eq_getElem hi, hv]
  · intro h
    have hi : q.1 < L.length := (List.getElem?_eq_some_iff.mp h).1
    refine ⟨q.1, List.mem_range.mpr hi, ?_⟩
    rw [List.getD_eq_getElem?_getD, h]
    rfl
theorem kHas.lv {ls : Array Slot} {nL : Nat} {L : List (Option Value)} (h : kHas ls nL L) : lv_has ls nL (kFl L) := ⟨h.1, h.2.1, fun q hq => h.2.2 q.1 q.2 (kFl_mem.mp hq)⟩
theorem kClr_at {L : List (Option Value)} {i j : Nat} {w : Value} (h : (kClr L i)[j]? = some (some w)) : L[j]? = some (some w) ∧ ¬ (j + 1 = i ∧ w.category = 2) := by
  cases i with
  | zero => exact ⟨h, fun q => by omega⟩
  | succ k =>
    simp only [kClr] at h
    by_cases hj : j = k
    · subst hj
      split at h
      · rw [List.getElem?_set] at h
        rename_i hx
        have := (List.getElem?_eq_some_iff.mp hx).1
        simp [this] at h
      · rw [List.getElem?_set] at h
        rename_i hx
        have := (List.getElem?_eq_some_iff.mp hx).1
        simp [this] at h
      · rename_i h1 h2
        refine ⟨h, fun q => ?_⟩
        cases w with
        | long x => exact h1 x h
        | double x => exact h2 x h
        | _ => simp [Value.category] at q
    · refine ⟨?_, fun q => by omega⟩
      split at h
      · rw [List.getElem?_set_ne (by omega)] at h; exact h
      · rw [List.getElem?_set_ne (by omega)] at h; exact h
      · exact h
theorem kHas.st1 {ls : Array Slot} {nL i : Nat} {L : List (Option Value)} {v : Value} (h : lv_has ls nL ((i, v) :: (kFl L).filter (fun q => !(q.1 == i) && !(q.1 + 1 == i && q.2.category == 2)))) : kHas ls nL (kSt1 L i v) := by
  refine ⟨h.1, h.2.1, fun j w hj => ?_⟩
  unfold kSt1 at hj
  by_cases e : j = i
  · subst e
    rw [List.getElem?_set] at hj
    split at hj
    · split at hj
      · have hvw : v = w := by simpa using hj
        subst hvw
        exact h.2.2 (j, v) List.mem_cons_self
      · cases hj
    · rename_i hne
      exact absurd rfl hne
  · rw [List.getElem?_set_ne (by omega)] at hj
    obtain ⟨h1, h2⟩ := kClr_at hj
    refine h.2.2 (j, w) (List.mem_cons_of_mem _ (List.mem_filter.mpr ⟨kFl_mem.mpr h1, ?_⟩))
    simp only [Bool.and_eq_true, Bool.not_eq_true', beq_eq_false_iff_ne, Bool.and_eq_false_iff]
    refine ⟨e, ?_⟩
    by_cases h3 : j + 1 = i
    · exact Or.inr (fun q => h2 ⟨h3, q⟩)
    · exact Or.inl h3
theorem kHas.st2 {ls : Array Slot} {nL i : Nat} {L : List (Option Value)} {v : Value} (h : lv_has ls nL ((i, v) :: (kFl L).filter (fun q => !(q.1 == i) && (!(q.1 == i + 1) && !(q.1 + 1 == i && q.2.category == 2))))) : kHas ls nL (kSt2 L i v) := by
  refine ⟨h.1, h.2.1, fun j w hj => ?_⟩
  unfold kSt2 at hj
  by_cases e : j = i
  · subst e
    rw [List.getElem?_set] at hj
    split at hj
    · split at hj
      · have hvw : v = w := by simpa using hj
        subst hvw
        exact h.2.2 (j, v) List.mem_cons_self
      · cases hj
    · rename_i hne
      exact absurd rfl hne
  · rw [List.getElem?_set_ne (by omega)] at hj
    by_cases e2 : j = i + 1
    · subst e2
      rw [List.getElem?_set] at hj
      split at hj
      · split at hj <;> cases hj
      · rename_i hne
        exact absurd rfl hne
    · rw [List.getElem?_set_ne (by omega)] at hj
      obtain ⟨h1, h2⟩ := kClr_at hj
      refine h.2.2 (j, w) (List.mem_cons_of_mem _ (List.mem_filter.mpr ⟨kFl_mem.mpr h1, ?_⟩))
      simp only [Bool.and_eq_true, Bool.not_eq_true', beq_eq_false_iff_ne, Bool.and_eq_false_iff]
      refine ⟨e, e2, ?_⟩
      by_cases h3 : j + 1 = i
      · exact Or.inr (fun q => h2 ⟨h3, q⟩)
      · exact Or.inl h3
/-- a reference or null -/
def kRf (v : Value) : Prop := ∃ r : Option Nat, v = va_rf r
theorem kRf_r (a : Nat) : kRf (.ref a) := ⟨some a, rfl⟩
theorem kRf_n : kRf .null := ⟨none, rfl⟩
theorem kRf_q (r : Option Nat) : kRf (va_rf r) := ⟨r, rfl⟩
theorem kCat_q (r : Option Nat) : (va_rf r).category = 1 := by cases r <;> rfl
/-! the judgement -/
def kK (p : Program) (l : Launch) (e : Env) (R : Room) (s : State) (m : MethodId) (args : Array Value) (below : List Frame) (meth : Method) (c : Code) (D : va_G) (A : Nat → Prop) (nL : Nat) (Q : State → Prop) (σ : kS) (k n pc : Nat) (L : List (Option Value)) (S : List Value) : Prop :=
  ∀ (H : Heap) (locs : List Loc) (ls : Array Slot), kOk D σ H → (∀ (a : Nat) (x : va_E), σ a = some x → A a) → va_S A s.heap H locs → kHas ls nL L → W p l e R s m args below meth c H locs k n Q (F0 m pc ls S)
/-- .. where a method stands that throws an E -/
def kX (p : Program) (l : Launch) (e : Env) (R : Room) (s : State) (m : MethodId) (args : Array Value) (below : List Frame) (meth : Method) (c : Code) (D : va_G) (A : Nat → Prop) (nL : Nat) (Q : State → Prop) (σ : kS) (k n pc : Nat) (L : List (Option Value)) (S : List Value) (E : String) : Prop :=
  ∀ (H : Heap) (locs : List Loc) (ls : Array Slot) (ce : Cell) (q9 : Addr), kOk D σ H → (∀ (a : Nat) (x : va_E), σ a = some x → A a) → va_S A s.heap H locs → kHas ls nL L → H[q9]? = some ce → ce.vm = .none → s.vm.findClass E = some ce.cls → vx_W p l e R s m args below meth c H locs k n Q (F0 m pc ls S) q9
def kB (p : Program) (l : Launch) (s : State) (m : MethodId) (args : Array Value) (meth : Method) (c : Code) (D : va_G) (A : Nat → Prop) (nL : Nat) (cc : ByteArray) (own : String) : Prop :=
  p.tables.exec = Jvm.exec ∧ c.code = cc ∧ c.maxLocals = nL ∧ s.vm.findClass own = some m.cls ∧ (∀ w ∈ TB, w.before args s = true) ∧ va_K D vwCl (kTys D) s ∧ (∀ q : Nat, s.heap.size ≤ q → A q) ∧ kZ A s ∧ l.stackTraces = false ∧ meth.locks = false
/-- the room of a method of height h -/
def kR (h mc ms : Nat) : Room := { frames := h, cells := mc, slots := ms, locals := 36 * h }
/-- THE CONTRACT: from any heap that holds σ it returns v and a heap that holds σ2, with Post v σ2, or throws an E with PX E, and σ is as it was -/
def kM (l : Launch) (D : va_G) (y : MethodName) (cc : ByteArray) (maxL : Nat) (ret : Option FieldType) (h mc ms : Nat) (av : List Value) (σ : kS) (Post : Option Value → kS → Prop) (PX : String → Prop) : Prop :=
  ∀ sz : Nat, vx_Met l y (.code y cc maxL ret :: TB) (kR h mc ms) (va_Pc av (fun U => U.heap.size = sz ∧ kOk D σ U.heap ∧ va_K D vwCl (kTys D) U ∧ kZ (kA σ sz) U))
    (fun _ st o t => ∃ (v : Option Value) (σ2 : kS), o = .returned v ∧ Post v σ2 ∧ kOk D σ2 t.heap ∧ (∀ (a : Nat) (x : va_E), σ2 a = some x → kA σ sz a) ∧ va_F (kA σ sz) st t)
    (fun E st t => PX E ∧ kOk D σ t.heap ∧ va_F (kA σ sz) st t) mc ms (kA σ sz)
/-- what a method's walk must come to -/
def kQ (below : List Frame) (args : Array Value) (s : State) (D : va_G) (σ0 : kS) (Post : Option Value → kS → Prop) (PX : String → Prop) (mc ms : Nat) : State → Prop :=
  vx_MQ below (fun _ st o t => ∃ (v : Option Value) (σ2 : kS), o = .returned v ∧ Post v σ2 ∧ kOk D σ2 t.heap ∧ (∀ (a : Nat) (x : va_E), σ2 a = some x → kA σ0 s.heap.size a) ∧ va_F (kA σ0 s.heap.size) st t)
    (fun E st t => PX E ∧ kOk D σ0 t.heap ∧ va_F (kA σ0 s.heap.size) st t) args s mc ms (kA σ0 s.heap.size)
theorem kEntry {av : List Value} (h : ∀ v ∈ av, v.category = 1) : ∀ (n i : Nat) (v : Value), av[i]? = some v → (n + i, v) ∈ lv_args n av := by
  induction av with
  | nil => intro n i v hi; simp at hi
  | cons a l ih =>
    intro n i v hi
    have ha := h a List.mem_cons_self
    cases i with
    | zero =>
      simp at hi
      subst hi
      simp [lv_args]
    | succ j =>
      have hi : l[j]? = some v := by simpa using hi
      have := ih (fun w hw => h w (List.mem_cons_of_mem _ hw)) (n + 1) j v hi
      simp only [lv_args]
      refine List.mem_cons_of_mem _ ?_
      rw [show n + (j + 1) = n + 1 + j by omega, ha]
      exact this
