/-! storing where the place before holds no long -/
def kNo2 (L : List (Option Value)) : Nat → Prop
  | 0 => True
  | j + 1 => match L[j]? with
    | some (some v) => v.category = 1
    | _ => True
theorem kSt1_no {L : List (Option Value)} {i : Nat} {v : Value} (h : kNo2 L i) : kSt1 L i v = L.set i (some v) := by
  cases i with
  | zero => rfl
  | succ j =>
    unfold kSt1
    simp only [kClr]
    unfold kNo2 at h
    split
    · rename_i hx
      simp only [hx] at h
      cases h
    · rename_i hx
      simp only [hx] at h
      cases h
    · rfl
theorem kK.set1 {p : Program} {l : Launch} {e : Env} {R : Room} {s : State} {m : MethodId} {args : Array Value} {below : List Frame} {meth : Method} {c : Code} {D : va_G} {A : Nat → Prop} {nL : Nat} {Q : State → Prop} {σ : kS} {k n pc : Nat} {L : List (Option Value)} {S : List Value} {i : Nat} {v : Value} (h : kNo2 L i) (kk : kK p l e R s m args below meth c D A nL Q σ k n pc (L.set i (some v)) S) : kK p l e R s m args below meth c D A nL Q σ k n pc (kSt1 L i v) S := by
  rw [kSt1_no h]; exact kk
/-! ===== portions in chains: cell, year, nitrate, compounds, units ===== -/
abbrev kP : Type := Nat × Nat × Nat × Int32 × Nat
abbrev kPs : Type := List (Nat × kP)
def hdA {α : Type} : List (Nat × α) → Option Nat
  | [] => none
  | (a, _) :: _ => some a
def lsA {α : Type} : List (Nat × α) → Option Nat
  | [] => none
  | [(a, _)] => some a
  | _ :: b :: t => lsA (b :: t)
def pE (p : kP) (nx : Option Nat) : va_E := .inr (5, [.int (nI p.1), .int (nI p.2.1), .int (nI p.2.2.1), .int p.2.2.2.1, .int (nI p.2.2.2.2), va_rf nx])
def rowE (u : Int32) (f z : Option Nat) : va_E := .inr (6, [.int u, va_rf f, va_rf z])
def pCh (σ : kS) : kPs → Prop
  | [] => True
  | (a, p) :: t => σ a = some (pE p (hdA t)) ∧ pCh σ t
def kUn (p : kP) : Nat := p.2.2.2.2
def unS : List kP → Nat
  | [] => 0
  | p :: t => kUn p + unS t
def niS : List kP → Nat
  | [] => 0
  | p :: t => kUn p * p.2.2.1 + niS t
def coS : List kP → Int32 → Int32
  | [], x => x
  | p :: t, x => coS t (x ||| p.2.2.2.1)
def agS (y : Nat) : List kP → Nat
  | [] => 0
  | p :: t => kUn p * (y - p.2.1) + agS y t
def miS : List kP → Nat → Nat
  | [], x => x
  | p :: t, x => miS t (if p.2.1 < x then p.2.1 else x)
def maS : List kP → Nat → Nat
  | [], x => x
  | p :: t, x => maS t (if x < p.2.1 then p.2.1 else x)
def frS (c y : Int32) : List kP → Nat
  | [] => 0
  | p :: t => (if nI p.1 = c ∧ nI p.2.1 = y then kUn p else 0) + frS c y t
def fyS : List kP → Int32
  | [] => -1
  | p :: _ => nI p.2.1
def kEarl (p q : kP) : Prop := p.2.1 < q.2.1 ∨ p.2.1 = q.2.1 ∧ p.1 < q.1
def kCon (L : kPs) : List kP := L.map (·.2)
theorem va_rf_inj {r : Option Nat} {a : Nat} (h : va_rf r = .ref a) : r = some a := by
  cases r with
  | none => cases h
  | some b => cases h; rfl
theorem nI_min {a b : Nat} (ha : a < 2 ^ 31) (hb : b < 2 ^ 31) : (if nI b < nI a then nI b else nI a) = nI (if b < a then b else a) := by
  by_cases h : b < a
  · rw [if_pos ((nI_ltI hb ha).mpr h), if_pos h]
  · rw [if_neg (fun q => h ((nI_ltI hb ha).mp q)), if_neg h]
theorem nI_max {a b : Nat} (ha : a < 2 ^ 31) (hb : b < 2 ^ 31) : (if nI a < nI b then nI b else nI a) = nI (if a < b then b else a) := by
  by_cases h : a < b
  · rw [if_pos ((nI_ltI ha hb).mpr h), if_pos h]
  · rw [if_neg (fun q => h ((nI_ltI ha hb).mp q)), if_neg h]
def kEarlB (p q : kP) : Bool := decide (p.2.1 < q.2.1) || (decide (p.2.1 = q.2.1) && decide (p.1 < q.1))
def eaS (bit : Int32) : kPs → Option (Nat × kP) → Option (Nat × kP)
  | [], f => f
  | q :: t, f => eaS bit t (if q.2.2.2.2.1 &&& bit = 0 then f else match f with
    | none => some q
    | some g => if kEarlB q.2 g.2 = true then some q else f)
/-- a chain that goes on at nx -/
def hdO (T : kPs) (nx : Option Nat) : Option Nat := match T with
  | [] => nx
  | (a, _) :: _ => some a
def pSeg (σ : kS) : kPs → Option Nat → Prop
  | [], _ => True
  | (a, p) :: t, nx => σ a = some (pE p (hdO t nx)) ∧ pSeg σ t nx
theorem hdO_n (T : kPs) : hdO T none = hdA T := by cases T <;> rfl
theorem pCh_iff {σ : kS} {L : kPs} : pCh σ L ↔ pSeg σ L none := by
  induction L with
  | nil => exact Iff.rfl
  | cons q t ih => simp only [pCh, pSeg, hdO_n, ih]
def adr (L : kPs) : List Nat := L.map (·.1)
theorem hdO_app (A T : kPs) (nx : Option Nat) : hdO (A ++ T) nx = hdO A (hdO T nx) := by cases A <;> rfl
theorem pSeg_app {σ : kS} {A T : kPs} {nx : Option Nat} : pSeg σ (A ++ T) nx ↔ pSeg σ A (hdO T nx) ∧ pSeg σ T nx := by
  induction A with
  | nil => simp [pSeg]
  | cons q t ih => simp only [List.cons_append, pSeg, hdO_app, ih, and_assoc]
theorem pSeg_mem {σ : kS} {L : kPs} {nx : Option Nat} (h : pSeg σ L nx) {a : Nat} {p : kP} (hm : (a, p) ∈ L) : ∃ y, σ a = some (pE p y) := by
  induction L with
  | nil => cases hm
  | cons q t ih =>
    rcases List.mem_cons.mp hm with e | e
    · subst e; exact ⟨_, h.1⟩
    · exact ih h.2 e
theorem pCh_mem {σ : kS} {L : kPs} (h : pCh σ L) {a : Nat} {p : kP} (hm : (a, p) ∈ L) : ∃ y, σ a = some (pE p y) := pSeg_mem (pCh_iff.mp h) hm
theorem adr_mem {L : kPs} {a : Nat} : a ∈ adr L ↔ ∃ p, (a, p) ∈ L := by
  simp [adr]
theorem pSeg_adr {σ : kS} {L : kPs} {nx : Option Nat} (h : pSeg σ L nx) {a : Nat} (ha : a ∈ adr L) : ∃ p y, σ a = some (pE p y) := by
  obtain ⟨p, hp⟩ := adr_mem.mp ha
  obtain ⟨y, hy⟩ := pSeg_mem h hp
  exact ⟨p, y, hy⟩
/-- a chain stands if its cells stand -/
theorem pSeg_keep {σ s2 : kS} {L : kPs} {nx : Option Nat} (h : pSeg σ L nx) (hk : ∀ a ∈ adr L, ∀ e, σ a = some e → s2 a = some e) : pSeg s2 L nx := by
  induction L with
  | nil => trivial
  | cons q t ih => exact ⟨hk _ (by simp [adr]) _ h.1, ih h.2 (fun a ha => hk a (by simp only [adr, List.map_cons, List.mem_cons] at ha ⊢; exact Or.inr ha))⟩
theorem pCh_keep {σ s2 : kS} {L : kPs} (h : pCh σ L) (hk : ∀ a ∈ adr L, ∀ e, σ a = some e → s2 a = some e) : pCh s2 L := pCh_iff.mpr (pSeg_keep (pCh_iff.mp h) hk)
theorem pSeg_up {σ : kS} {L : kPs} {nx : Option Nat} {a : Nat} {x : va_E} (h : pSeg σ L nx) (ha : a ∉ adr L) : pSeg (kUp σ a x) L nx := pSeg_keep h (fun b hb e he => kUp_o (fun q => ha (q ▸ hb)) he)
theorem lsA_snoc {α : Type} (A : List (Nat × α)) (a : Nat) (p : α) : lsA (A ++ [(a, p)]) = some a := by
  induction A with
  | nil => rfl
  | cons q t ih =>
    cases t with
    | nil => rfl
    | cons r t2 => exact ih
theorem lsA_none {α : Type} {A : List (Nat × α)} : lsA A = none ↔ A = [] := by
  rcases List.eq_nil_or_concat A with h | ⟨t, q, h⟩
  · subst h; exact ⟨fun _ => rfl, fun _ => rfl⟩
  · subst h
    rw [List.concat_eq_append, lsA_snoc]
    simp
theorem lsA_app {α : Type} (A T : List (Nat × α)) (h : T ≠ []) : lsA (A ++ T) = lsA T := by
  rcases List.eq_nil_or_concat T with e | ⟨t, q, e⟩
  · exact absurd e h
  · subst e
    rw [List.concat_eq_append, ← List.append_assoc, lsA_snoc, lsA_snoc]
theorem unS_app (A T : List kP) : unS (A ++ T) = unS A + unS T := by
  induction A with
  | nil => simp [unS]
  | cons p t ih => simp only [List.cons_append, unS, ih]; omega
def kC : va_E → Nat
  | .inr (ci, _) => ci
  | .inl (_, _, .inl _) => 11
  | .inl (_, _, .inr (.inl _)) => 13
  | .inl (_, _, .inr (.inr (.inl _))) => 12
  | .inl (_, _, .inr (.inr (.inr (.inl _)))) => 14
  | .inl (_, _, .inr (.inr (.inr (.inr _)))) => 15
/-- only cells of the kinds T may have changed -/
def kFr (T : Nat → Prop) (σ s2 : kS) : Prop := ∀ (a : Nat) (e : va_E), σ a = some e → ¬ T (kC e) → s2 a = some e
theorem kFr.rf {T : Nat → Prop} {σ : kS} : kFr T σ σ := fun _ _ h _ => h
theorem kFr.tr {T : Nat → Prop} {σ s2 s3 : kS} (h : kFr T σ s2) (h2 : kFr T s2 s3) : kFr T σ s3 := fun a e he hT => h2 a e (h a e he hT) hT
theorem kFr.mono {T T2 : Nat → Prop} {σ s2 : kS} (h : kFr T σ s2) (hT : ∀ k, T k → T2 k) : kFr T2 σ s2 := fun a e he h2 => h a e he (fun q => h2 (hT _ q))
theorem kFr.up {T : Nat → Prop} {σ : kS} {a : Nat} {e0 e : va_E} (h : σ a = some e0) (hT : T (kC e0)) : kFr T σ (kUp σ a e) := fun b x hb hx => by
  by_cases q : b = a
  · subst q
    rw [h] at hb
    cases hb
    exact absurd hT hx
  · exact kUp_o q hb
theorem kFr.new {T : Nat → Prop} {σ : kS} {a : Nat} {e : va_E} (h : σ a = none) : kFr T σ (kUp σ a e) := fun b x hb _ => kUp_o (fun q => by subst q; rw [h] at hb; cases hb) hb
/-- cells at addresses of X may have changed -/
def kOut (X : Nat → Prop) (σ s2 : kS) : Prop := ∀ (a : Nat) (e : va_E), σ a = some e → ¬ X a → s2 a = some e
theorem kOut.rf {X : Nat → Prop} {σ : kS} : kOut X σ σ := fun _ _ h _ => h
theorem kOut.tr {X : Nat → Prop} {σ s2 s3 : kS} (h : kOut X σ s2) (h2 : kOut X s2 s3) : kOut X σ s3 := fun a e he hT => h2 a e (h a e he hT) hT
theorem kOut.mono {X Y : Nat → Prop} {σ s2 : kS} (h : kOut X σ s2) (hT : ∀ k, X k → Y k) : kOut Y σ s2 := fun a e he h2 => h a e he (fun q => h2 (hT _ q))
theorem kOut.up {X : Nat → Prop} {σ : kS} {a : Nat} {e : va_E} (ha : X a) : kOut X σ (kUp σ a e) := fun b x hb hx => kUp_o (fun q => hx (q ▸ ha)) hb
theorem kOut.new {X : Nat → Prop} {σ : kS} {a : Nat} {e : va_E} (h : σ a = none) : kOut X σ (kUp σ a e) := fun b x hb _ => kUp_o (fun q => by subst q; rw [h] at hb; cases hb) hb
/-- what is taken, and what stays -/
def tkS : List kP → Nat → List kP × List kP
  | [], _ => ([], [])
  | p :: t, w => if kUn p ≤ w then (p :: (tkS t (w - kUn p)).1, (tkS t (w - kUn p)).2) else if w = 0 then ([], p :: t) else ([(p.1, p.2.1, p.2.2.1, p.2.2.2.1, w)], (p.1, p.2.1, p.2.2.1, p.2.2.2.1, kUn p - w) :: t)
