def jSt (fc : Nat) (yI : Int32) : kJe → kF → kF
  | .inl (y, u), F => raF (if nI y = yI then some fc else none) u F
  | .inr (f, d, u), F => moF f (toO d) u F
def runF (fc : Nat) (yI : Int32) : List kJe → kF → kF
  | [], F => F
  | e :: t, F => runF fc yI t (jSt fc yI e F)
def eOk : kJe → kF → Prop
  | .inl _, _ => True
  | .inr (f, d, u), F => f < 10 ∧ (d < 10 → d ≠ f) ∧ d < 100 ∧ (∀ q ∈ F.2.2.1 f, F.2.1 f ≤ q.1 ∧ q.1 + q.2 < 2 ^ 30) ∧ F.2.1 f + u < 2 ^ 30
def runK (fc : Nat) (yI : Int32) : List kJe → kF → Prop
  | [], _ => True
  | e :: t, F => eOk e F ∧ runK fc yI t (jSt fc yI e F)
def dst : kJe → Nat
  | .inl _ => 0
  | .inr (_, d, _) => d
theorem runF_app {fc : Nat} {yI : Int32} {J E : List kJe} {F : kF} : runF fc yI (J ++ E) F = runF fc yI E (runF fc yI J F) := by
  induction J generalizing F with
  | nil => rfl
  | cons e t ih => exact ih
theorem runK_app {fc : Nat} {yI : Int32} {J E : List kJe} {F : kF} : runK fc yI (J ++ E) F ↔ runK fc yI J F ∧ runK fc yI E (runF fc yI J F) := by
  induction J generalizing F with
  | nil => simp [runK, runF]
  | cons e t ih => simp only [List.cons_append, runK, runF, ih, and_assoc]
theorem runK_fol {fc tg : Nat} {yI : Int32} {J : List kJe} {F : kF} (h : runK fc yI J F) : folK fc yI tg J F := by
  induction J generalizing F with
  | nil => trivial
  | cons e t ih =>
    match e, h with
    | .inl (y, u), h => exact ih h.2
    | .inr (f, d, u), h => exact ⟨h.1.1, h.1.2.1, h.1.2.2.1, h.1.2.2.2.1, h.1.2.2.2.2, ih h.2⟩
theorem fol_in {fc tg : Nat} {yI : Int32} {J E : List kJe} {F : kF} (htg : 11 ≤ tg) (h : ∃ e ∈ J, dst e = tg) : (fol fc yI tg (J ++ E) F).1 = (fol fc yI tg J F).1 := by
  induction J generalizing F with
  | nil => obtain ⟨e, he, -⟩ := h; cases he
  | cons e t ih =>
    obtain ⟨x, hx, hd⟩ := h
    match e, hx with
    | .inl (y, u), hx =>
      rcases List.mem_cons.mp hx with q | q
      · subst q; have hd : (0 : Nat) = tg := hd; omega
      · show (fol fc yI tg (t ++ E) _).1 = (fol fc yI tg t _).1
        exact ih ⟨x, q, hd⟩
    | .inr (f, d, u), hx =>
      show (fol fc yI tg (.inr (f, d, u) :: (t ++ E)) F).1 = (fol fc yI tg (.inr (f, d, u) :: t) F).1
      by_cases q : d = tg
      · rw [fol, fol, if_pos q, if_pos q]
      · rw [fol, fol, if_neg q, if_neg q]
        rcases List.mem_cons.mp hx with q2 | q2
        · subst q2; exact absurd hd q
        · exact ih ⟨x, q2, hd⟩
theorem fol_out {fc tg : Nat} {yI : Int32} {J E : List kJe} {F : kF} (h : ∀ e ∈ J, dst e ≠ tg) : (fol fc yI tg (J ++ E) F).1 = (fol fc yI tg E (runF fc yI J F)).1 := by
  induction J generalizing F with
  | nil => rfl
  | cons e t ih =>
    have ht : ∀ e ∈ t, dst e ≠ tg := fun x hx => h x (List.mem_cons_of_mem _ hx)
    match e, h e List.mem_cons_self with
    | .inl (y, u), _ => exact ih ht
    | .inr (f, d, u), hd =>
      have hd : ¬ d = tg := hd
      show (fol fc yI tg (.inr (f, d, u) :: (t ++ E)) F).1 = _
      rw [fol, if_neg hd]
      exact ih ht
def kFs (sp : Nat) : kF := (fun _ => 0, fun _ => 0, fun _ => [], sp)
/-- the journal so far, replayed, gives the rows; b bounds what went -/
def hR (P : Nat → List kP) (J : List kJe) (b : Nat → Nat) : Prop := ∀ (fc sp : Nat) (yI : Int32), fc < 10 → runK fc yI J (kFs sp) ∧ mM (mkB fc yI) P (runF fc yI J (kFs sp)) ∧ ∀ c, c < 10 → (runF fc yI J (kFs sp)).2.1 c ≤ b c
theorem hR_mono {P : Nat → List kP} {J : List kJe} {b b2 : Nat → Nat} (h : hR P J b) (hb : ∀ c, c < 10 → b c ≤ b2 c) : hR P J b2 := fun fc sp yI hfc => ⟨(h fc sp yI hfc).1, (h fc sp yI hfc).2.1, fun c hc => Nat.le_trans ((h fc sp yI hfc).2.2 c hc) (hb c hc)⟩
theorem hR_rain {P P2 : Nat → List kP} {J : List kJe} {b : Nat → Nat} {y u : Nat} (h : hR P J b) (hP : ∀ c, c < 10 → ∃ n w, P2 c = P c ++ [(c, y, n, w, u)]) : hR P2 (J ++ [.inl (y, u)]) b := fun fc sp yI hfc => by
  obtain ⟨h1, h2, h3⟩ := h fc sp yI hfc
  refine ⟨runK_app.mpr ⟨h1, trivial, trivial⟩, ?_, ?_⟩
  · rw [runF_app]
    exact mM_rain h2 hfc hP
  · rw [runF_app]
    exact h3
theorem tkS_z {P : List kP} (h : ∀ q ∈ P, 1 ≤ kUn q) : tkS P 0 = ([], P) := by
  cases P with
  | nil => rfl
  | cons p t =>
    have := h p List.mem_cons_self
    exact tkS_cons_0 (by omega)
theorem hR_move {P : Nat → List kP} {J : List kJe} {b : Nat → Nat} {f d u : Nat} (h : hR P J b) (hf : f < 10) (hd : d ≠ f) (hd2 : d < 100) (hu : u ≤ unS (P f)) (h1 : ∀ q ∈ P f, 1 ≤ kUn q) (hb : b f + unS (P f) < 2 ^ 30) : hR (upN (upN P f (tkS (P f) u).2) d (P d ++ (tkS (P f) u).1)) (jAdd J u (.inr (f, d, u))) (upN b f (b f + u)) := by
  by_cases h0 : u = 0
  · subst h0
    have e : upN (upN P f (tkS (P f) 0).2) d (P d ++ (tkS (P f) 0).1) = P := by
      rw [tkS_z h1]
      simp only [List.append_nil]
      rw [upN_self, upN_self]
    rw [e, jAdd, if_pos rfl, Nat.add_zero, upN_self]
    exact h
  · rw [jAdd, if_neg h0]
    intro fc sp yI hfc
    obtain ⟨g1, g2, g3⟩ := h fc sp yI hfc
    have gf := g2 f hf
    have gw := g3 f hf
    refine ⟨runK_app.mpr ⟨g1, ⟨hf, fun _ => hd, hd2, fun q hq => ?_, by omega⟩, trivial⟩, ?_, ?_⟩
    · rw [gf.1] at hq
      have := mkP_ge hq
      omega
    · rw [runF_app]
      exact (mM_move g2 hf hd hu h1).1
    · rw [runF_app]
      intro c hc
      have gc := g3 c hc
      show (moF f (toO d) u (runF fc yI J (kFs sp))).2.1 c ≤ upN b f (b f + u) c
      have e : (moF f (toO d) u (runF fc yI J (kFs sp))).2.1 = upN (runF fc yI J (kFs sp)).2.1 f ((runF fc yI J (kFs sp)).2.1 f + u) := by
        unfold moF
        split <;> rfl
      rw [e]
      by_cases q : c = f
      · subst q; rw [upN_eq, upN_eq]; omega
      · rw [upN_ne q, upN_ne q]; exact gc
/-- leading -/
theorem hR_lead {K : Nat → kCl} {P : Nat → List kP} {J : List kJe} {B y : Nat} (hK : ∀ i d, i < 10 → (K i).1 = some d → d < i) (hP : ∀ i, i < 11 → ∀ q ∈ P i, pOk y q) (hsum : suN (fun i => unS (P i)) 10 ≤ 3000000) (hB : B ≤ 1000000000) (h : hR P J (fun _ => B)) {n : Nat} (hn : n ≤ 10) : hR (ldN K P n) (ldJ K P J n) (fun c => if c < n then B + 3000000 else B) := by
  induction n with
  | zero =>
    refine hR_mono (b := fun _ => B) (fun fc sp yI hfc => ?_) (fun c hc => by simp)
    obtain ⟨h1, h2, h3⟩ := h fc sp yI hfc
    refine ⟨h1, fun c hc => ?_, h3⟩
    have := h2 c hc
    show _ = mkP _ _ (upN P 10 [] c) ∧ _ = _ + unS (upN P 10 [] c)
    rw [upN_ne (show c ≠ 10 by omega)]
    exact this
  | succ n ih =>
    have ih := ih (by omega)
    obtain ⟨d1, d2⟩ := ldD_ok (hK n · (by omega)) (show n < 10 by omega)
    have hpo := ldN_ok (y := y) hK hP (n := n) (by omega) n (by omega)
    have hun : unS (ldN K P n n) ≤ 3000000 := by
      have h1 : unS (ldN K P n n) ≤ suN (fun i => unS (ldN K P n i)) 11 := suN_le (f := fun i => unS (ldN K P n i)) (show n < 11 by omega)
      rw [ldN_sum hK (by omega)] at h1
      omega
    have hw : ldW K (ldN K P n) n ≤ unS (ldN K P n n) := Nat.div_le_self _ _
    have := hR_move (f := n) (d := ldD K n) (u := ldW K (ldN K P n) n) ih (by omega) d2 (by omega) hw (fun q hq => (hpo q hq).2.2.2) (by simp only [Nat.lt_irrefl, if_false]; omega)
    refine hR_mono this (fun c hc => ?_)
    by_cases q : c = n
    · subst q
      rw [upN_eq]
      simp only [Nat.lt_irrefl, if_false, Nat.lt_succ_self, if_true]
      omega
    · rw [upN_ne q]
      by_cases q2 : c < n
      · simp only [q2, if_true, show c < n + 1 by omega]; omega
      · simp only [q2, if_false, show ¬ c < n + 1 by omega]; omega
