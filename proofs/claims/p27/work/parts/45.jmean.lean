/-! ===== what the journal means: a tank's pieces are the marked portions of its row ===== -/
def mkB (fc : Nat) (yI : Int32) (p : kP) : Bool := decide (nI p.1 = nI fc ∧ nI p.2.1 = yI)
def mkP (mk : kP → Bool) : Nat → List kP → List (Nat × Nat)
  | _, [] => []
  | off, p :: t => if mk p = true then (off, kUn p) :: mkP mk (off + kUn p) t else mkP mk (off + kUn p) t
theorem mkP_app {mk : kP → Bool} {off : Nat} {A T : List kP} : mkP mk off (A ++ T) = mkP mk off A ++ mkP mk (off + unS A) T := by
  induction A generalizing off with
  | nil => rfl
  | cons p t ih =>
    have e : off + unS (p :: t) = off + kUn p + unS t := by simp only [unS]; omega
    simp only [List.cons_append, mkP]
    rw [e]
    split
    · rw [ih]; rfl
    · rw [ih]
theorem mkP_ge {mk : kP → Bool} {off : Nat} {P : List kP} {q : Nat × Nat} (h : q ∈ mkP mk off P) : off ≤ q.1 ∧ q.1 + q.2 ≤ off + unS P := by
  induction P generalizing off with
  | nil => cases h
  | cons p t ih =>
    simp only [mkP] at h
    simp only [unS]
    split at h
    · rcases List.mem_cons.mp h with e | e
      · subst e; exact ⟨Nat.le_refl _, by simp only []; omega⟩
      · have := ih e; omega
    · have := ih h; omega
theorem mkP_sh {mk : kP → Bool} {k ct wf : Nat} {P : List kP} : (mkP mk (wf + k) P).map (shQ ct wf) = mkP mk (ct + k) P := by
  induction P generalizing k with
  | nil => rfl
  | cons p t ih =>
    simp only [mkP]
    have e1 : wf + k + kUn p = wf + (k + kUn p) := by omega
    have e2 : ct + k + kUn p = ct + (k + kUn p) := by omega
    rw [e1, e2]
    split
    · rw [List.map_cons, ih]
      congr 1
      show (wf + k + ct - wf, kUn p) = (ct + k, kUn p)
      rw [show wf + k + ct - wf = ct + k by omega]
    · exact ih
theorem mkP_fr {fc : Nat} {yI : Int32} {off : Nat} {P : List kP} : quS (mkP (mkB fc yI) off P) = frS (nI fc) yI P := by
  induction P generalizing off with
  | nil => rfl
  | cons p t ih =>
    simp only [mkP, frS]
    by_cases h : nI p.1 = nI fc ∧ nI p.2.1 = yI
    · rw [if_pos (show mkB fc yI p = true from decide_eq_true h), if_pos h]
      show kUn p + quS _ = _
      rw [ih]
    · rw [if_neg (show ¬ mkB fc yI p = true from fun q => h (of_decide_eq_true q)), if_neg h, ih]
      omega
theorem tkQ_0 {L : List (Nat × Nat)} {e : Nat} (h : ∀ q ∈ L, e ≤ q.1) : tkQ L e = ([], L) := by
  cases L with
  | nil => rfl
  | cons q t =>
    have := h q List.mem_cons_self
    rw [tkQ, if_neg (by omega)]
theorem tkQ_mk {fc : Nat} {yI : Int32} {off w : Nat} {P : List kP} (h1 : ∀ q ∈ P, 1 ≤ kUn q) (hw : w ≤ unS P) : tkQ (mkP (mkB fc yI) off P) (off + w) = (mkP (mkB fc yI) off (tkS P w).1, mkP (mkB fc yI) (off + w) (tkS P w).2) := by
  induction P generalizing off w with
  | nil => rfl
  | cons p t ih =>
    have hp := h1 p List.mem_cons_self
    have ht : ∀ q ∈ t, 1 ≤ kUn q := fun q hq => h1 q (List.mem_cons_of_mem _ hq)
    by_cases hle : kUn p ≤ w
    · rw [tkS_cons_le hle]
      have ihh := ih (off := off + kUn p) (w := w - kUn p) ht (by simp only [unS] at hw; omega)
      have e : off + kUn p + (w - kUn p) = off + w := by omega
      rw [e] at ihh
      simp only [mkP]
      split
      · rw [tkQ, if_pos (by simp only []; omega), if_pos (by simp only []; omega), ihh]
      · exact ihh
    · by_cases h0 : w = 0
      · subst h0
        rw [tkS_cons_0 hle]
        exact tkQ_0 (fun q hq => by have := (mkP_ge hq).1; omega)
      · rw [tkS_cons_gt hle h0]
        have e1 : mkB fc yI (pPart p w) = mkB fc yI p := rfl
        have e2 : mkB fc yI (pLess p w) = mkB fc yI p := rfl
        have e3 : kUn (pPart p w) = w := rfl
        have e4 : kUn (pLess p w) = kUn p - w := rfl
        have e5 : off + w + (kUn p - w) = off + kUn p := by omega
        simp only [mkP, e1, e2, e3, e4, e5]
        split
        · rw [tkQ, if_pos (by simp only []; omega), if_neg (by simp only []; omega)]
          simp only []
          rw [show off + w - off = w by omega, show off + kUn p - (off + w) = kUn p - w by omega]
        · exact tkQ_0 (fun q hq => by have := (mkP_ge hq).1; omega)
/-- the tanks stand for the rows -/
def mM (mk : kP → Bool) (P : Nat → List kP) (F : kF) : Prop := ∀ c, c < 10 → F.2.2.1 c = mkP mk (F.2.1 c) (P c) ∧ F.1 c = F.2.1 c + unS (P c)
theorem mM_rain {fc y u : Nat} {yI : Int32} {P P2 : Nat → List kP} {F : kF} (h : mM (mkB fc yI) P F) (hfc : fc < 10) (hP : ∀ c, c < 10 → ∃ n w, P2 c = P c ++ [(c, y, n, w, u)]) : mM (mkB fc yI) P2 (raF (if nI y = yI then some fc else none) u F) := by
  intro c hc
  obtain ⟨n, w, e⟩ := hP c hc
  obtain ⟨h1, h2⟩ := h c hc
  refine ⟨?_, ?_⟩
  · show (if (if nI y = yI then some fc else none) = some c then F.2.2.1 c ++ [(F.1 c, u)] else F.2.2.1 c) = mkP _ (F.2.1 c) (P2 c)
    rw [e, mkP_app, h1, ← h2]
    by_cases q : nI y = yI
    · by_cases q2 : fc = c
      · subst q2
        rw [if_pos q, if_pos rfl, mkP, if_pos (show mkB fc yI (fc, y, n, w, u) = true from decide_eq_true ⟨rfl, q⟩)]
        rfl
      · rw [if_pos q, if_neg (fun x => q2 (Option.some.inj x)), mkP, if_neg (show ¬ mkB fc yI (c, y, n, w, u) = true from fun x => q2 ((nI_eq (by omega) (by omega)).mp (of_decide_eq_true x).1).symm)]
        simp [mkP]
    · rw [if_neg q, if_neg (fun x => by cases x), mkP, if_neg (show ¬ mkB fc yI (c, y, n, w, u) = true from fun x => q (of_decide_eq_true x).2)]
      simp [mkP]
  · show F.1 c + u = F.2.1 c + unS (P2 c)
    rw [e, unS_app, h2]
    show _ = F.2.1 c + (unS (P c) + (u + 0))
    omega
theorem mM_move {fc f d u : Nat} {yI : Int32} {P : Nat → List kP} {F : kF} (h : mM (mkB fc yI) P F) (hf : f < 10) (hd : d ≠ f) (hu : u ≤ unS (P f)) (h1 : ∀ q ∈ P f, 1 ≤ kUn q) : mM (mkB fc yI) (upN (upN P f (tkS (P f) u).2) d (P d ++ (tkS (P f) u).1)) (moF f (toO d) u F) ∧ quV F f u = frS (nI fc) yI (tkS (P f) u).1 := by
  obtain ⟨hf1, hf2⟩ := h f hf
  have hq := tkQ_mk (fc := fc) (yI := yI) (off := F.2.1 f) h1 hu
  rw [← hf1] at hq
  have hsum := tkS_un (P := P f) (w := u)
  have hall := tkS_all hu
  refine ⟨fun c hc => ?_, by rw [quV, hq, mkP_fr]⟩
  obtain ⟨hc1, hc2⟩ := h c hc
  by_cases hd10 : d < 10
  · have et : toO d = some d := if_pos hd10
    rw [et]
    show upN (upN F.2.2.1 f (tkQ (F.2.2.1 f) (F.2.1 f + u)).2) d (F.2.2.1 d ++ (tkQ (F.2.2.1 f) (F.2.1 f + u)).1.map (shQ (F.1 d) (F.2.1 f))) c = mkP _ (upN F.2.1 f (F.2.1 f + u) c) (upN (upN P f (tkS (P f) u).2) d (P d ++ (tkS (P f) u).1) c) ∧ upN F.1 d (F.1 d + u) c = upN F.2.1 f (F.2.1 f + u) c + unS (upN (upN P f (tkS (P f) u).2) d (P d ++ (tkS (P f) u).1) c)
    rw [hq]
    by_cases q : c = d
    · subst q
      rw [upN_eq, upN_eq, upN_eq, upN_ne hd]
      refine ⟨?_, by rw [unS_app]; omega⟩
      rw [mkP_app, hc1]
      congr 1
      have := mkP_sh (mk := mkB fc yI) (k := 0) (ct := F.1 c) (wf := F.2.1 f) (P := (tkS (P f) u).1)
      rw [Nat.add_zero, Nat.add_zero] at this
      rw [this, hc2]
    · rw [upN_ne q, upN_ne q, upN_ne q]
      by_cases q2 : c = f
      · subst q2
        rw [upN_eq, upN_eq, upN_eq]
        exact ⟨rfl, by omega⟩
      · rw [upN_ne q2, upN_ne q2, upN_ne q2]
        exact ⟨hc1, hc2⟩
  · have et : toO d = none := if_neg hd10
    rw [et, upN_ne (show c ≠ d by omega)]
    show upN F.2.2.1 f (tkQ (F.2.2.1 f) (F.2.1 f + u)).2 c = mkP _ (upN F.2.1 f (F.2.1 f + u) c) (upN P f (tkS (P f) u).2 c) ∧ F.1 c = upN F.2.1 f (F.2.1 f + u) c + unS (upN P f (tkS (P f) u).2 c)
    rw [hq]
    by_cases q2 : c = f
    · subst q2
      rw [upN_eq, upN_eq, upN_eq]
      exact ⟨rfl, by omega⟩
    · rw [upN_ne q2, upN_ne q2, upN_ne q2]
      exact ⟨hc1, hc2⟩
