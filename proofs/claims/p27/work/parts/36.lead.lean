theorem tkS_un {P : List kP} {w : Nat} : unS (tkS P w).1 + unS (tkS P w).2 = unS P := by
  induction P generalizing w with
  | nil => rfl
  | cons p t ih =>
    by_cases h : kUn p ≤ w
    · rw [tkS_cons_le h]
      show unS (p :: (tkS t (w - kUn p)).1) + unS (tkS t (w - kUn p)).2 = unS (p :: t)
      have := ih (w := w - kUn p)
      simp only [unS]; omega
    · by_cases h0 : w = 0
      · subst h0
        rw [tkS_cons_0 h]
        simp [unS]
      · rw [tkS_cons_gt h h0]
        simp only [unS, kUn, pPart, pLess] at h ⊢
        omega
/-! the journal grows -/
def jMs (Jp : kJs) : kMs := Jp.map (fun r => (r.1, jeM r.2))
theorem jMs_hdG (Jp : kJs) (nx : Option Nat) : hdG (jMs Jp) nx = hdG Jp nx := by cases Jp <;> rfl
theorem jMs_hdA (Jp : kJs) : hdA (jMs Jp) = hdA Jp := by cases Jp <;> rfl
theorem jMs_lsA (Jp : kJs) : lsA (jMs Jp) = lsA Jp := by
  induction Jp with
  | nil => rfl
  | cons q t ih => cases t with
    | nil => rfl
    | cons r t2 => exact ih
theorem jMs_ad (Jp : kJs) : ad (jMs Jp) = ad Jp := by simp [jMs, ad]
theorem jMs_seg {σ : kS} {Jp : kJs} {nx : Option Nat} : gSeg mE σ (jMs Jp) nx ↔ gSeg jmE σ Jp nx := by
  induction Jp with
  | nil => exact Iff.rfl
  | cons q t ih =>
    show (σ q.1 = some (mE (jeM q.2) (hdG (jMs t) nx)) ∧ gSeg mE σ (jMs t) nx) ↔ (σ q.1 = some (jmE q.2 (hdG t nx)) ∧ gSeg jmE σ t nx)
    rw [jMs_hdG, ih]
    rfl
theorem jMs_snoc (Jp : kJs) (q : Nat) (e : kJe) : jMs Jp ++ [(q, jeM e)] = jMs (Jp ++ [(q, e)]) := by simp [jMs]
theorem tkI.jc {D : va_G} {aJ tk : Nat} {tad : Nat → Nat} {fJ zJ f2 z2 : Option Nat} {cm wt : Nat → Nat} {TP : Nat → kTs} {SP : kQs} {σ s2 : kS} (h : tkI D aJ tk tad fJ zJ cm wt TP SP σ) (hf : kFr k13 σ s2) (g : s2 aJ = some (jE tk f2 z2 (hdA SP))) : tkI D aJ tk tad f2 z2 cm wt TP SP s2 := by
  obtain ⟨h1, ⟨ft, h2, h2b⟩, h3, h4, h5, h6⟩ := h
  refine ⟨g, ⟨ft, hf _ _ h2 (fun q => q.elim (fun q => by cases q) (fun q => by cases q)), h2b⟩, fun i hi => hf _ _ (h3 i hi) (fun q => q.elim (fun q => by cases q) (fun q => by cases q)), fun i hi => gSeg_keep (h4 i hi) (fun a ha e he => ?_), gSeg_keep h5 (fun a ha e he => ?_), h6⟩
  · obtain ⟨p1, y1, hh⟩ := gSeg_adr (h4 i hi) ha
    rw [hh] at he
    cases he
    exact hf _ _ hh (fun q => q.elim (fun q => by cases q) (fun q => by cases q))
  · obtain ⟨p1, y1, hh⟩ := gSeg_adr h5 ha
    rw [hh] at he
    cases he
    exact hf _ _ hh (fun q => q.elim (fun q => by cases q) (fun q => by cases q))
theorem jo9.cell {D : va_G} {aJ : Nat} {J : List kJe} {F : kF} {σ : kS} (h : jo9 D aJ J F σ) : ∃ tk f z sp, σ aJ = some (jE tk f z sp) := by
  obtain ⟨tk, tad, Jp, ⟨TP, SP, a1, a2⟩, b⟩ := h
  exact ⟨_, _, _, _, a1.1⟩
def jAdd (J : List kJe) (u : Nat) (e : kJe) : List kJe := if u = 0 then J else J ++ [e]
section Note
variable {l : Launch} {D : va_G} {σ : kS} {aJ : Nat} {J : List kJe} {F : kF}
theorem c_note (hl : l.stackTraces = false) (h : jo9 D aJ J F σ) {e : kJe} {f t : Int32} {u : Nat} (he : jeM e = (f, t, u)) (hub : u < 2 ^ 31) : kMh hX1_note l D yX1_note 2 1 4 [.ref aJ, .int f, .int t, .int (nI u)] σ (fun v s2 => v = none ∧ jo9 D aJ (jAdd J u e) F s2 ∧ kFr k13 σ s2) (fun _ => False) := by
  by_cases h0 : u = 0
  · subst h0
    refine (c_X1_note0 hl).post (fun v s2 hq => ?_) (fun E hE => hE)
    obtain ⟨h1, h2⟩ := hq
    exact ⟨h1, by rw [jAdd, if_pos rfl, h2]; exact h, by rw [h2]; exact kFr.rf⟩
  · obtain ⟨tk, tad, Jp, ⟨TP, SP, a1, a2⟩, b1, b2, b3⟩ := h
    refine (c_X1_note hl (J := jMs Jp) (sp := hdA SP) (by rw [jMs_hdA, jMs_lsA]; exact a1.1) (jMs_seg.mpr b1) (by rw [jMs_ad]; exact b2) (by omega) hub).post (fun v s2 hq => ?_) (fun E hE => hE)
    obtain ⟨q, h1, h2, h3, h4, h5⟩ := hq
    have e1 : jMs Jp ++ [(q, (f, t, u))] = jMs (Jp ++ [(q, e)]) := by rw [← he]; exact jMs_snoc _ _ _
    rw [e1, jMs_hdA, jMs_lsA] at h3
    rw [e1] at h4
    refine ⟨h1, ⟨tk, tad, Jp ++ [(q, e)], ⟨TP, SP, a1.jc h5 h3, a2⟩, jMs_seg.mp h4, ?_, ?_⟩, h5⟩
    · rw [ad_app]
      refine List.nodup_append.mpr ⟨b2, by simp [ad], fun a ha b hb hab => ?_⟩
      have hbq : b = q := by simpa [ad] using hb
      obtain ⟨p1, y1, hh⟩ := gSeg_adr b1 ha
      rw [hab, hbq, h2] at hh
      cases hh
    · rw [jAdd, if_neg h0, ← b3]; simp [jCon]
end Note
/-! what a year's leading does -/
def ldW (K : Nat → kCl) (P : Nat → List kP) (c : Nat) : Nat := unS (P c) / (K c).2.1
def ldD (K : Nat → kCl) (c : Nat) : Nat := match (K c).1 with
  | none => 10
  | some d => d
def ldS (K : Nat → kCl) (P : Nat → List kP) (c : Nat) : Nat → List kP := upN (upN P c (tkS (P c) (ldW K P c)).2) (ldD K c) (P (ldD K c) ++ (tkS (P c) (ldW K P c)).1)
def ldN (K : Nat → kCl) (P : Nat → List kP) : Nat → Nat → List kP
  | 0 => upN P 10 []
  | n + 1 => ldS K (ldN K P n) n
def ldJ (K : Nat → kCl) (P : Nat → List kP) (J : List kJe) : Nat → List kJe
  | 0 => J
  | n + 1 => jAdd (ldJ K P J n) (ldW K (ldN K P n) n) (.inr (n, ldD K n, ldW K (ldN K P n) n))
def setR (z : kSt) (P : Nat → List kP) : kSt := (z.1, z.2.1, P, z.2.2.2)
def leadS (z : kSt) : kSt := ((z.1.1, z.1.2.1, z.1.2.2.1, z.1.2.2.2.1, z.1.2.2.2.2.1, z.1.2.2.2.2.2.1, z.1.2.2.2.2.2.2.1, sSpr z + unS (ldN (sK z) (sR z) 10 10), z.1.2.2.2.2.2.2.2.2), z.2.1, ldN (sK z) (sR z) 10, z.2.2.2)
theorem suN_two {f g : Nat → Nat} {n a b : Nat} (hab : a ≠ b) (ha : a < n) (hb : b < n) (h : ∀ i, i ≠ a → i ≠ b → g i = f i) (h2 : g a + g b = f a + f b) : suN g n = suN f n := by
  have key : ∀ m : Nat, suN g m + (if a < m then f a else 0) + (if b < m then f b else 0) = suN f m + (if a < m then g a else 0) + (if b < m then g b else 0) := by
    intro m
    induction m with
    | zero => simp [suN]
    | succ m ih =>
      simp only [suN]
      by_cases q1 : m = a
      · subst q1
        rw [if_neg (Nat.lt_irrefl _), if_neg (Nat.lt_irrefl _)] at ih
        rw [if_pos (Nat.lt_succ_self _), if_pos (Nat.lt_succ_self _)]
        by_cases q2 : b < m
        · rw [if_pos q2, if_pos q2] at ih
          rw [if_pos (by omega), if_pos (by omega)]
          omega
        · rw [if_neg q2, if_neg q2] at ih
          rw [if_neg (by omega), if_neg (by omega)]
          omega
      · by_cases q2 : m = b
        · subst q2
          rw [if_neg (Nat.lt_irrefl m) (t := f m), if_neg (Nat.lt_irrefl m) (t := g m)] at ih
          rw [if_pos (Nat.lt_succ_self m) (t := f m), if_pos (Nat.lt_succ_self m) (t := g m)]
          by_cases q3 : a < m
          · rw [if_pos q3, if_pos q3] at ih
            rw [if_pos (by omega), if_pos (by omega)]
            omega
          · rw [if_neg q3, if_neg q3] at ih
            rw [if_neg (by omega), if_neg (by omega)]
            omega
        · have := h m q1 q2
          have e1 : (a < m + 1) = (a < m) := propext ⟨fun _ => by omega, fun _ => by omega⟩
          have e2 : (b < m + 1) = (b < m) := propext ⟨fun _ => by omega, fun _ => by omega⟩
          simp only [e1, e2]
          omega
  have := key n
  rw [if_pos ha, if_pos hb, if_pos ha, if_pos hb] at this
  omega
