/-! ===== the state of one object, as the document speaks of it ===== -/
/-- now, cents, the drought's cell and limits, what is forbidden, the four sums -/
abbrev kSc : Type := Nat × Nat × Nat × Nat × Nat × Int32 × Nat × Nat × Nat × Nat
/-- a well: its cell, permit, what it took this year -/
abbrev kWl : Type := Nat × Nat × Nat
/-- a lot: its well, its year, treatments, label, truth, recalled -/
abbrev kLo : Type := Nat × Nat × Int32 × Int32 × Int32 × Int32
/-- the numbers; the cells; the rows (0 to 9 the cells', 10 the spring's, 11 on the lots'); the wells; the lots -/
abbrev kSt : Type := kSc × (Nat → kCl) × (Nat → List kP) × (Nat × (Nat → kWl)) × (Nat × (Nat → kLo))
abbrev sNow (s : kSt) : Nat := s.1.1
abbrev sCen (s : kSt) : Nat := s.1.2.1
abbrev sDr (s : kSt) : Nat := s.1.2.2.1
abbrev sL1 (s : kSt) : Nat := s.1.2.2.2.1
abbrev sL2 (s : kSt) : Nat := s.1.2.2.2.2.1
abbrev sFb (s : kSt) : Int32 := s.1.2.2.2.2.2.1
abbrev sFal (s : kSt) : Nat := s.1.2.2.2.2.2.2.1
abbrev sSpr (s : kSt) : Nat := s.1.2.2.2.2.2.2.2.1
abbrev sPai (s : kSt) : Nat := s.1.2.2.2.2.2.2.2.2.1
abbrev sVil (s : kSt) : Nat := s.1.2.2.2.2.2.2.2.2.2
abbrev sK (s : kSt) : Nat → kCl := s.2.1
abbrev sR (s : kSt) : Nat → List kP := s.2.2.1
abbrev sWn (s : kSt) : Nat := s.2.2.2.1.1
abbrev sW (s : kSt) : Nat → kWl := s.2.2.2.1.2
abbrev sLn (s : kSt) : Nat := s.2.2.2.2.1
abbrev sLo (s : kSt) : Nat → kLo := s.2.2.2.2.2
def nL (x : Nat) : Int64 := Int64.ofNat x
theorem nL_add (a b : Nat) : nL a + nL b = nL (a + b) := (Int64.ofNat_add a b).symm
theorem nL_mul (a b : Nat) : nL a * nL b = nL (a * b) := (Int64.ofNat_mul a b).symm
def o9E (cA wA lA aS aJ dA : Nat) (s : kSt) : va_E := .inr (9, [.ref cA, .ref wA, .ref lA, .ref aS, .ref aJ, .int (nI (sWn s)), .int (nI (sLn s)), .int (nI (sNow s)), .int (nI (sCen s)), .ref dA, .int (nI (sL1 s)), .int (nI (sL2 s)), .int (sFb s), .long (nL (sFal s)), .long (nL (sSpr s)), .long (nL (sPai s)), .long (nL (sVil s))])
def wE (cad : Nat → Nat) (w : kWl) : va_E := .inr (8, [.ref (cad w.1), .int (nI w.2.1), .int (nI w.2.2)])
def loE (r : Nat) (t : kLo) : va_E := lotE t.1 t.2.1 r t.2.2.1 t.2.2.2.1 t.2.2.2.2.1 t.2.2.2.2.2
/-- what P says of a cell holds on -/
def kKp (P : va_E → Prop) (σ s2 : kS) : Prop := ∀ (a : Nat) (e : va_E), σ a = some e → P e → s2 a = some e
theorem kKp.rf {P : va_E → Prop} {σ : kS} : kKp P σ σ := fun _ _ h _ => h
theorem kKp.tr {P : va_E → Prop} {σ s2 s3 : kS} (h : kKp P σ s2) (h2 : kKp P s2 s3) : kKp P σ s3 := fun a e he hp => h2 a e (h a e he hp) hp
theorem kKp.up {P : va_E → Prop} {σ : kS} {a : Nat} {e0 e : va_E} (h : σ a = some e0) (hp : ¬ P e0) : kKp P σ (kUp σ a e) := fun b x hb hx => kUp_o (fun q => by subst q; rw [h] at hb; cases hb; exact hp hx) hb
theorem kKp.new {P : va_E → Prop} {σ : kS} {a : Nat} {e : va_E} (h : σ a = none) : kKp P σ (kUp σ a e) := fun b x hb _ => kUp_o (fun q => by subst q; rw [h] at hb; cases hb) hb
theorem kFr.kp {T : Nat → Prop} {P : va_E → Prop} {σ s2 : kS} (h : kFr T σ s2) (hp : ∀ e, P e → ¬ T (kC e)) : kKp P σ s2 := fun a e he hx => h a e he (hp e hx)
theorem kKp.mono {P P2 : va_E → Prop} {σ s2 : kS} (h : kKp P σ s2) (hp : ∀ e, P2 e → P e) : kKp P2 σ s2 := fun a e he hx => h a e he (hp e hx)
/-- an array of N places for references -/
def isAr (N : Nat) : va_E → Prop
  | .inl (_, M, .inr (.inr (.inr (.inr _)))) => M = N
  | _ => False
def jP (e : va_E) : Prop := kC e = 1 ∨ kC e = 3 ∨ kC e = 4 ∨ kC e = 7 ∨ isAr 10 e
section State
variable {D : va_G} {σ s2 : kS}
theorem tkI.keepP {aJ tk : Nat} {tad : Nat → Nat} {fJ zJ : Option Nat} {cm wt : Nat → Nat} {TP : Nat → kTs} {SP : kQs} (h : tkI D aJ tk tad fJ zJ cm wt TP SP σ) (hf : kKp jP σ s2) : tkI D aJ tk tad fJ zJ cm wt TP SP s2 := by
  obtain ⟨h1, ⟨ft, h2, h2b⟩, h3, h4, h5, h6, h7, h8, h9, h10⟩ := h
  refine ⟨hf _ _ h1 (Or.inl rfl), ⟨ft, hf _ _ h2 (Or.inr (Or.inr (Or.inr (Or.inr rfl)))), h2b⟩, fun i hi => hf _ _ (h3 i hi) (Or.inr (Or.inr (Or.inr (Or.inl rfl)))), fun i hi => gSeg_keep (h4 i hi) (fun a ha e he => ?_), gSeg_keep h5 (fun a ha e he => ?_), h6, h7, h8, h9, h10⟩
  · obtain ⟨p1, y1, hh⟩ := gSeg_adr (h4 i hi) ha
    rw [hh] at he
    cases he
    exact hf _ _ hh (Or.inr (Or.inr (Or.inl rfl)))
  · obtain ⟨p1, y1, hh⟩ := gSeg_adr h5 ha
    rw [hh] at he
    cases he
    exact hf _ _ hh (Or.inr (Or.inr (Or.inl rfl)))
/-- the journal's own cells -/
def jo9 (D : va_G) (aJ : Nat) (J : List kJe) (F : kF) (σ : kS) : Prop := ∃ (tk : Nat) (tad : Nat → Nat) (Jp : kJs), tkF D aJ tk tad (hdA Jp) (lsA Jp) F σ ∧ gSeg jmE σ Jp none ∧ (ad Jp).Nodup ∧ jCon Jp = J
theorem jo9.keep {aJ : Nat} {J : List kJe} {F : kF} (h : jo9 D aJ J F σ) (hf : kKp jP σ s2) : jo9 D aJ J F s2 := by
  obtain ⟨tk, tad, Jp, ⟨TP, SP, a1, a2⟩, b1, b2, b3⟩ := h
  refine ⟨tk, tad, Jp, ⟨TP, SP, a1.keepP hf, a2⟩, gSeg_keep b1 (fun a ha e he => ?_), b2, b3⟩
  obtain ⟨p1, y1, hh⟩ := gSeg_adr b1 ha
  rw [hh] at he
  cases he
  exact hf _ _ hh (Or.inr (Or.inl rfl))
/-- the rows -/
def rwI (n : Nat) (ra : Nat → Nat) (R : Nat → kPs) (σ : kS) : Prop :=
  (∀ i, i < n → σ (ra i) = some (rowE (nI (unS (kCon (R i)))) (hdA (R i)) (lsA (R i)))) ∧ (∀ i, i < n → pCh σ (R i)) ∧ (∀ i, i < n → (adr (R i)).Nodup) ∧ (∀ i j, i < n → j < n → i ≠ j → ∀ a ∈ adr (R i), a ∉ adr (R j)) ∧ (∀ i j, i < n → j < n → ra i = ra j → i = j)
def rP (e : va_E) : Prop := kC e = 5 ∨ kC e = 6
variable {n : Nat} {ra : Nat → Nat} {R : Nat → kPs}
theorem pCh_no {L : kPs} {a : Nat} {e : va_E} (h : pCh σ L) (ha : σ a = some e) (hk : kC e ≠ 5) : a ∉ adr L := fun hm => by
  obtain ⟨p1, y1, hh⟩ := pSeg_adr (pCh_iff.mp h) hm
  rw [ha] at hh
  cases hh
  exact hk rfl
theorem pCh_kp {L : kPs} (h : pCh σ L) (hf : kKp rP σ s2) : pCh s2 L := pCh_keep h (fun a ha e he => by
  obtain ⟨p1, y1, hh⟩ := pSeg_adr (pCh_iff.mp h) ha
  rw [hh] at he
  cases he
  exact hf _ _ hh (Or.inl rfl))
theorem rwI.keep (h : rwI n ra R σ) (hf : kKp rP σ s2) : rwI n ra R s2 := ⟨fun i hi => hf _ _ (h.1 i hi) (Or.inr rfl), fun i hi => pCh_kp (h.2.1 i hi) hf, h.2.2⟩
/-- one row changed -/
theorem rwI.one (h : rwI n ra R σ) {i : Nat} (hi : i < n) {P2 : kPs} (hk : ∀ (a : Nat) (e : va_E), σ a = some e → rP e → a ≠ ra i → a ∉ adr (R i) → s2 a = some e) (g1 : s2 (ra i) = some (rowE (nI (unS (kCon P2))) (hdA P2) (lsA P2))) (g2 : pCh s2 P2) (g3 : (adr P2).Nodup) (g4 : ∀ a ∈ adr P2, ∀ j, j < n → j ≠ i → a ∉ adr (R j)) : rwI n ra (upN R i P2) s2 := by
  obtain ⟨h1, h2, h3, h4, h5⟩ := h
  have hrow : ∀ j, j < n → j ≠ i → s2 (ra j) = some (rowE (nI (unS (kCon (R j)))) (hdA (R j)) (lsA (R j))) := fun j hj hji => hk _ _ (h1 j hj) (Or.inr rfl) (fun q => hji (h5 j i hj hi q)) (pCh_no (h2 i hi) (h1 j hj) (show (6 : Nat) ≠ 5 by decide))
  refine ⟨fun j hj => ?_, fun j hj => ?_, fun j hj => ?_, fun j1 j2 hj1 hj2 hne a ha hb => ?_, h5⟩
  · by_cases q : j = i
    · subst q; rw [upN_eq]; exact g1
    · rw [upN_ne q]; exact hrow j hj q
  · by_cases q : j = i
    · subst q; rw [upN_eq]; exact g2
    · rw [upN_ne q]
      refine pCh_keep (h2 j hj) (fun a ha e he => ?_)
      obtain ⟨p1, y1, hh⟩ := pSeg_adr (pCh_iff.mp (h2 j hj)) ha
      rw [hh] at he
      cases he
      exact hk _ _ hh (Or.inl rfl) (fun q2 => by rw [q2, h1 i hi] at hh; cases hh) (h4 j i hj hi q a ha)
  · by_cases q : j = i
    · subst q; rw [upN_eq]; exact g3
    · rw [upN_ne q]; exact h3 j hj
  · by_cases q : j1 = i
    · subst q
      rw [upN_eq] at ha
      rw [upN_ne (Ne.symm hne)] at hb
      exact g4 a ha j2 hj2 (Ne.symm hne) hb
    · rw [upN_ne q] at ha
      by_cases q2 : j2 = i
      · subst q2
        rw [upN_eq] at hb
        exact g4 a hb j1 hj1 hne ha
      · rw [upN_ne q2] at hb
        exact h4 j1 j2 hj1 hj2 hne a ha hb
/-- a row more -/
theorem rwI.snoc (h : rwI n ra R σ) (hf : kKp rP σ s2) {r : Nat} {P2 : kPs} (hr : σ r = none) (g1 : s2 r = some (rowE (nI (unS (kCon P2))) (hdA P2) (lsA P2))) (g2 : pCh s2 P2) (g3 : (adr P2).Nodup) (g4 : ∀ a ∈ adr P2, ∀ j, j < n → a ∉ adr (R j)) : rwI (n + 1) (upN ra n r) (upN R n P2) s2 := by
  obtain ⟨h1, h2, h3, h4, h5⟩ := h
  have hne : ∀ j, j < n → ra j ≠ r := fun j hj => kNeN (h1 j hj) hr
  refine ⟨fun j hj => ?_, fun j hj => ?_, fun j hj => ?_, fun j1 j2 hj1 hj2 hij a ha hb => ?_, fun j1 j2 hj1 hj2 hij => ?_⟩
  · by_cases q : j = n
    · subst q; rw [upN_eq, upN_eq]; exact g1
    · rw [upN_ne q, upN_ne q]; exact hf _ _ (h1 j (by omega)) (Or.inr rfl)
  · by_cases q : j = n
    · subst q; rw [upN_eq]; exact g2
    · rw [upN_ne q]; exact pCh_kp (h2 j (by omega)) hf
  · by_cases q : j = n
    · subst q; rw [upN_eq]; exact g3
    · rw [upN_ne q]; exact h3 j (by omega)
  · by_cases q : j1 = n
    · subst q
      rw [upN_eq] at ha
      rw [upN_ne (Ne.symm hij)] at hb
      exact g4 a ha j2 (by omega) hb
    · rw [upN_ne q] at ha
      by_cases q2 : j2 = n
      · subst q2
        rw [upN_eq] at hb
        exact g4 a hb j1 (by omega) ha
      · rw [upN_ne q2] at hb
        exact h4 j1 j2 (by omega) (by omega) hij a ha hb
  · by_cases q : j1 = n
    · by_cases q2 : j2 = n
      · rw [q, q2]
      · subst q; rw [upN_eq, upN_ne q2] at hij; exact absurd hij.symm (hne j2 (by omega))
    · by_cases q2 : j2 = n
      · subst q2; rw [upN_eq, upN_ne q] at hij; exact absurd hij (hne j1 (by omega))
      · rw [upN_ne q, upN_ne q2] at hij; exact h5 j1 j2 (by omega) (by omega) hij
/-- the other cells of the object -/
def ar9 (ca : ClassId) (N a n : Nat) (ad9 : Nat → Nat) (σ : kS) : Prop := ∃ f : Nat → Option Nat, σ a = some (.inl (ca, N, .inr (.inr (.inr (.inr f))))) ∧ ∀ i, i < n → f i = some (ad9 i)
theorem ar9.keep {ca : ClassId} {N a n : Nat} {ad9 : Nat → Nat} (h : ar9 ca N a n ad9 σ) (hf : kKp (isAr N) σ s2) : ar9 ca N a n ad9 s2 := by
  obtain ⟨f, h1, h2⟩ := h
  exact ⟨f, hf _ _ h1 rfl, h2⟩
def ce9 (cad ra : Nat → Nat) (K : Nat → kCl) (σ : kS) : Prop := ∀ i, i < 10 → σ (cad i) = some (cE cad ra i (K i))
theorem ce9.keep {cad : Nat → Nat} {K : Nat → kCl} (h : ce9 cad ra K σ) (hf : kKp (fun e => kC e = 0) σ s2) : ce9 cad ra K s2 := fun i hi => hf _ _ (h i hi) rfl
theorem ce9.ne {cad : Nat → Nat} {K : Nat → kCl} (h : ce9 cad ra K σ) {i j : Nat} (hi : i < 10) (hj : j < 10) (hij : cad i = cad j) : i = j := by
  have h1 := h i hi
  rw [hij, h j hj] at h1
  have h2 := List.head_eq_of_cons_eq (congrArg Prod.snd (Sum.inr.inj (Option.some.inj h1)))
  exact ((nI_eq (by omega) (by omega)).mp (Value.int.inj h2)).symm
theorem ce9.up {cad : Nat → Nat} {K : Nat → kCl} (h : ce9 cad ra K σ) {i : Nat} (hi : i < 10) (k : kCl) : ce9 cad ra (upN K i k) (kUp σ (cad i) (cE cad ra i k)) := fun j hj => by
  by_cases q : j = i
  · subst q; rw [upN_eq]; exact kUp_eq
  · rw [upN_ne q]; exact kUp_o (fun e => q (h.ne hj hi e)) (h j hj)
def we9 (n : Nat) (wad cad : Nat → Nat) (W : Nat → kWl) (σ : kS) : Prop := (∀ i, i < n → σ (wad i) = some (wE cad (W i))) ∧ ∀ i j, i < n → j < n → wad i = wad j → i = j
theorem we9.keep {wad cad : Nat → Nat} {W : Nat → kWl} (h : we9 n wad cad W σ) (hf : kKp (fun e => kC e = 8) σ s2) : we9 n wad cad W s2 := ⟨fun i hi => hf _ _ (h.1 i hi) rfl, h.2⟩
theorem we9.up {wad cad : Nat → Nat} {W : Nat → kWl} (h : we9 n wad cad W σ) {i : Nat} (hi : i < n) (w : kWl) : we9 n wad cad (upN W i w) (kUp σ (wad i) (wE cad w)) := ⟨fun j hj => by
  by_cases q : j = i
  · subst q; rw [upN_eq]; exact kUp_eq
  · rw [upN_ne q]; exact kUp_o (fun e => q (h.2 j i hj hi e)) (h.1 j hj), h.2⟩
theorem we9.snoc {wad cad : Nat → Nat} {W : Nat → kWl} (h : we9 n wad cad W σ) (hf : kKp (fun e => kC e = 8) σ s2) {q : Nat} {w : kWl} (hq : σ q = none) (g : s2 q = some (wE cad w)) : we9 (n + 1) (upN wad n q) cad (upN W n w) s2 := by
  have hne : ∀ j, j < n → wad j ≠ q := fun j hj => kNeN (h.1 j hj) hq
  refine ⟨fun j hj => ?_, fun j1 j2 hj1 hj2 hij => ?_⟩
  · by_cases e : j = n
    · subst e; rw [upN_eq, upN_eq]; exact g
    · rw [upN_ne e, upN_ne e]; exact hf _ _ (h.1 j (by omega)) rfl
  · by_cases e : j1 = n
    · by_cases e2 : j2 = n
      · rw [e, e2]
      · subst e; rw [upN_eq, upN_ne e2] at hij; exact absurd hij.symm (hne j2 (by omega))
    · by_cases e2 : j2 = n
      · subst e2; rw [upN_eq, upN_ne e] at hij; exact absurd hij (hne j1 (by omega))
      · rw [upN_ne e, upN_ne e2] at hij; exact h.2 j1 j2 (by omega) (by omega) hij
def lo9 (n : Nat) (lad ra : Nat → Nat) (T : Nat → kLo) (σ : kS) : Prop := (∀ i, i < n → σ (lad i) = some (loE (ra (11 + i)) (T i))) ∧ ∀ i j, i < n → j < n → lad i = lad j → i = j
theorem lo9.keep {lad : Nat → Nat} {T : Nat → kLo} (h : lo9 n lad ra T σ) (hf : kKp (fun e => kC e = 2) σ s2) : lo9 n lad ra T s2 := ⟨fun i hi => hf _ _ (h.1 i hi) rfl, h.2⟩
theorem lo9.up {lad : Nat → Nat} {T : Nat → kLo} (h : lo9 n lad ra T σ) {i : Nat} (hi : i < n) (w : kLo) : lo9 n lad ra (upN T i w) (kUp σ (lad i) (loE (ra (11 + i)) w)) := ⟨fun j hj => by
  by_cases q : j = i
  · subst q; rw [upN_eq]; exact kUp_eq
  · rw [upN_ne q]; exact kUp_o (fun e => q (h.2 j i hj hi e)) (h.1 j hj), h.2⟩
end State
/-- the addresses of one object -/
abbrev kG : Type := (Nat × Nat × Nat × Nat) × (Nat → Nat) × (Nat → Nat) × (Nat → Nat) × (Nat → Nat)
/-- the object's cells stand for s, its journal for J, its tanks for F -/
def cI (D : va_G) (aO : Nat) (cA wA lA aJ : Nat) (cad ra wad lad : Nat → Nat) (R : Nat → kPs) (s : kSt) (J : List kJe) (F : kF) (σ : kS) : Prop :=
  σ aO = some (o9E cA wA lA (ra 10) aJ (cad (sDr s)) s) ∧ ar9 (D.1 15) 10 cA 10 cad σ ∧ ar9 (D.1 16) 6 wA (sWn s) wad σ ∧ ar9 (D.1 17) 40 lA (sLn s) lad σ ∧ ce9 cad ra (sK s) σ ∧ we9 (sWn s) wad cad (sW s) σ ∧ lo9 (sLn s) lad ra (sLo s) σ ∧ rwI (11 + sLn s) ra R σ ∧ (∀ i, i < 11 + sLn s → kCon (R i) = sR s i) ∧ jo9 D aJ J F σ
/-- .. at some addresses -/
def cl9 (D : va_G) (aO : Nat) (s : kSt) (J : List kJe) (F : kF) (σ : kS) : Prop := ∃ (cA wA lA aJ : Nat) (cad ra wad lad : Nat → Nat) (R : Nat → kPs), cI D aO cA wA lA aJ cad ra wad lad R s J F σ
