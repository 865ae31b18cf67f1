/-! ===== the reference's object stands for a state ===== -/
/-- one place of one array changed -/
def mS (mv : Nat → Nat → Int32) (k j : Nat) (x : Int32) : Nat → Nat → Int32 := fun a i => if a = k ∧ i = j then x else mv a i
theorem mS_eq {mv : Nat → Nat → Int32} {k j : Nat} {x : Int32} : mS mv k j x k j = x := if_pos ⟨rfl, rfl⟩
theorem mS_k {mv : Nat → Nat → Int32} {k j a i : Nat} {x : Int32} (h : a ≠ k) : mS mv k j x a i = mv a i := if_neg (fun q => h q.1)
theorem mS_j {mv : Nat → Nat → Int32} {k j a i : Nat} {x : Int32} (h : i ≠ j) : mS mv k j x a i = mv a i := if_neg (fun q => h q.2)
theorem mS_up {mv : Nat → Nat → Int32} {k j : Nat} {x : Int32} : upN mv k (upd (mv k) j x) = mS mv k j x := by
  funext a i
  by_cases h : a = k
  · subst h
    rw [upN_eq]
    by_cases q : i = j
    · subst q; rw [mS_eq]; simp [upd]
    · rw [mS_j q]; simp [upd, q]
  · rw [upN_ne h, mS_k h]
section RefS
variable {D : va_G} {σ s2 : kS} {aM : Nat} {ma : Nat → Nat} {mv : Nat → Nat → Int32} {q : kQc}
theorem mI.s (h : mI D aM ma mv q σ) {k : Nat} (hk : mAr k = true) (h31 : ¬ 31 ≤ k) {i : Nat} (hi : i < 2 ^ 31) (x : Int32) : mI D aM ma (mS mv k i x) q (kUp σ (ma k) (.inl (D.1 11, mLen k, .inl (upd (mv k) (nI i).toNatClampNeg x)))) := by
  have := h.st hk (upd (mv k) i x)
  rw [mS_up, mCl, if_neg h31] at this
  rw [nI_clamp hi]
  exact this
theorem mI.sz (h : mI D aM ma mv q σ) {k : Nat} (hk : mAr k = true) (h31 : 31 ≤ k) {i : Nat} (hi : i < 2 ^ 31) {x y : Int32} (hy : vp_nar .boolean x = y) : mI D aM ma (mS mv k i y) q (kUp σ (ma k) (.inl (D.1 12, mLen k, .inl (upd (mv k) (nI i).toNatClampNeg (vp_nar .boolean x))))) := by
  have := h.st hk (upd (mv k) i y)
  rw [mS_up, mCl, if_pos h31] at this
  rw [nI_clamp hi, hy]
  exact this
end RefS
/-- the cells -/
def mK (K : Nat → kCl) (mv : Nat → Nat → Int32) : Prop := ∀ i, i < 10 → mv 1 i = nI (K i).2.1 ∧ mv 2 i = nI (K i).2.2.1 ∧ mv 3 i = ldI (K i).1 ∧ mv 4 i = (K i).2.2.2.2.2 ∧ mv 5 i = nI (K i).2.2.2.1 ∧ mv 6 i = nI (K i).2.2.2.2.1
def mW (n : Nat) (W : Nat → kWl) (mv : Nat → Nat → Int32) : Prop := ∀ i, i < n → mv 19 i = nI (W i).1 ∧ mv 20 i = nI (W i).2.1 ∧ mv 21 i = nI (W i).2.2
def mT (n : Nat) (T : Nat → kLo) (mv : Nat → Nat → Int32) : Prop := (∀ i, i < n → mv 27 i = nI (T i).1 ∧ mv 28 i = nI (T i).2.1 ∧ mv 29 i = (T i).2.2.1 ∧ mv 30 i = (T i).2.2.2.1 ∧ mv 31 i = (T i).2.2.2.2.1 ∧ mv 32 i = (T i).2.2.2.2.2) ∧ ∀ i, n ≤ i → mv 31 i = 0 ∧ mv 32 i = 0
def mL (kn : Nat) (Lk : Nat → kPs) (mv : Nat → Nat → Int32) : Prop := (∀ r, r < 51 → knR mv r (Lk r)) ∧ (∀ r, r < 51 → ∀ a ∈ adr (Lk r), a < kn) ∧ (∀ r, r < 51 → (adr (Lk r)).Nodup) ∧ ∀ r j, r < 51 → j < 51 → r ≠ j → ∀ a ∈ adr (Lk r), a ∉ adr (Lk j)
def mC (n : Nat) (P : Nat → List kP) (Lk : Nat → kPs) : Prop := (∀ r, r < 11 + n → kCon (Lk r) = P r) ∧ ∀ r, 11 + n ≤ r → r < 51 → Lk r = []
theorem mK.keep {K : Nat → kCl} {mv mv2 : Nat → Nat → Int32} (h : mK K mv) (he : ∀ a i, 1 ≤ a → a ≤ 6 → mv2 a i = mv a i) : mK K mv2 := fun i hi => by
  rw [he 1 i (by decide) (by decide), he 2 i (by decide) (by decide), he 3 i (by decide) (by decide), he 4 i (by decide) (by decide), he 5 i (by decide) (by decide), he 6 i (by decide) (by decide)]
  exact h i hi
theorem mK.up {K : Nat → kCl} {mv mv2 : Nat → Nat → Int32} (h : mK K mv) {j : Nat} {k : kCl} (he : ∀ a i, 1 ≤ a → a ≤ 6 → i ≠ j → mv2 a i = mv a i) (hk : mv2 1 j = nI k.2.1 ∧ mv2 2 j = nI k.2.2.1 ∧ mv2 3 j = ldI k.1 ∧ mv2 4 j = k.2.2.2.2.2 ∧ mv2 5 j = nI k.2.2.2.1 ∧ mv2 6 j = nI k.2.2.2.2.1) : mK (upN K j k) mv2 := fun i hi => by
  by_cases q : i = j
  · subst q; rw [upN_eq]; exact hk
  · rw [upN_ne q, he 1 i (by decide) (by decide) q, he 2 i (by decide) (by decide) q, he 3 i (by decide) (by decide) q, he 4 i (by decide) (by decide) q, he 5 i (by decide) (by decide) q, he 6 i (by decide) (by decide) q]
    exact h i hi
theorem mW.keep {n : Nat} {W : Nat → kWl} {mv mv2 : Nat → Nat → Int32} (h : mW n W mv) (he : ∀ a i, 19 ≤ a → a ≤ 21 → mv2 a i = mv a i) : mW n W mv2 := fun i hi => by
  rw [he 19 i (by decide) (by decide), he 20 i (by decide) (by decide), he 21 i (by decide) (by decide)]
  exact h i hi
theorem mT.keep {n : Nat} {T : Nat → kLo} {mv mv2 : Nat → Nat → Int32} (h : mT n T mv) (he : ∀ a i, 27 ≤ a → a ≤ 32 → mv2 a i = mv a i) : mT n T mv2 := ⟨fun i hi => by
  rw [he 27 i (by decide) (by decide), he 28 i (by decide) (by decide), he 29 i (by decide) (by decide), he 30 i (by decide) (by decide), he 31 i (by decide) (by decide), he 32 i (by decide) (by decide)]
  exact h.1 i hi, fun i hi => by
  rw [he 31 i (by decide) (by decide), he 32 i (by decide) (by decide)]
  exact h.2 i hi⟩
theorem mT.up {n : Nat} {T : Nat → kLo} {mv mv2 : Nat → Nat → Int32} (h : mT n T mv) {j : Nat} (hj : j < n) {k : kLo} (he : ∀ a i, 27 ≤ a → a ≤ 32 → i ≠ j → mv2 a i = mv a i) (hk : mv2 27 j = nI k.1 ∧ mv2 28 j = nI k.2.1 ∧ mv2 29 j = k.2.2.1 ∧ mv2 30 j = k.2.2.2.1 ∧ mv2 31 j = k.2.2.2.2.1 ∧ mv2 32 j = k.2.2.2.2.2) : mT n (upN T j k) mv2 := ⟨fun i hi => by
  by_cases q : i = j
  · subst q; rw [upN_eq]; exact hk
  · rw [upN_ne q, he 27 i (by decide) (by decide) q, he 28 i (by decide) (by decide) q, he 29 i (by decide) (by decide) q, he 30 i (by decide) (by decide) q, he 31 i (by decide) (by decide) q, he 32 i (by decide) (by decide) q]
    exact h.1 i hi, fun i hi => by
  rw [he 31 i (by decide) (by decide) (by omega), he 32 i (by decide) (by decide) (by omega)]
  exact h.2 i hi⟩
theorem knS_keep {mv mv2 : Nat → Nat → Int32} {L : kPs} (h : knS mv L) (he : ∀ a i, 11 ≤ a → a ≤ 16 → i ∈ adr L → mv2 a i = mv a i) : knS mv2 L := by
  induction L with
  | nil => trivial
  | cons b t ih =>
    obtain ⟨j, p⟩ := b
    have hj : j ∈ adr ((j, p) :: t) := by simp [adr]
    refine ⟨(he 11 j (by decide) (by decide) hj).trans h.1, ?_, ih h.2.2 (fun a i h1 h2 h3 => he a i h1 h2 (by simp only [adr, List.map_cons, List.mem_cons] at h3 ⊢; exact Or.inr h3))⟩
    obtain ⟨g1, g2, g3, g4, g5⟩ := h.2.1
    exact ⟨(he 13 j (by decide) (by decide) hj).trans g1, (he 14 j (by decide) (by decide) hj).trans g2, (he 15 j (by decide) (by decide) hj).trans g3, (he 16 j (by decide) (by decide) hj).trans g4, (he 12 j (by decide) (by decide) hj).trans g5⟩
theorem knR.keep {mv mv2 : Nat → Nat → Int32} {r : Nat} {L : kPs} (h : knR mv r L) (he : ∀ a, 7 ≤ a → a ≤ 9 → mv2 a r = mv a r) (hn : ∀ a i, 11 ≤ a → a ≤ 16 → i ∈ adr L → mv2 a i = mv a i) : knR mv2 r L := ⟨(he 7 (by decide) (by decide)).trans h.1, (he 8 (by decide) (by decide)).trans h.2.1, (he 9 (by decide) (by decide)).trans h.2.2.1, knS_keep h.2.2.2 hn⟩
theorem mL.keep {kn : Nat} {Lk : Nat → kPs} {mv mv2 : Nat → Nat → Int32} (h : mL kn Lk mv) (he : ∀ a i, (7 ≤ a ∧ a ≤ 9) ∨ (11 ≤ a ∧ a ≤ 16) → mv2 a i = mv a i) : mL kn Lk mv2 := ⟨fun r hr5 => (h.1 r hr5).keep (fun a h1 h2 => he a r (Or.inl ⟨h1, h2⟩)) (fun a i h1 h2 _ => he a i (Or.inr ⟨h1, h2⟩)), h.2⟩
def qB (z : kSt) (b kn : Nat) (t : Int32) : kQc := ((nI (sNow z), nI kn, nI (sWn z), nI (sDr z), nI (sL1 z), nI (sL2 z), nI (sCen z), nI (sLn z), sFb z), (nL (sFal z), nL (sSpr z), nL b, nL (sPai z), nL (sVil z)), t)
def qZ (z : kSt) (kn : Nat) (t : Int32) : kQc := qB z (fBot z) kn t
def cM (D : va_G) (aM : Nat) (ma : Nat → Nat) (mv : Nat → Nat → Int32) (kn : Nat) (Lk : Nat → kPs) (z : kSt) (t : Int32) (σ : kS) : Prop := mI D aM ma mv (qZ z kn t) σ ∧ kn ≤ 20 * sNow z + sLn z ∧ mK (sK z) mv ∧ mW (sWn z) (sW z) mv ∧ mT (sLn z) (sLo z) mv ∧ mL kn Lk mv ∧ mC (sLn z) (sR z) Lk
def cl10 (D : va_G) (aM : Nat) (ma : Nat → Nat) (z : kSt) (t : Int32) (σ : kS) : Prop := ∃ mv kn Lk, cM D aM ma mv kn Lk z t σ
section RefM
variable {D : va_G} {σ s2 : kS} {aM : Nat} {ma : Nat → Nat} {mv : Nat → Nat → Int32} {kn : Nat} {Lk : Nat → kPs} {z : kSt} {t : Int32}
theorem cM.m (h : cM D aM ma mv kn Lk z t σ) : mI D aM ma mv (qZ z kn t) σ := h.1
theorem cM.o (h : cM D aM ma mv kn Lk z t σ) : σ aM = some (m10E ma (qZ z kn t)) := h.1.1
theorem cM.i (h : cM D aM ma mv kn Lk z t σ) {k : Nat} (hk : mAr k = true) (h31 : ¬ 31 ≤ k) : σ (ma k) = some (.inl (D.1 11, mLen k, .inl (mv k))) := h.1.i hk h31
theorem cM.zb (h : cM D aM ma mv kn Lk z t σ) {k : Nat} (hk : mAr k = true) (h31 : 31 ≤ k) : σ (ma k) = some (.inl (D.1 12, mLen k, .inl (mv k))) := h.1.z hk h31
theorem cM.nb (h : cM D aM ma mv kn Lk z t σ) : kn ≤ 20 * sNow z + sLn z := h.2.1
theorem cM.K (h : cM D aM ma mv kn Lk z t σ) : mK (sK z) mv := h.2.2.1
theorem cM.W (h : cM D aM ma mv kn Lk z t σ) : mW (sWn z) (sW z) mv := h.2.2.2.1
theorem cM.T (h : cM D aM ma mv kn Lk z t σ) : mT (sLn z) (sLo z) mv := h.2.2.2.2.1
theorem cM.L (h : cM D aM ma mv kn Lk z t σ) : mL kn Lk mv := h.2.2.2.2.2.1
theorem cM.C (h : cM D aM ma mv kn Lk z t σ) : mC (sLn z) (sR z) Lk := h.2.2.2.2.2.2
theorem cM.can (h : cM D aM ma mv kn Lk z t σ) (t2 : Int32) : cM D aM ma mv kn Lk z t2 (kUp σ aM (m10E ma (setT (qZ z kn t) t2))) := ⟨h.1.up (qZ z kn t2), h.2⟩
theorem cM.cl (h : cM D aM ma mv kn Lk z t σ) : cl10 D aM ma z t σ := ⟨mv, kn, Lk, h⟩
/-- the row of a cell or of a lot -/
theorem cM.un (h : cM D aM ma mv kn Lk z t σ) {r : Nat} (hr5 : r < 11 + sLn z) (h51 : r < 51) : mv 9 r = nI (unS (sR z r)) := by
  rw [← h.C.1 r hr5]
  exact (h.L.1 r h51).2.2.1
theorem cM.cell (h : cM D aM ma mv kn Lk z t σ) {mv2 : Nat → Nat → Int32} {j : Nat} {k : kCl} (hm : mI D aM ma mv2 (qZ z kn t) s2) (he : ∀ a i, ¬ (1 ≤ a ∧ a ≤ 6) ∨ i ≠ j → mv2 a i = mv a i) (hk : mv2 1 j = nI k.2.1 ∧ mv2 2 j = nI k.2.2.1 ∧ mv2 3 j = ldI k.1 ∧ mv2 4 j = k.2.2.2.2.2 ∧ mv2 5 j = nI k.2.2.2.1 ∧ mv2 6 j = nI k.2.2.2.2.1) : cM D aM ma mv2 kn Lk (z.1, upN (sK z) j k, z.2.2) t s2 := ⟨hm, h.nb, h.K.up (fun a i _ _ hi => he a i (Or.inr hi)) hk, h.W.keep (fun a i h1 h2 => he a i (Or.inl (by omega))), h.T.keep (fun a i h1 h2 => he a i (Or.inl (by omega))), h.L.keep (fun a i h1 => he a i (Or.inl (by omega))), h.C⟩
theorem cM.lot (h : cM D aM ma mv kn Lk z t σ) {mv2 : Nat → Nat → Int32} {j : Nat} (hj : j < sLn z) {k : kLo} (hm : mI D aM ma mv2 (qZ z kn t) s2) (he : ∀ a i, ¬ (27 ≤ a ∧ a ≤ 32) ∨ i ≠ j → mv2 a i = mv a i) (hk : mv2 27 j = nI k.1 ∧ mv2 28 j = nI k.2.1 ∧ mv2 29 j = k.2.2.1 ∧ mv2 30 j = k.2.2.2.1 ∧ mv2 31 j = k.2.2.2.2.1 ∧ mv2 32 j = k.2.2.2.2.2) : cM D aM ma mv2 kn Lk (z.1, z.2.1, z.2.2.1, z.2.2.2.1, (sLn z, upN (sLo z) j k)) t s2 := ⟨hm, h.nb, h.K.keep (fun a i h1 h2 => he a i (Or.inl (by omega))), h.W.keep (fun a i h1 h2 => he a i (Or.inl (by omega))), h.T.up hj (fun a i _ _ hi => he a i (Or.inr hi)) hk, h.L.keep (fun a i h1 => he a i (Or.inl (by omega))), h.C⟩
end RefM
def tCd (a b c : Int32) (E : String) : Int32 := if E = eI then a else if E = eA then b else c
theorem tCd_I {a b c : Int32} : tCd a b c eI = a := if_pos rfl
theorem tCd_A {a b c : Int32} : tCd a b c eA = b := (if_neg (by decide)).trans (if_pos rfl)
theorem tCd_S {a b c : Int32} : tCd a b c eS = c := (if_neg (by decide)).trans (if_neg (by decide))
/-- what a refused call answers -/
def mZv : Option Value → Option Value
  | some (.int _) => some (.int 0)
  | some (.long _) => some (.long 0)
  | some (.float _) => some (.float FP.fconst0)
  | v => v
/-- what a call of the reference leaves -/
def mPo (D : va_G) (aM : Nat) (ma : Nat → Nat) (z : kSt) (g : Option String) (r : Option Value) (n : kSt) (tt : String → Int32) (σ : kS) (v : Option Value) (s2 : kS) : Prop := (g = none ∧ v = r ∧ cl10 D aM ma n 0 s2 ∨ ∃ E, g = some E ∧ v = mZv r ∧ cl10 D aM ma z (tt E) s2) ∧ kOut (mOwn aM ma) σ s2
theorem mPo.ok {D : va_G} {aM : Nat} {ma : Nat → Nat} {z : kSt} {g : Option String} {r : Option Value} {n : kSt} {tt : String → Int32} {σ : kS} {v : Option Value} {s2 : kS} (hg : g = none) (hv : v = r) (h : cl10 D aM ma n 0 s2) (hf : kOut (mOwn aM ma) σ s2) : mPo D aM ma z g r n tt σ v s2 := ⟨Or.inl ⟨hg, hv, h⟩, hf⟩
theorem mPo.no {D : va_G} {aM : Nat} {ma : Nat → Nat} {z : kSt} {g : Option String} {r : Option Value} {n : kSt} {tt : String → Int32} {σ : kS} {v : Option Value} {mv : Nat → Nat → Int32} {kn : Nat} {Lk : Nat → kPs} {t t2 : Int32} {E : String} (h : cM D aM ma mv kn Lk z t σ) (hg : g = some E) (ht : tt E = t2) (hv : v = mZv r) : mPo D aM ma z g r n tt σ v (kUp σ aM (m10E ma (setT (qZ z kn t) t2))) := ⟨Or.inr ⟨E, hg, hv, by rw [ht]; exact (h.can t2).cl⟩, kOut.up mOwn.o⟩
theorem bI_p {P : Prop} [Decidable P] (h : ¬ bI (decide P) = 0) : P := by
  cases hd : decide P with
  | true => exact of_decide_eq_true hd
  | false => rw [hd] at h; exact absurd rfl h
theorem bI_q {P : Prop} [Decidable P] (h : bI (decide P) = 0) : ¬ P := fun q => by
  rw [decide_eq_true q] at h
  exact absurd h (by decide)
theorem in_ix {n : Nat} {x m : Int32} (hn : n < 2 ^ 31) (hm : m = nI n - 1) : (0 ≤ x ∧ x ≤ m) ↔ (0 ≤ x ∧ x < nI n) := by
  subst hm
  have e : (nI n - 1).toInt = (n : Int) - 1 := by
    rw [Int32.toInt_sub, nI_toInt hn, show (1 : Int32).toInt = 1 from rfl]
    exact Int.bmod_eq_of_le (by omega) (by omega)
  rw [Int32.le_iff_toInt_le (x := x), Int32.lt_iff_toInt_lt, e, nI_toInt hn]
  constructor
  · exact fun h => ⟨h.1, by omega⟩
  · exact fun h => ⟨h.1, by omega⟩
theorem in_p {n : Nat} {x m : Int32} (hn : n < 2 ^ 31) (hm : m = nI n - 1) (h : 0 ≤ x ∧ x ≤ m) : ∃ i, i < n ∧ x = nI i ∧ 0 ≤ x ∧ x < nI n := by
  have h2 := (in_ix hn hm).mp h
  obtain ⟨i, hi, e⟩ := ix_of hn h2
  exact ⟨i, hi, e, h2⟩
theorem in_n {n : Nat} {x m : Int32} (hn : n < 2 ^ 31) (hm : m = nI n - 1) (h : ¬ (0 ≤ x ∧ x ≤ m)) : ¬ (0 ≤ x ∧ x < nI n) := fun q => h ((in_ix hn hm).mpr q)
theorem i9_10 {c : Int32} (h : 0 ≤ c ∧ c ≤ 9) : ∃ i, i < 10 ∧ c = nI i := by
  obtain ⟨i, hi, e, -⟩ := in_p (n := 10) (by decide) rfl h
  exact ⟨i, hi, e⟩
theorem no10 {c : Int32} (h : ¬ (0 ≤ c ∧ c ≤ 9)) : ¬ (0 ≤ c ∧ c < 10) := in_n (n := 10) (by decide) rfl h
theorem mS_c {mv : Nat → Nat → Int32} {k j : Nat} {x : Int32} {lo hi : Nat} (hk : lo ≤ k ∧ k ≤ hi) : ∀ a b, ¬ (lo ≤ a ∧ a ≤ hi) ∨ b ≠ j → mS mv k j x a b = mv a b := fun a b q => q.elim (fun q => mS_k (by omega)) (fun q => mS_j q)
theorem rg_p {x lo hi : Int32} (h : ¬ bI (decide (lo ≤ x ∧ x ≤ hi)) = 0) : inR x lo hi := bI_p (P := lo ≤ x ∧ x ≤ hi) h
theorem rg_q {x lo hi : Int32} (h : bI (decide (lo ≤ x ∧ x ≤ hi)) = 0) : ¬ inR x lo hi := bI_q (P := lo ≤ x ∧ x ≤ hi) h
