/-! ===== what a lot tells, as the law asks ===== -/
section LawK
variable {z : kSt} {J : List kJe} {F : kF}
theorem jR.len (h : jR z J) : J.length ≤ 11 * sNow z + sLn z := h.2.2.2.2
/-- the pieces of a question anew -/
theorem fa_cnt (hs : sOk z) (h : jR z J) (hc : cnt F ≤ 3400) {p0 p1 p2 : Int32} : faC z p0 p1 p2 J F ≤ 3400 ∧ (gFrom z p0 p1 = none → cnt (faF p0 p1 p2 J F) ≤ 3400 ∧ cnt (faF p0 p1 p2 J F) = cnt F + faC z p0 p1 p2 J F) := by
  unfold faC
  by_cases hg : gFrom z p0 p1 = none
  · rw [if_pos hg]
    have h40 := hs.2.2.2.1.1
    have hn3 := hs.1.1
    have hlen := h.len
    obtain ⟨g1, ga⟩ := gIx_i hg
    obtain ⟨g2, -⟩ := gIx_i ga
    obtain ⟨i, hi, ei⟩ := ix_of (n := sLn z) (by omega) g1
    obtain ⟨c1, hc1, ec⟩ := ix_of (n := 10) (by decide) g2
    have hcn : cN p1 < 10 := by rw [ec, cN_nI (by omega)]; exact hc1
    have hin : cN p0 < sLn z := by rw [ei, cN_nI (by omega)]; exact hi
    obtain ⟨a1, a2⟩ := fol_cnt (fc := cN p1) (tg := 11 + cN p0) (yI := p2) (J := J) (F := emF F) (k := 0) hcn (jR_ok h (cN p0) (cN p1) hin hcn) (Nat.le_of_eq cnt_em.2)
    rw [cnt_em.1] at a1 a2
    have a3 : cnt (faF p0 p1 p2 J F) = cnt F + (fol (cN p1) p2 (11 + cN p0) J (emF F)).2 := a1
    have a4 : cnt (faF p0 p1 p2 J F) ≤ cnt F ∨ cnt (faF p0 p1 p2 J F) ≤ 0 + J.length := a2
    exact ⟨by omega, fun _ => ⟨by omega, a3⟩⟩
  · rw [if_neg hg]
    exact ⟨Nat.zero_le _, fun q => absurd q hg⟩
theorem fa_val (hs : sOk z) (h : jR z J) {p0 p1 p2 : Int32} (hg : gFrom z p0 p1 = none) : nI (faV z p0 p1 p2 J F) = rFrom z p0 p1 p2 := by
  have h40 := hs.2.2.2.1.1
  obtain ⟨g1, ga⟩ := gIx_i hg
  obtain ⟨g2, -⟩ := gIx_i ga
  obtain ⟨i, hi, ei⟩ := ix_of (n := sLn z) (by omega) g1
  obtain ⟨c1, hc1, ec⟩ := ix_of (n := 10) (by decide) g2
  rw [rFrom, ei, ec, jR_val h hi h40 hc1, cN_nI (by omega)]
end LawK
theorem bit_l (x : Int32) {j : Nat} (hj : j < 8) : (x &&& bitI (nI j) = 0) ↔ x.toBitVec.getLsbD j = false := by
  have e2 : (x &&& bitI (nI j)).toBitVec = x.toBitVec &&& (1#32 <<< j) := by
    have : j = 0 ∨ j = 1 ∨ j = 2 ∨ j = 3 ∨ j = 4 ∨ j = 5 ∨ j = 6 ∨ j = 7 := by omega
    rcases this with q | q | q | q | q | q | q | q <;> subst q <;> rfl
  rw [← Int32.toBitVec_inj, e2, (BitVec.twoPow_eq 32 j).symm, BitVec.and_twoPow]
  cases hx : x.toBitVec.getLsbD j with
  | false => simp
  | true =>
    simp only [if_true, Bool.true_eq_false, iff_false]
    intro h
    have h3 := congrArg (fun b : BitVec 32 => b.getLsbD j) h
    simp [BitVec.getLsbD_twoPow, show j < 32 by omega] at h3
theorem or_bit (x y : Int32) {j : Nat} (hj : j < 8) : ((x ||| y) &&& bitI (nI j) = 0) ↔ (x &&& bitI (nI j) = 0 ∧ y &&& bitI (nI j) = 0) := by
  rw [bit_l _ hj, bit_l _ hj, bit_l _ hj, Int32.toBitVec_or, BitVec.getLsbD_or, Bool.or_eq_false_iff]
theorem co_bit {j : Nat} (hj : j < 8) (P : List kP) : ∀ x : Int32, (coS P x &&& bitI (nI j) = 0) ↔ (x &&& bitI (nI j) = 0 ∧ ∀ q ∈ P, q.2.2.2.1 &&& bitI (nI j) = 0) := by
  induction P with
  | nil => intro x; exact ⟨fun h => ⟨h, fun q hq => (by cases hq)⟩, fun h => h.1⟩
  | cons p t ih =>
    intro x
    show (coS t (x ||| p.2.2.2.1) &&& bitI (nI j) = 0) ↔ _
    rw [ih, or_bit _ _ hj, List.forall_mem_cons, and_assoc]
theorem zero_bit {j : Nat} (hj : j < 8) : (0 : Int32) &&& bitI (nI j) = 0 := by rw [bit_l _ hj]; simp
theorem eaC_some {bit : Int32} {P : List kP} {f : Option kP} {q : kP} (h : eaC bit P f = some q) : (q ∈ P ∧ ¬ q.2.2.2.1 &&& bit = 0) ∨ f = some q := by
  induction P generalizing f with
  | nil => exact Or.inr h
  | cons p t ih =>
    simp only [eaC] at h
    rcases ih h with h1 | h1
    · exact Or.inl ⟨List.mem_cons_of_mem _ h1.1, h1.2⟩
    · split at h1
      · exact Or.inr h1
      · rename_i hp
        split at h1
        · cases h1; exact Or.inl ⟨List.mem_cons_self, hp⟩
        · split at h1
          · cases h1; exact Or.inl ⟨List.mem_cons_self, hp⟩
          · exact Or.inr h1
theorem eaC_none {bit : Int32} {P : List kP} {f : Option kP} (h : eaC bit P f = none) : f = none ∧ ∀ q ∈ P, q.2.2.2.1 &&& bit = 0 := by
  induction P generalizing f with
  | nil => exact ⟨h, fun q hq => (by cases hq)⟩
  | cons p t ih =>
    simp only [eaC] at h
    obtain ⟨h1, h2⟩ := ih h
    split at h1
    · rename_i hp
      exact ⟨h1, List.forall_mem_cons.mpr ⟨hp, h2⟩⟩
    · split at h1
      · cases h1
      · split at h1 <;> cases h1
theorem frS_pos {P : List kP} {q : kP} (hq : q ∈ P) (h1 : 1 ≤ kUn q) : 1 ≤ frS (nI q.1) (nI q.2.1) P := by
  induction P with
  | nil => cases hq
  | cons p t ih =>
    simp only [frS]
    rcases List.mem_cons.mp hq with e | e
    · subst e
      rw [if_pos ⟨rfl, rfl⟩]
      omega
    · have := ih e
      omega
theorem frS_le {c y : Int32} {P : List kP} : frS c y P ≤ unS P := by
  induction P with
  | nil => exact Nat.le_refl _
  | cons p t ih =>
    simp only [frS, unS]
    split <;> omega
/-- the latest year, the earliest -/
def mxY : List kP → Nat
  | [] => 0
  | q :: t => maS t q.2.1
def mnY : List kP → Nat
  | [] => 0
  | q :: t => miS t q.2.1
theorem maS_s (t : List kP) : ∀ x, x ≤ maS t x ∧ (∀ q ∈ t, q.2.1 ≤ maS t x) ∧ (maS t x = x ∨ ∃ q ∈ t, maS t x = q.2.1) := by
  induction t with
  | nil => intro x; exact ⟨Nat.le_refl _, fun q hq => (by cases hq), Or.inl rfl⟩
  | cons p t ih =>
    intro x
    obtain ⟨h1, h2, h3⟩ := ih (if x < p.2.1 then p.2.1 else x)
    simp only [maS]
    by_cases hx : x < p.2.1
    · rw [if_pos hx] at h1 h2 h3 ⊢
      refine ⟨by omega, List.forall_mem_cons.mpr ⟨h1, h2⟩, Or.inr ?_⟩
      rcases h3 with h3 | ⟨q, hq, h3⟩
      · exact ⟨p, List.mem_cons_self, h3⟩
      · exact ⟨q, List.mem_cons_of_mem _ hq, h3⟩
    · rw [if_neg hx] at h1 h2 h3 ⊢
      refine ⟨h1, List.forall_mem_cons.mpr ⟨by omega, h2⟩, ?_⟩
      rcases h3 with h3 | ⟨q, hq, h3⟩
      · exact Or.inl h3
      · exact Or.inr ⟨q, List.mem_cons_of_mem _ hq, h3⟩
theorem miS_s (t : List kP) : ∀ x, miS t x ≤ x ∧ (∀ q ∈ t, miS t x ≤ q.2.1) ∧ (miS t x = x ∨ ∃ q ∈ t, miS t x = q.2.1) := by
  induction t with
  | nil => intro x; exact ⟨Nat.le_refl _, fun q hq => (by cases hq), Or.inl rfl⟩
  | cons p t ih =>
    intro x
    obtain ⟨h1, h2, h3⟩ := ih (if p.2.1 < x then p.2.1 else x)
    simp only [miS]
    by_cases hx : p.2.1 < x
    · rw [if_pos hx] at h1 h2 h3 ⊢
      refine ⟨by omega, List.forall_mem_cons.mpr ⟨h1, h2⟩, Or.inr ?_⟩
      rcases h3 with h3 | ⟨q, hq, h3⟩
      · exact ⟨p, List.mem_cons_self, h3⟩
      · exact ⟨q, List.mem_cons_of_mem _ hq, h3⟩
    · rw [if_neg hx] at h1 h2 h3 ⊢
      refine ⟨h1, List.forall_mem_cons.mpr ⟨by omega, h2⟩, ?_⟩
      rcases h3 with h3 | ⟨q, hq, h3⟩
      · exact Or.inl h3
      · exact Or.inr ⟨q, List.mem_cons_of_mem _ hq, h3⟩
theorem yr_s {P : List kP} {b : Nat} (hP : P ≠ []) (h : ∀ q ∈ P, q.2.1 < b) : mxY P < b ∧ mnY P ≤ mxY P ∧ (∀ q ∈ P, mnY P ≤ q.2.1 ∧ q.2.1 ≤ mxY P) ∧ yoI P = nI (mxY P) ∧ olI P = nI (mnY P) := by
  cases P with
  | nil => exact absurd rfl hP
  | cons p t =>
    obtain ⟨a1, a2, a3⟩ := maS_s t p.2.1
    obtain ⟨b1, b2, b3⟩ := miS_s t p.2.1
    refine ⟨?_, Nat.le_trans b1 a1, List.forall_mem_cons.mpr ⟨⟨b1, a1⟩, fun q hq => ⟨b2 q hq, a2 q hq⟩⟩, rfl, rfl⟩
    show maS t p.2.1 < b
    rcases a3 with a3 | ⟨q, hq, a3⟩
    · rw [a3]; exact h p List.mem_cons_self
    · rw [a3]; exact h q (List.mem_cons_of_mem _ hq)
theorem ag_s {P : List kP} {b lo hi : Nat} (h : ∀ q ∈ P, lo ≤ q.2.1 ∧ q.2.1 ≤ hi) : (b - hi) * unS P ≤ agS b P ∧ agS b P ≤ (b - lo) * unS P := by
  induction P with
  | nil => exact ⟨Nat.le_refl _, Nat.le_refl _⟩
  | cons p t ih =>
    have hp := h p List.mem_cons_self
    obtain ⟨i1, i2⟩ := ih (fun q hq => h q (List.mem_cons_of_mem _ hq))
    have e1 : kUn p * (b - hi) ≤ kUn p * (b - p.2.1) := Nat.mul_le_mul_left _ (by omega)
    have e2 : kUn p * (b - p.2.1) ≤ kUn p * (b - lo) := Nat.mul_le_mul_left _ (by omega)
    simp only [agS, unS]
    rw [Nat.mul_add, Nat.mul_add, Nat.mul_comm (b - hi), Nat.mul_comm (b - lo)]
    omega
theorem ni_s {P : List kP} (h : ∀ q ∈ P, 1 ≤ q.2.2.1) : unS P ≤ niS P := by
  induction P with
  | nil => exact Nat.le_refl _
  | cons p t ih =>
    have hp := h p List.mem_cons_self
    have i1 := ih (fun q hq => h q (List.mem_cons_of_mem _ hq))
    have e1 : kUn p * 1 ≤ kUn p * p.2.2.1 := Nat.mul_le_mul_left _ hp
    simp only [niS, unS]
    omega
theorem un_ne {P : List kP} (h : 1 ≤ unS P) : P ≠ [] := fun q => by subst q; exact absurd h (by decide)
/-- the float of the mean age is between the least and the greatest age -/
theorem age_s {P : List kP} {b : Nat} (h1 : 1 ≤ unS P) (h2 : unS P ≤ 1000) (hb : b ≤ 300) (h : ∀ q ∈ P, q.2.1 < b) : ¬ Op.cmpValue (FP.fcmp (FP.fdiv (FP.i2f (nI (agS b P))) (FP.i2f (nI (unS P)))) (FP.i2f (nI (b - mxY P)))) .l < 0 ∧ ¬ 0 < Op.cmpValue (FP.fcmp (FP.fdiv (FP.i2f (nI (agS b P))) (FP.i2f (nI (unS P)))) (FP.i2f (nI (b - mnY P)))) .g := by
  obtain ⟨y1, y2, y3, -, -⟩ := yr_s (un_ne h1) h
  obtain ⟨g1, g2⟩ := ag_s (b := b) y3
  have g3 := agS_le (P := P) (y := 0) hb
  have g4 : 1 * unS P ≤ (b - mxY P) * unS P := Nat.mul_le_mul_right _ (by omega)
  exact ⟨cmp_lo ((fl_quo (by omega) (by omega) h1 (by omega) (by omega) (by omega)).1 g1), cmp_hi ((fl_quo (by omega) (by omega) h1 (by omega) (by omega) (by omega)).2 g2)⟩
/-- the tanks behind a lot's questions anew -/
def lotF (z : kSt) (J : List kJe) (i : Nat) (F : kF) : Nat → kF
  | 0 => F
  | j + 1 => match eaC (bitI (nI j)) (sR z (11 + i)) none with
    | none => lotF z J i F j
    | some q => faF (nI i) (nI q.1) (nI q.2.1) J (lotF z J i F j)
theorem lotF_none {z : kSt} {J : List kJe} {i j : Nat} {F : kF} (h : eaC (bitI (nI j)) (sR z (11 + i)) none = none) : lotF z J i F (j + 1) = lotF z J i F j := by simp only [lotF, h]
theorem lotF_some {z : kSt} {J : List kJe} {i j : Nat} {F : kF} {q : kP} (h : eaC (bitI (nI j)) (sR z (11 + i)) none = some q) : lotF z J i F (j + 1) = faF (nI i) (nI q.1) (nI q.2.1) J (lotF z J i F j) := by simp only [lotF, h]
theorem lotF_cnt {z : kSt} {J : List kJe} {i : Nat} {F : kF} (hs : sOk z) (hJ : jR z J) (hi : i < sLn z) (hc : cnt F ≤ 3400) (j : Nat) : cnt F ≤ cnt (lotF z J i F j) ∧ cnt (lotF z J i F j) ≤ 3400 := by
  induction j with
  | zero => exact ⟨Nat.le_refl _, hc⟩
  | succ j ih =>
    cases he : eaC (bitI (nI j)) (sR z (11 + i)) none with
    | none => rw [lotF_none he]; exact ih
    | some q =>
      rw [lotF_some he]
      have hq : q ∈ sR z (11 + i) := by
        rcases eaC_some he with h | h
        · exact h.1
        · cases h
      have hp := hs.pk (i := 11 + i) (by omega) q hq
      obtain ⟨-, a2⟩ := fa_cnt (p0 := nI i) (p1 := nI q.1) (p2 := nI q.2.1) hs hJ ih.2
      obtain ⟨a3, a4⟩ := a2 (gFr hi hs.2.2.2.1.1 hp.1)
      omega
theorem lotF_mono {z : kSt} {J : List kJe} {i : Nat} {F : kF} (hs : sOk z) (hJ : jR z J) (hi : i < sLn z) (hc : cnt F ≤ 3400) (j d : Nat) : cnt (lotF z J i F j) ≤ cnt (lotF z J i F (j + d)) := by
  induction d with
  | zero => exact Nat.le_refl _
  | succ d ihd =>
    refine Nat.le_trans ihd ?_
    show cnt (lotF z J i F (j + d)) ≤ cnt (lotF z J i F (j + d + 1))
    have hh9 := lotF_cnt (F := F) hs hJ hi hc (j + d)
    cases he : eaC (bitI (nI (j + d))) (sR z (11 + i)) none with
    | none => rw [lotF_none he]; exact Nat.le_refl _
    | some q =>
      have hq : q ∈ sR z (11 + i) := by
        rcases eaC_some he with h | h
        · exact h.1
        · cases h
      have hp := hs.pk (i := 11 + i) (by omega) q hq
      rw [lotF_some he]
      obtain ⟨-, a2⟩ := fa_cnt (p0 := nI i) (p1 := nI q.1) (p2 := nI q.2.1) hs hJ hh9.2
      obtain ⟨a3, a4⟩ := a2 (gFr hi hs.2.2.2.1.1 hp.1)
      omega
