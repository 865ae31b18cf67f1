theorem hR_congr {P P2 : Nat → List kP} {J : List kJe} {b : Nat → Nat} (h : hR P J b) (hP : ∀ c, c < 10 → P2 c = P c) : hR P2 J b := fun fc sp yI hfc => ⟨(h fc sp yI hfc).1, fun c hc => by rw [hP c hc]; exact (h fc sp yI hfc).2.1 c hc, (h fc sp yI hfc).2.2⟩
theorem jAdd_ex (J : List kJe) (u : Nat) (e : kJe) : ∃ E, jAdd J u e = J ++ E ∧ (∀ x ∈ E, x = e) ∧ E.length ≤ 1 := by
  unfold jAdd
  split
  · exact ⟨[], by simp, fun x hx => (by cases hx), Nat.zero_le _⟩
  · exact ⟨[e], rfl, fun x hx => (by simpa using hx), Nat.le_refl _⟩
theorem ldJ_ex {K : Nat → kCl} {P : Nat → List kP} {J : List kJe} (hK : ∀ i d, i < 10 → (K i).1 = some d → d < i) {n : Nat} (hn : n ≤ 10) : ∃ E, ldJ K P J n = J ++ E ∧ (∀ e ∈ E, dst e < 11) ∧ E.length ≤ n := by
  induction n with
  | zero => exact ⟨[], by simp [ldJ], fun x hx => (by cases hx), by decide⟩
  | succ n ih =>
    obtain ⟨E, e1, e2, e3⟩ := ih (by omega)
    obtain ⟨d1, d2⟩ := ldD_ok (hK n · (by omega)) (show n < 10 by omega)
    obtain ⟨E2, x1, x2, x3⟩ := jAdd_ex (J ++ E) (ldW K (ldN K P n) n) (.inr (n, ldD K n, ldW K (ldN K P n) n))
    refine ⟨E ++ E2, by rw [ldJ, e1, x1, List.append_assoc], fun x hx => ?_, by rw [List.length_append]; omega⟩
    rcases List.mem_append.mp hx with q | q
    · exact e2 x q
    · rw [x2 x q]; exact d1
theorem oneR_hi {z : kSt} {r i : Nat} (hs : sOk z) (hi : 11 ≤ i) : oneR z r i = sR z i := by
  have hK : ∀ i d, i < 10 → (sK z i).1 = some d → d < i := fun i d hi => (hs.2.1 i hi).1 d
  unfold oneR
  split
  · exact ldN_hi hK (by decide) hi
  · rw [raP, if_neg (by omega)]; exact ldN_hi hK (by decide) hi
/-- the journal's invariant -/
def jR (z : kSt) (J : List kJe) : Prop := hR (sR z) J (fun _ => 3000000 * sNow z + 1000 * sLn z) ∧ (∀ e ∈ J, dst e < 11 + sLn z) ∧ (∀ i, i < sLn z → ∃ e ∈ J, dst e = 11 + i) ∧ (∀ (fc sp i : Nat) (yI : Int32), fc < 10 → i < sLn z → (fol fc yI (11 + i) J (kFs sp)).1 = frS (nI fc) yI (sR z (11 + i))) ∧ J.length ≤ 11 * sNow z + sLn z
theorem jR_st0 : jR st0 [] := by
  refine ⟨fun fc sp yI hfc => ⟨trivial, fun c hc => ⟨rfl, rfl⟩, fun c hc => Nat.zero_le _⟩, fun e he => (by cases he), fun i hi => absurd hi (Nat.not_lt_zero i), fun fc sp i yI _ hi => absurd hi (Nat.not_lt_zero i), Nat.zero_le _⟩
theorem oneJ_ex {z : kSt} {r : Nat} {J : List kJe} (hs : sOk z) : ∃ E, oneJ z r J = J ++ E ∧ (∀ e ∈ E, dst e < 11) ∧ E.length ≤ 11 := by
  have hK : ∀ i d, i < 10 → (sK z i).1 = some d → d < i := fun i d hi => (hs.2.1 i hi).1 d
  obtain ⟨E, e1, e2, e3⟩ := ldJ_ex (P := sR z) (J := J) hK (n := 10) (by decide)
  unfold oneJ
  split
  · exact ⟨E, e1, e2, by omega⟩
  · refine ⟨E ++ [.inl (sNow z, r)], by rw [e1, List.append_assoc], fun x hx => ?_, by rw [List.length_append]; simp only [List.length_cons, List.length_nil]; omega⟩
    rcases List.mem_append.mp hx with q | q
    · exact e2 x q
    · have : x = .inl (sNow z, r) := by simpa using q
      rw [this]; show 0 < 11; decide
theorem jR_one {z : kSt} {r : Nat} {J : List kJe} (hs : sOk z) (hn : sNow z < 300) (h : jR z J) : jR (oneS z r) (oneJ z r J) := by
  have hK : ∀ i d, i < 10 → (sK z i).1 = some d → d < i := fun i d hi => (hs.2.1 i hi).1 d
  obtain ⟨h1, h2, h3, h4, h5⟩ := h
  have eL : sLn (oneS z r) = sLn z := by unfold oneS rainO; split <;> rfl
  have hl40 := hs.2.2.2.1.1
  obtain ⟨E, e1, e2, e3⟩ := oneJ_ex (r := r) (J := J) hs
  refine ⟨?_, fun e he => ?_, fun i hi => ?_, fun fc sp i yI hfc hi => ?_, ?_⟩
  · rw [oneR_eq, oneS_now, eL]
    have hld := hR_lead (y := sNow z) (B := 3000000 * sNow z + 1000 * sLn z) hK hs.2.2.2.2.1 (by have := hs.2.2.2.2.2.1; omega) (by omega) h1 (n := 10) (by decide)
    have hld2 := hR_mono (b2 := fun _ => 3000000 * (sNow z + 1) + 1000 * sLn z) hld (fun c hc => by simp only [hc, if_true]; omega)
    unfold oneJ oneR
    split
    · exact hld2
    · exact hR_rain hld2 (fun c hc => ⟨_, _, by rw [raP, if_pos hc]; rfl⟩)
  · rw [e1] at he
    rw [eL]
    rcases List.mem_append.mp he with q | q
    · exact h2 e q
    · have := e2 e q; omega
  · rw [eL] at hi
    obtain ⟨e, x1, x2⟩ := h3 i hi
    exact ⟨e, by rw [e1]; exact List.mem_append_left _ x1, x2⟩
  · rw [eL] at hi
    rw [e1, fol_in (by omega) (h3 i hi), oneR_eq, oneR_hi hs (by omega)]
    exact h4 fc sp i yI hfc hi
  · rw [e1, List.length_append, oneS_now, eL]
    omega
theorem jR_pass {z : kSt} {r n : Nat} {J : List kJe} (hs : sOk z) (hn : sNow z + n ≤ 300) (hr : r ≤ 1000) (h : jR z J) : jR (passS r n z) (passJ r n z J) := by
  induction n with
  | zero => exact h
  | succ n ih => exact jR_one (passS_ok hs (by omega) hr) (by rw [passS_now]; omega) (ih (by omega))
theorem jR_bot {z : kSt} {i t : Nat} {J : List kJe} (hs : sOk z) (hi : i < sWn z) (ht0 : 0 < t) (ht : t ≤ 1000) (htu : t ≤ unS (sR z (sW z i).1)) (hl : sLn z < 40) (h : jR z J) : jR (botS z i t) (J ++ [.inr ((sW z i).1, 11 + sLn z, t)]) := by
  obtain ⟨h1, h2, h3, h4, h5⟩ := h
  have hc := (hs.2.2.1.2 i hi).1
  have hnow := hs.1.1
  have hun := hs.un (i := (sW z i).1) (by omega)
  have hpk := hs.pk (i := (sW z i).1) (by omega)
  have h1u : ∀ q ∈ sR z (sW z i).1, 1 ≤ kUn q := fun q hq => (hpk q hq).2.2.2
  have eR : ∀ c, sR (botS z i t) c = upN (upN (sR z) (sW z i).1 (tkS (sR z (sW z i).1) t).2) (11 + sLn z) (tkS (sR z (sW z i).1) t).1 c := fun _ => rfl
  have eN : sNow (botS z i t) = sNow z := rfl
  have eL : sLn (botS z i t) = sLn z + 1 := rfl
  refine ⟨?_, fun e he => ?_, fun j hj => ?_, fun fc sp j yI hfc hj => ?_, ?_⟩
  · have hm := hR_move (f := (sW z i).1) (d := 11 + sLn z) (u := t) h1 hc (by omega) (by omega) htu h1u (by omega)
    rw [jAdd, if_neg (by omega)] at hm
    rw [eN, eL]
    refine hR_mono (hR_congr hm (fun c hc => ?_)) (fun c hc => ?_)
    · rw [eR, upN_ne (show c ≠ 11 + sLn z by omega), upN_ne (show c ≠ 11 + sLn z by omega)]
    · by_cases q : c = (sW z i).1
      · rw [q, upN_eq]; omega
      · rw [upN_ne q]; omega
  · rw [eL]
    rcases List.mem_append.mp he with q | q
    · have := h2 e q; omega
    · have q : e = .inr ((sW z i).1, 11 + sLn z, t) := by simpa using q
      rw [q]
      show 11 + sLn z < _
      omega
  · rw [eL] at hj
    by_cases q : j = sLn z
    · exact ⟨.inr ((sW z i).1, 11 + sLn z, t), List.mem_append_right _ (by simp), by rw [q]; rfl⟩
    · obtain ⟨e, x1, x2⟩ := h3 j (by omega)
      exact ⟨e, List.mem_append_left _ x1, x2⟩
  · rw [eL] at hj
    rw [eR]
    by_cases q : j = sLn z
    · subst q
      rw [upN_eq, fol_out (fun e he => by have := h2 e he; omega)]
      have := (mM_move (d := 11 + sLn z) (h1 fc sp yI hfc).2.1 hc (by omega) htu h1u).2
      rw [fol, if_pos rfl]
      exact this
    · rw [fol_in (by omega) (h3 j (by omega)), upN_ne (by omega), upN_ne (by omega)]
      exact h4 fc sp j yI hfc (by omega)
  · rw [List.length_append, eN, eL]
    simp only [List.length_cons, List.length_nil]
    omega
/-- what the journal answers is what the portions answer -/
theorem jR_val {z : kSt} {J : List kJe} {F : kF} (h : jR z J) {i fc : Nat} (hi : i < sLn z) (hl : sLn z ≤ 40) (hfc : fc < 10) {y : Int32} : faV z (nI i) (nI fc) y J F = frS (nI fc) y (sR z (11 + i)) := by
  rw [faV, cN_nI (by omega), cN_nI (by omega)]
  exact h.2.2.2.1 fc (emF F).2.2.2 i y hfc hi
theorem jR_ok {z : kSt} {J : List kJe} {F : kF} (h : jR z J) {y : Int32} : ∀ i fc, i < sLn z → fc < 10 → folK fc y (11 + i) J (emF F) := fun i fc hi hfc => runK_fol (h.1 fc (emF F).2.2.2 y hfc).1
theorem jR_same {z z2 : kSt} {J : List kJe} (h : jR z J) (h1 : sR z2 = sR z) (h2 : sNow z2 = sNow z) (h3 : sLn z2 = sLn z) : jR z2 J := by
  unfold jR
  rw [h1, h2, h3]
  exact h
