theorem rMay_le {z : kSt} {i : Nat} : rMay z i ≤ (sW z i).2.1 - (sW z i).2.2 := by
  unfold rMay
  split
  · omega
  · split <;> omega
theorem ok_bot {z : kSt} (hs : sOk z) {i t : Nat} (hi : i < sWn z) (ht0 : 0 < t) (ht : t ≤ 1000) (hm : t ≤ rMay z i) (htu : t ≤ unS (sR z (sW z i).1)) (hl : sLn z < 40) : sOk (botS z i t) := by
  have hwk := hs.2.2.1.2 i hi
  have hc := hwk.1
  have hpk := hs.pk (i := (sW z i).1) (by omega)
  have hw6 := hs.2.2.1.1
  have hml := rMay_le (z := z) (i := i)
  obtain ⟨⟨h1, h2, h3, h4, h5⟩, h6, ⟨h7, h8⟩, ⟨h9, h10⟩, h11, h12, h13⟩ := hs
  have eR : ∀ c, sR (botS z i t) c = upN (upN (sR z) (sW z i).1 (tkS (sR z (sW z i).1) t).2) (11 + sLn z) (tkS (sR z (sW z i).1) t).1 c := fun _ => rfl
  have hlow : ∀ c, c < 11 → sR (botS z i t) c = upN (sR z) (sW z i).1 (tkS (sR z (sW z i).1) t).2 c := fun c hc => by rw [eR, upN_ne (by omega)]
  have hle : ∀ c, c < 11 → unS (sR (botS z i t) c) ≤ unS (sR z c) := fun c hc => by
    rw [hlow c hc]
    by_cases q : c = (sW z i).1
    · rw [q, upN_eq]
      have := tkS_un (P := sR z (sW z i).1) (w := t)
      omega
    · rw [upN_ne q]; exact Nat.le_refl _
  refine ⟨⟨h1, h2, h3, h4, h5⟩, h6, ⟨h7, fun j hj => ?_⟩, ⟨(by omega : sLn z + 1 ≤ 40), fun j hj => ?_⟩, fun j hj q hq => ?_, ?_, ?_⟩
  · show wlOk (upN (sW z) i ((sW z i).1, (sW z i).2.1, (sW z i).2.2 + t) j)
    by_cases q : j = i
    · rw [q, upN_eq]
      exact ⟨hc, hwk.2.1, (by omega : (sW z i).2.2 + t ≤ (sW z i).2.1)⟩
    · rw [upN_ne q]; exact h8 j hj
  · have hj : j < sLn z + 1 := hj
    show ltOk (sNow z) (upN (sLo z) (sLn z) (i, sNow z, 0, -1, 0, 0) j) (sR (botS z i t) (11 + j))
    rw [eR]
    by_cases q : j = sLn z
    · rw [q, upN_eq, upN_eq]
      have := tkS_all htu
      exact ⟨(by omega : i < 6), Nat.le_refl _, Or.inl rfl, Or.inl rfl, Or.inl rfl, (tkS_ok hpk).1, by omega, by omega⟩
    · rw [upN_ne q, upN_ne (by omega), upN_ne (by omega)]
      exact h10 j (by omega)
  · rw [hlow j hj] at hq
    by_cases x : j = (sW z i).1
    · rw [x, upN_eq] at hq; exact (tkS_ok hpk).2 q hq
    · rw [upN_ne x] at hq; exact h11 j hj q hq
  · exact Nat.le_trans (suN_mono (fun c hc => hle c (by omega))) h12
  · exact Nat.le_trans (hle 10 (by decide)) h13
theorem gBot_i {z : kSt} {w u : Int32} (hs : sOk z) (g : gBottle z w u = none) : ∃ i t, w = nI i ∧ u = nI t ∧ i < sWn z ∧ 0 < t ∧ t ≤ 1000 ∧ t ≤ rMay z i ∧ t ≤ unS (sR z (sW z i).1) ∧ sLn z < 40 := by
  obtain ⟨g1, ga⟩ := gIx_i g
  obtain ⟨g2, gb⟩ := gRg_i ga
  have hw6 := hs.2.2.1.1
  obtain ⟨i, hi, e⟩ := ix_of (n := sWn z) (by omega) g1
  obtain ⟨t, ht1, ht2, et⟩ := inR_of (a := 1) (n := 1000) rfl rfl (by decide) (by decide) g2
  have gc := gSt_i gb
  rw [Bool.and_eq_true, Bool.and_eq_true] at gc
  have x1 := of_decide_eq_true gc.1
  have x2 := of_decide_eq_true gc.2.1
  have x3 := of_decide_eq_true gc.2.2
  rw [e, et, cN_nI (by omega), cN_nI (by omega)] at x1
  rw [e, et, cN_nI (by omega), cN_nI (by omega)] at x2
  exact ⟨i, t, e, et, hi, by omega, ht2, x1, x2, x3⟩
theorem ok_bottle {z : kSt} {w u : Int32} (hs : sOk z) (g : gBottle z w u = none) : sOk (nBottle z w u) := by
  obtain ⟨i, t, e, et, h1, h2, h3, h4, h5, h6⟩ := gBot_i hs g
  have hw6 := hs.2.2.1.1
  rw [nBottle, e, et, cN_nI (by omega), cN_nI (by omega)]
  exact ok_bot hs h1 h2 h3 h4 h5 h6
theorem jR_bottle {z : kSt} {w u : Int32} {J : List kJe} (hs : sOk z) (h : jR z J) (g : gBottle z w u = none) : jR (nBottle z w u) (jBottle z w u J) := by
  obtain ⟨i, t, e, et, h1, h2, h3, h4, h5, h6⟩ := gBot_i hs g
  have hw6 := hs.2.2.1.1
  rw [nBottle, jBottle, e, et, cN_nI (by omega), cN_nI (by omega)]
  exact jR_bot hs h1 h2 h3 h5 h6 h
theorem jR_passI {z : kSt} {y r : Int32} {J : List kJe} (hs : sOk z) (h : jR z J) (g : gPass z y r = none) : jR (nPass z y r) (jPass z y r J) := by
  obtain ⟨g1, ga⟩ := gRg_i g
  obtain ⟨g2, gb⟩ := gRg_i ga
  obtain ⟨t, ht1, ht2, et⟩ := inR_of (a := 0) (n := 1000) rfl rfl (by decide) (by decide) g2
  rw [nPass, jPass, et, cN_nI (show t < 2 ^ 31 by omega)]
  exact jR_pass hs (of_decide_eq_true (gSt_i gb)) ht2 h
