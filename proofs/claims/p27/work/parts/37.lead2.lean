theorem suN_congr {f g : Nat → Nat} {n : Nat} (h : ∀ i, i < n → f i = g i) : suN f n = suN g n := by
  induction n with
  | zero => rfl
  | succ n ih => simp only [suN]; rw [ih (fun i hi => h i (by omega)), h n (by omega)]
theorem ldD_ok {K : Nat → kCl} {c : Nat} (hK : ∀ d, (K c).1 = some d → d < c) (hc : c < 10) : ldD K c < 11 ∧ ldD K c ≠ c := by
  unfold ldD
  split
  · omega
  · rename_i d hd
    have := hK d hd
    omega
theorem ldN_sum {K : Nat → kCl} {P : Nat → List kP} (hK : ∀ i d, i < 10 → (K i).1 = some d → d < i) {n : Nat} (hn : n ≤ 10) : suN (fun i => unS (ldN K P n i)) 11 = suN (fun i => unS (P i)) 10 := by
  induction n with
  | zero =>
    have e1 : suN (fun i => unS (ldN K P 0 i)) 11 = suN (fun i => unS (ldN K P 0 i)) 10 + unS (ldN K P 0 10) := rfl
    rw [e1]
    have e2 : unS (ldN K P 0 10) = 0 := by show unS (upN P 10 [] 10) = 0; rw [upN_eq]; rfl
    rw [e2, Nat.add_zero]
    exact suN_congr (fun i hi => by show unS (upN P 10 [] i) = unS (P i); rw [upN_ne (by omega)])
  | succ n ih =>
    rw [← ih (by omega)]
    obtain ⟨h1, h2⟩ := ldD_ok (hK n · (by omega)) (show n < 10 by omega)
    refine suN_two (a := n) (b := ldD K n) (Ne.symm h2) (by omega) h1 (fun i hi hi2 => ?_) ?_
    · show unS (ldS K (ldN K P n) n i) = _
      rw [ldS, upN_ne hi2, upN_ne hi]
    · show unS (ldS K (ldN K P n) n n) + unS (ldS K (ldN K P n) n (ldD K n)) = _
      rw [ldS, upN_ne (Ne.symm h2), upN_eq, upN_eq, unS_app]
      have := tkS_un (P := ldN K P n n) (w := ldW K (ldN K P n) n)
      omega
section Lead
variable {l : Launch} {D : va_G} {σ s2 : kS} {aO cA wA lA aJ : Nat} {cad ra wad lad : Nat → Nat} {R R2 : Nat → kPs} {z : kSt} {J J2 : List kJe} {F F2 : kF}
theorem cI.rows (h : cI D aO cA wA lA aJ cad ra wad lad R z J F σ) {P2 : Nat → List kP} (hr : rwI (11 + sLn z) ra R2 s2) (hc : ∀ i, i < 11 + sLn z → kCon (R2 i) = P2 i) (hf : kFr k56 σ s2) : cI D aO cA wA lA aJ cad ra wad lad R2 (setR z P2) J F s2 := by
  have hk : ∀ P : va_E → Prop, (∀ e, k56 (kC e) → ¬ P e) → kKp P σ s2 := fun P hp => hf.kp (fun e he q => hp e q he)
  have h56 : ∀ e, k56 (kC e) → ∀ k, k ≠ 5 → k ≠ 6 → kC e ≠ k := fun e q k h5 h6 hk => q.elim (fun q => h5 (hk.symm.trans q)) (fun q => h6 (hk.symm.trans q))
  obtain ⟨h1, h2, h3, h4, h5, h6, h7, h8, h9, h10⟩ := h
  have nA : ∀ N e, k56 (kC e) → ¬ isAr N e := fun N e q => noAr rfl (h56 e q 15 (by decide) (by decide))
  refine ⟨hf _ _ h1 (fun q => q.elim (fun q => by cases q) (fun q => by cases q)), h2.keep (hk _ (nA _)), h3.keep (hk _ (nA _)), h4.keep (hk _ (nA _)), h5.keep (hk _ (fun e q => h56 e q 0 (by decide) (by decide))), h6.keep (hk _ (fun e q => h56 e q 8 (by decide) (by decide))), h7.keep (hk _ (fun e q => h56 e q 2 (by decide) (by decide))), hr, hc, h10.keep (hk _ (fun e q => noJ rfl ⟨h56 e q 1 (by decide) (by decide), h56 e q 3 (by decide) (by decide), h56 e q 4 (by decide) (by decide), h56 e q 7 (by decide) (by decide), h56 e q 15 (by decide) (by decide)⟩))⟩
def kJn (k : Nat) : Prop := k = 1 ∨ k = 3 ∨ k = 4 ∨ k = 7
theorem cI.jn (h : cI D aO cA wA lA aJ cad ra wad lad R z J F σ) (hj : jo9 D aJ J2 F2 s2) (hf : kFr kJn σ s2) : cI D aO cA wA lA aJ cad ra wad lad R z J2 F2 s2 := by
  have hk : ∀ P : va_E → Prop, (∀ e, kJn (kC e) → ¬ P e) → kKp P σ s2 := fun P hp => hf.kp (fun e he q => hp e q he)
  have hj9 : ∀ e, kJn (kC e) → ∀ k, k ≠ 1 → k ≠ 3 → k ≠ 4 → k ≠ 7 → kC e ≠ k := fun e q k h1 h3 h4 h7 hk => by
    rcases q with q | q | q | q
    · exact h1 (hk.symm.trans q)
    · exact h3 (hk.symm.trans q)
    · exact h4 (hk.symm.trans q)
    · exact h7 (hk.symm.trans q)
  have nA : ∀ N e, kJn (kC e) → ¬ isAr N e := fun N e q => noAr rfl (hj9 e q 15 (by decide) (by decide) (by decide) (by decide))
  obtain ⟨h1, h2, h3, h4, h5, h6, h7, h8, h9, h10⟩ := h
  refine ⟨hf _ _ h1 (fun q => by rcases q with q | q | q | q <;> cases q), h2.keep (hk _ (nA _)), h3.keep (hk _ (nA _)), h4.keep (hk _ (nA _)), h5.keep (hk _ (fun e q => hj9 e q 0 (by decide) (by decide) (by decide) (by decide))), h6.keep (hk _ (fun e q => hj9 e q 8 (by decide) (by decide) (by decide) (by decide))), h7.keep (hk _ (fun e q => hj9 e q 2 (by decide) (by decide) (by decide) (by decide))), h8.keep (hk _ (fun e q => noR rfl ⟨hj9 e q 5 (by decide) (by decide) (by decide) (by decide), hj9 e q 6 (by decide) (by decide) (by decide) (by decide)⟩)), h9, hj⟩
theorem k56_9 : ∀ k, k56 k → k9F k := fun k q => q.elim (fun q => by subst q; exact Or.inl (by decide)) (fun q => by subst q; exact Or.inl (by decide))
theorem k13_9 : ∀ k, k13 k → k9F k := fun k q => q.elim (fun q => by subst q; exact Or.inl (by decide)) (fun q => by subst q; exact Or.inl (by decide))
theorem k13_J : ∀ k, k13 k → kJn k := fun k q => q.elim (fun q => Or.inl q) (fun q => Or.inr (Or.inl q))
/-- units go from a row to another -/
theorem rwI.mv {n i d : Nat} {ra : Nat → Nat} {s3 : kS} {T Q : kPs} (h : rwI n ra R σ) (hi : i < n) (hd : d < n) (hid : d ≠ i) (g1 : s2 (ra i) = some (rowE (nI (unS (kCon Q))) (hdA Q) (lsA Q))) (g2 : pCh s2 T) (g3 : pCh s2 Q) (g4 : (adr T ++ adr Q).Nodup) (g5 : ∀ a ∈ adr T ++ adr Q, a ∈ adr (R i) ∨ σ a = none) (g6 : kOut (fun b => b = ra i ∨ b ∈ adr (R i)) σ s2) (e1 : s3 (ra d) = some (rowE (nI (unS (kCon (R d)) + unS (kCon T))) (hdA (R d ++ T)) (lsA (R d ++ T)))) (e2 : pCh s3 (R d ++ T)) (e3 : kOut (fun b => b = ra d ∨ b ∈ adr (R d)) s2 s3) : rwI n ra (upN (upN R i Q) d (R d ++ T)) s3 := by
  have hnew : ∀ a ∈ adr T ++ adr Q, ∀ j, j < n → j ≠ i → a ∉ adr (R j) := by
    intro a ha j hj hji hm
    rcases g5 a ha with q | q
    · exact h.2.2.2.1 j i hj hi hji a hm q
    · obtain ⟨p1, y1, hh⟩ := pSeg_adr (pCh_iff.mp (h.2.1 j hj)) hm
      rw [q] at hh; cases hh
  have st1 : rwI n ra (upN R i Q) s2 := h.one hi (fun a e he _ h1 h2 => g6 a e he (fun q => q.elim h1 h2)) g1 g3 (List.nodup_append.mp g4).2.1 (fun a ha => hnew a (List.mem_append_right _ ha))
  have hRd : upN R i Q d = R d := upN_ne hid
  refine st1.one (i := d) hd (fun a e he _ h1 h2 => e3 a e he (fun q => q.elim h1 (by rw [hRd] at h2; exact h2))) ?_ e2 ?_ ?_
  · rw [kCon_app, unS_app]; exact e1
  · rw [adr_app]
    refine List.nodup_append.mpr ⟨h.2.2.1 d hd, (List.nodup_append.mp g4).1, fun a ha b hb hab => ?_⟩
    subst hab
    exact hnew a (List.mem_append_left _ hb) d hd hid ha
  · intro a ha j hj hjd hm
    rw [adr_app] at ha
    by_cases q : j = i
    · subst q
      rw [upN_eq] at hm
      rcases List.mem_append.mp ha with ha | ha
      · exact hnew a (List.mem_append_right _ hm) d hd hid ha
      · exact (List.nodup_append.mp g4).2.2 a ha a hm rfl
    · rw [upN_ne q] at hm
      rcases List.mem_append.mp ha with ha | ha
      · exact h.2.2.2.1 d j hd hj (Ne.symm hjd) a ha hm
      · exact hnew a (List.mem_append_left _ ha) j hj q hm
end Lead
