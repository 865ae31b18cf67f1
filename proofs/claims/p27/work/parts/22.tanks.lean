def upN {α : Type} (f : Nat → α) (c : Nat) (x : α) : Nat → α := fun i => if i = c then x else f i
theorem upN_eq {α : Type} {f : Nat → α} {c : Nat} {x : α} : upN f c x c = x := by simp [upN]
theorem upN_ne {α : Type} {f : Nat → α} {c i : Nat} {x : α} (h : i ≠ c) : upN f c x i = f i := by simp [upN, h]
/-- the ten tanks, the pieces in them, the spare ones -/
def tkI (D : va_G) (aJ tk : Nat) (tad : Nat → Nat) (fJ zJ : Option Nat) (cm wt : Nat → Nat) (TP : Nat → kTs) (SP : kQs) (σ : kS) : Prop :=
  σ aJ = some (jE tk fJ zJ (hdA SP)) ∧ (∃ ft : Nat → Option Nat, σ tk = some (.inl (D.1 18, 10, .inr (.inr (.inr (.inr ft))))) ∧ ∀ i, i < 10 → ft i = some (tad i)) ∧
  (∀ i, i < 10 → σ (tad i) = some (tE (cm i) (wt i) (hdA (TP i)) (lsA (TP i)))) ∧ (∀ i, i < 10 → gSeg tpE σ (TP i) none) ∧ gSeg pcE σ SP none ∧ (∀ i, i < 10 → (ad (TP i)).Nodup) ∧ (ad SP).Nodup ∧ (∀ i j, i < 10 → j < 10 → i ≠ j → ∀ a ∈ ad (TP i), a ∉ ad (TP j)) ∧ (∀ i, i < 10 → ∀ a ∈ ad (TP i), a ∉ ad SP) ∧ (∀ i j, i < 10 → j < 10 → tad i = tad j → i = j)
section Tanks
variable {D : va_G} {aJ tk : Nat} {tad : Nat → Nat} {fJ zJ : Option Nat} {cm wt : Nat → Nat} {TP : Nat → kTs} {SP : kQs} {σ s2 : kS}
theorem tkI.keep (h : tkI D aJ tk tad fJ zJ cm wt TP SP σ) {T : Nat → Prop} (hf : kFr T σ s2) (hT : ¬ T 1 ∧ ¬ T 4 ∧ ¬ T 7 ∧ ¬ T 15) : tkI D aJ tk tad fJ zJ cm wt TP SP s2 := by
  obtain ⟨h1, ⟨ft, h2, h2b⟩, h3, h4, h5, h6, h7, h8, h9, h10⟩ := h
  refine ⟨hf _ _ h1 hT.1, ⟨ft, hf _ _ h2 hT.2.2.2, h2b⟩, fun i hi => hf _ _ (h3 i hi) hT.2.2.1, fun i hi => gSeg_keep (h4 i hi) (fun a ha e he => ?_), gSeg_keep h5 (fun a ha e he => ?_), h6, h7, h8, h9, h10⟩
  · obtain ⟨p1, y1, hh⟩ := gSeg_adr (h4 i hi) ha
    rw [hh] at he
    cases he
    exact hf _ _ hh hT.2.1
  · obtain ⟨p1, y1, hh⟩ := gSeg_adr h5 ha
    rw [hh] at he
    cases he
    exact hf _ _ hh hT.2.1
/-- one tank and the spare pieces changed -/
theorem tkI.one (h : tkI D aJ tk tad fJ zJ cm wt TP SP σ) {c x y : Nat} (hc : c < 10) {P2 : kTs} {SP2 : kQs} (ho : kOut (fun a => a = aJ ∨ a = tad c ∨ a ∈ ad (TP c) ++ ad SP) σ s2) (g1 : s2 aJ = some (jE tk fJ zJ (hdA SP2))) (g2 : s2 (tad c) = some (tE x y (hdA P2) (lsA P2))) (g3 : gSeg tpE s2 P2 none) (g4 : gSeg pcE s2 SP2 none) (g5 : (ad P2 ++ ad SP2).Nodup) (g6 : ∀ a ∈ ad P2 ++ ad SP2, a ∈ ad (TP c) ++ ad SP ∨ σ a = none) : tkI D aJ tk tad fJ zJ (upN cm c x) (upN wt c y) (upN TP c P2) SP2 s2 := by
  obtain ⟨h1, ⟨ft, h2, h2b⟩, h3, h4, h5, h6, h7, h8, h9, h10⟩ := h
  have hold : ∀ i, i < 10 → i ≠ c → ∀ a ∈ ad (TP i), a ∉ ad P2 ++ ad SP2 := by
    intro i hi hic a ha hb
    rcases g6 a hb with q | q
    · rcases List.mem_append.mp q with q | q
      · exact h8 i c hi hc hic a ha q
      · exact h9 i hi a ha q
    · obtain ⟨p1, y1, hh⟩ := gSeg_adr (h4 i hi) ha
      rw [q] at hh; cases hh
  have hko : ∀ i, i < 10 → i ≠ c → ∀ a ∈ ad (TP i), ∀ e, σ a = some e → s2 a = some e := by
    intro i hi hic a ha e he
    obtain ⟨p1, y1, hh⟩ := gSeg_adr (h4 i hi) ha
    refine ho a e he (fun hx => ?_)
    rcases hx with q | q | q
    · subst q; rw [h1] at hh; cases hh
    · subst q; rw [h3 c hc] at hh; cases hh
    · rcases List.mem_append.mp q with q | q
      · exact h8 i c hi hc hic a ha q
      · exact h9 i hi a ha q
  refine ⟨g1, ⟨ft, ho _ _ h2 (fun hx => ?_), h2b⟩, fun i hi => ?_, fun i hi => ?_, g4, fun i hi => ?_, (List.nodup_append.mp g5).2.1, fun i j hi hj hij a ha hb => ?_, fun i hi a ha hb => ?_, h10⟩
  · rcases hx with q | q | q
    · rw [q, h1] at h2; cases h2
    · rw [q, h3 c hc] at h2; cases h2
    · rcases List.mem_append.mp q with q | q
      · obtain ⟨p1, y1, hh⟩ := gSeg_adr (h4 c hc) q
        rw [h2] at hh; cases hh
      · obtain ⟨p1, y1, hh⟩ := gSeg_adr h5 q
        rw [h2] at hh; cases hh
  · by_cases q : i = c
    · subst q; rw [upN_eq, upN_eq, upN_eq]; exact g2
    · rw [upN_ne q, upN_ne q, upN_ne q]
      refine ho _ _ (h3 i hi) (fun hx => ?_)
      rcases hx with q2 | q2 | q2
      · have := h3 i hi; rw [q2, h1] at this; cases this
      · exact q (h10 i c hi hc q2)
      · have h3i := h3 i hi
        rcases List.mem_append.mp q2 with q2 | q2
        · obtain ⟨p1, y1, hh⟩ := gSeg_adr (h4 c hc) q2
          rw [h3i] at hh; cases hh
        · obtain ⟨p1, y1, hh⟩ := gSeg_adr h5 q2
          rw [h3i] at hh; cases hh
  · by_cases q : i = c
    · subst q; rw [upN_eq]; exact g3
    · rw [upN_ne q]; exact gSeg_keep (h4 i hi) (hko i hi q)
  · by_cases q : i = c
    · subst q; rw [upN_eq]; exact (List.nodup_append.mp g5).1
    · rw [upN_ne q]; exact h6 i hi
  · by_cases q : i = c
    · subst q
      rw [upN_eq] at ha
      rw [upN_ne (Ne.symm hij)] at hb
      exact hold j hj (Ne.symm hij) a hb (List.mem_append_left _ ha)
    · rw [upN_ne q] at ha
      by_cases q2 : j = c
      · subst q2
        rw [upN_eq] at hb
        exact hold i hi q a ha (List.mem_append_left _ hb)
      · rw [upN_ne q2] at hb
        exact h8 i j hi hj hij a ha hb
  · by_cases q : i = c
    · subst q
      rw [upN_eq] at ha
      exact (List.nodup_append.mp g5).2.2 a ha a hb rfl
    · rw [upN_ne q] at ha
      exact hold i hi q a ha (List.mem_append_right _ hb)
/-- two tanks and the spare pieces changed -/
theorem tkI.two (h : tkI D aJ tk tad fJ zJ cm wt TP SP σ) {c d x y x2 y2 : Nat} (hc : c < 10) (hd : d < 10) (hcd : c ≠ d) {P2 Q2 : kTs} {SP2 : kQs} (ho : kOut (fun a => a = aJ ∨ a = tad c ∨ a = tad d ∨ a ∈ ad (TP c) ++ (ad (TP d) ++ ad SP)) σ s2) (g1 : s2 aJ = some (jE tk fJ zJ (hdA SP2))) (g2 : s2 (tad c) = some (tE x y (hdA P2) (lsA P2))) (g2d : s2 (tad d) = some (tE x2 y2 (hdA Q2) (lsA Q2))) (g3 : gSeg tpE s2 P2 none) (g3d : gSeg tpE s2 Q2 none) (g4 : gSeg pcE s2 SP2 none) (g5 : (ad P2 ++ (ad Q2 ++ ad SP2)).Nodup) (g6 : ∀ a ∈ ad P2 ++ (ad Q2 ++ ad SP2), a ∈ ad (TP c) ++ (ad (TP d) ++ ad SP) ∨ σ a = none) : tkI D aJ tk tad fJ zJ (upN (upN cm c x) d x2) (upN (upN wt c y) d y2) (upN (upN TP c P2) d Q2) SP2 s2 := by
  obtain ⟨h1, ⟨ft, h2, h2b⟩, h3, h4, h5, h6, h7, h8, h9, h10⟩ := h
  have hold : ∀ i, i < 10 → i ≠ c → i ≠ d → ∀ a ∈ ad (TP i), a ∉ ad P2 ++ (ad Q2 ++ ad SP2) := by
    intro i hi hic hid a ha hb
    rcases g6 a hb with q | q
    · rcases List.mem_append.mp q with q | q
      · exact h8 i c hi hc hic a ha q
      · rcases List.mem_append.mp q with q | q
        · exact h8 i d hi hd hid a ha q
        · exact h9 i hi a ha q
    · obtain ⟨p1, y1, hh⟩ := gSeg_adr (h4 i hi) ha
      rw [q] at hh; cases hh
  have hko : ∀ i, i < 10 → i ≠ c → i ≠ d → ∀ a ∈ ad (TP i), ∀ e, σ a = some e → s2 a = some e := by
    intro i hi hic hid a ha e he
    obtain ⟨p1, y1, hh⟩ := gSeg_adr (h4 i hi) ha
    refine ho a e he (fun hx => ?_)
    rcases hx with q | q | q | q
    · subst q; rw [h1] at hh; cases hh
    · subst q; rw [h3 c hc] at hh; cases hh
    · subst q; rw [h3 d hd] at hh; cases hh
    · rcases List.mem_append.mp q with q | q
      · exact h8 i c hi hc hic a ha q
      · rcases List.mem_append.mp q with q | q
        · exact h8 i d hi hd hid a ha q
        · exact h9 i hi a ha q
  have n1 := List.nodup_append.mp g5
  have n2 := List.nodup_append.mp n1.2.1
  have hnP : ∀ {a : Nat} {e : va_E}, σ a = some e → (∀ p y, e ≠ tpE p y) → (∀ p y, e ≠ pcE p y) → a ∉ ad (TP c) ++ (ad (TP d) ++ ad SP) := by
    intro a e he q1 q2 hm
    rcases List.mem_append.mp hm with q | q
    · obtain ⟨p1, y1, hh⟩ := gSeg_adr (h4 c hc) q
      rw [he] at hh; cases hh; exact q1 _ _ rfl
    · rcases List.mem_append.mp q with q | q
      · obtain ⟨p1, y1, hh⟩ := gSeg_adr (h4 d hd) q
        rw [he] at hh; cases hh; exact q1 _ _ rfl
      · obtain ⟨p1, y1, hh⟩ := gSeg_adr h5 q
        rw [he] at hh; cases hh; exact q2 _ _ rfl
  refine ⟨g1, ⟨ft, ho _ _ h2 (fun hx => ?_), h2b⟩, fun i hi => ?_, fun i hi => ?_, g4, fun i hi => ?_, n2.2.1, fun i j hi hj hij a ha hb => ?_, fun i hi a ha hb => ?_, h10⟩
  · rcases hx with q | q | q | q
    · rw [q, h1] at h2; cases h2
    · rw [q, h3 c hc] at h2; cases h2
    · rw [q, h3 d hd] at h2; cases h2
    · exact hnP h2 (fun _ _ z => by cases z) (fun _ _ z => by cases z) q
  · by_cases q : i = d
    · subst q; rw [upN_eq, upN_eq, upN_eq]; exact g2d
    · rw [upN_ne q, upN_ne q, upN_ne q]
      by_cases q1 : i = c
      · subst q1; rw [upN_eq, upN_eq, upN_eq]; exact g2
      · rw [upN_ne q1, upN_ne q1, upN_ne q1]
        refine ho _ _ (h3 i hi) (fun hx => ?_)
        rcases hx with q2 | q2 | q2 | q2
        · have := h3 i hi; rw [q2, h1] at this; cases this
        · exact q1 (h10 i c hi hc q2)
        · exact q (h10 i d hi hd q2)
        · exact hnP (h3 i hi) (fun _ _ z => by cases z) (fun _ _ z => by cases z) q2
  · by_cases q : i = d
    · subst q; rw [upN_eq]; exact g3d
    · rw [upN_ne q]
      by_cases q1 : i = c
      · subst q1; rw [upN_eq]; exact g3
      · rw [upN_ne q1]; exact gSeg_keep (h4 i hi) (hko i hi q1 q)
  · by_cases q : i = d
    · subst q; rw [upN_eq]; exact n2.1
    · rw [upN_ne q]
      by_cases q1 : i = c
      · subst q1; rw [upN_eq]; exact n1.1
      · rw [upN_ne q1]; exact h6 i hi
  · have key : ∀ i, i < 10 → ∀ a ∈ ad (upN (upN TP c P2) d Q2 i), (i = d ∧ a ∈ ad Q2) ∨ (i ≠ d ∧ i = c ∧ a ∈ ad P2) ∨ (i ≠ d ∧ i ≠ c ∧ a ∈ ad (TP i)) := by
      intro i hi a ha
      by_cases q : i = d
      · subst q; rw [upN_eq] at ha; exact Or.inl ⟨rfl, ha⟩
      · rw [upN_ne q] at ha
        by_cases q1 : i = c
        · subst q1; rw [upN_eq] at ha; exact Or.inr (Or.inl ⟨q, rfl, ha⟩)
        · rw [upN_ne q1] at ha; exact Or.inr (Or.inr ⟨q, q1, ha⟩)
    rcases key i hi a ha with ⟨i1, a1⟩ | ⟨i0, i1, a1⟩ | ⟨i0, i1, a1⟩ <;> rcases key j hj a hb with ⟨j1, b1⟩ | ⟨j0, j1, b1⟩ | ⟨j0, j1, b1⟩
    · exact hij (i1.trans j1.symm)
    · exact n1.2.2 a b1 a (List.mem_append_left _ a1) rfl
    · exact hold j hj j1 j0 a b1 (List.mem_append_right _ (List.mem_append_left _ a1))
    · exact n1.2.2 a a1 a (List.mem_append_left _ b1) rfl
    · exact hij (i1.trans j1.symm)
    · exact hold j hj j1 j0 a b1 (List.mem_append_left _ a1)
    · exact hold i hi i1 i0 a a1 (List.mem_append_right _ (List.mem_append_left _ b1))
    · exact hold i hi i1 i0 a a1 (List.mem_append_left _ b1)
    · exact h8 i j hi hj hij a a1 b1
  · by_cases q : i = d
    · subst q
      rw [upN_eq] at ha
      exact n2.2.2 a ha a hb rfl
    · rw [upN_ne q] at ha
      by_cases q1 : i = c
      · subst q1
        rw [upN_eq] at ha
        exact n1.2.2 a ha a (List.mem_append_right _ hb) rfl
      · rw [upN_ne q1] at ha
        exact hold i hi q1 q a ha (List.mem_append_right _ (List.mem_append_right _ hb))
end Tanks
