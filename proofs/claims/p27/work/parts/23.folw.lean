abbrev kF : Type := (Nat → Nat) × (Nat → Nat) × (Nat → List (Nat × Nat)) × Nat
def tkF (D : va_G) (aJ tk : Nat) (tad : Nat → Nat) (fJ zJ : Option Nat) (F : kF) (σ : kS) : Prop := ∃ (TP : Nat → kTs) (SP : kQs), tkI D aJ tk tad fJ zJ F.1 F.2.1 TP SP σ ∧ (∀ i, i < 10 → tCon (TP i) = F.2.2.1 i) ∧ SP.length = F.2.2.2
theorem tkI.congr {D : va_G} {aJ tk : Nat} {tad : Nat → Nat} {fJ zJ : Option Nat} {cm wt cm2 wt2 : Nat → Nat} {TP : Nat → kTs} {SP : kQs} {σ : kS} (h : tkI D aJ tk tad fJ zJ cm wt TP SP σ) (h1 : ∀ i, i < 10 → cm2 i = cm i) (h2 : ∀ i, i < 10 → wt2 i = wt i) : tkI D aJ tk tad fJ zJ cm2 wt2 TP SP σ := by
  obtain ⟨a1, a2, a3, a4⟩ := h
  exact ⟨a1, a2, fun i hi => by rw [h1 i hi, h2 i hi]; exact a3 i hi, a4⟩
theorem tkF.keep {D : va_G} {aJ tk : Nat} {tad : Nat → Nat} {fJ zJ : Option Nat} {F : kF} {σ s2 : kS} (h : tkF D aJ tk tad fJ zJ F σ) {T : Nat → Prop} (hf : kFr T σ s2) (hT : ¬ T 1 ∧ ¬ T 4 ∧ ¬ T 7 ∧ ¬ T 15) : tkF D aJ tk tad fJ zJ F s2 := by
  obtain ⟨TP, SP, a1, a2⟩ := h
  exact ⟨TP, SP, a1.keep hf hT, a2⟩
theorem tCon_len (L : kTs) : (tCon L).length = L.length := by simp [tCon]
def raF (fo : Option Nat) (u : Nat) (F : kF) : kF := (fun i => F.1 i + u, F.2.1, fun i => if fo = some i then F.2.2.1 i ++ [(F.1 i, u)] else F.2.2.1 i, F.2.2.2 - (if fo = none then 0 else 1))
def raC (fo : Option Nat) (F : kF) : Nat := if fo = none then 0 else if F.2.2.2 = 0 then 1 else 0
def emS (P : Nat → List (Nat × Nat)) : Nat → Nat
  | 0 => 0
  | n + 1 => emS P n + (P n).length
def emF (F : kF) : kF := (fun _ => 0, fun _ => 0, fun _ => [], F.2.2.2 + emS F.2.2.1 10)
section Folw
variable {l : Launch} {D : va_G} {σ : kS} {aJ tk : Nat} {tad : Nat → Nat} {fJ zJ : Option Nat}
theorem upN_self {α : Type} {f : Nat → α} {c : Nat} : upN f c (f c) = f := by
  funext i
  by_cases h : i = c
  · subst h; rw [upN_eq]
  · rw [upN_ne h]
set_option maxHeartbeats 4000000 in
set_option maxRecDepth 100000 in
theorem c_X1_rainAgain (hl : l.stackTraces = false) {F : kF} {u : Nat} {fo : Option Nat} (hF : tkF D aJ tk tad fJ zJ F σ) (hfo : ∀ f, fo = some f → f < 10) : kMh hX1_rainAgain l D yX1_rainAgain 3 (raC fo F) (3 * raC fo F) [.ref aJ, .int (nI u), .int (ldI fo)] σ (fun v s2 => v = none ∧ tkF D aJ tk tad fJ zJ (raF fo u F) s2 ∧ kFr k147 σ s2) (fun _ => False) := by
  refine kM_of (L := [some (.ref aJ), some (.int (nI u)), some (.int (ldI fo)), none, none]) (by decide +kernel) hl (List.forall_mem_cons.mpr ⟨rfl, (List.forall_mem_cons.mpr ⟨rfl, (List.forall_mem_cons.mpr ⟨rfl, (fun _ h => absurd h List.not_mem_nil)⟩)⟩)⟩) (Nat.le_of_ble_eq_true rfl) rfl ?_
  intro p e s m args below meth c B hr hex hnm
  have B : kB p l s m args meth c D (kA σ s.heap.size) 5 cX1_rainAgain RX1 := B
  obtain ⟨TP, SP, hI, hTP, hSPl⟩ := hF
  have loop : ∀ (n i k : Nat) (TP1 : Nat → kTs) (SP1 : kQs) (cm1 : Nat → Nat) (s1 : kS), i + n = 10 → tkI D aJ tk tad fJ zJ cm1 F.2.1 TP1 SP1 s1 → (∀ j, j < 10 → cm1 j = if j < i then F.1 j + u else F.1 j) → (∀ j, j < 10 → tCon (TP1 j) = F.2.2.1 j ++ (if j < i ∧ fo = some j then [(F.1 j, u)] else [])) → (∀ f, fo = some f → (f < i → SP1.length = F.2.2.2 - 1 ∧ k = raC fo F) ∧ (i ≤ f → SP1.length = F.2.2.2 ∧ k = 0)) → (fo = none → SP1.length = F.2.2.2 ∧ k = 0) → kFr k147 σ s1 →
      kK p l e (kR 3 (raC fo F) (3 * raC fo F)) s m args below meth c D (kA σ s.heap.size) 5 (kQ below args s D σ (fun v s2 => v = none ∧ tkF D aJ tk tad fJ zJ (raF fo u F) s2 ∧ kFr k147 σ s2) (fun _ => False) (raC fo F) (3 * raC fo F)) s1 k (3 * k) 2 [some (.ref aJ), some (.int (nI u)), some (.int (ldI fo)), some (.int (nI i)), none] [] := by
    intro n
    induction n with
    | zero =>
      intro i k TP1 SP1 cm1 s1 hi hI1 hcm hTP1 hfs hfn hFr
      have hi10 : i = 10 := by omega
      subst hi10
      have hk : k ≤ raC fo F := by
        cases hfo2 : fo with
        | none => have := (hfn hfo2).2; omega
        | some f => have := ((hfs f hfo2).1 (hfo f hfo2)).2; rw [hfo2] at this; omega
      refine k_iload_n B dX1_rainAgain_2 rfl ?_
      refine k_bipush B (v := 10) dX1_rainAgain_3 (by decide) ?_
      refine k_icmp_ge B 53 dX1_rainAgain_5 (by decide) (fun c5 => ?_) (fun c5 => ?_)
      · refine k_vret B hr dX1_rainAgain_53 ?_ (by first | exact Nat.le_of_ble_eq_true rfl | omega | (simp only [kR, Value.category, kCat_q, List.map, List.sum_cons, List.sum_nil]; omega)) (by first | exact Nat.le_of_ble_eq_true rfl | omega | (simp only [kR, Value.category, kCat_q, List.map, List.sum_cons, List.sum_nil]; omega))
        refine ⟨rfl, ⟨TP1, SP1, hI1.congr (fun j hj => ?_) (fun j hj => rfl), fun j hj => ?_, ?_⟩, hFr⟩
        · rw [hcm j hj, if_pos hj]; rfl
        · rw [hTP1 j hj]
          show _ = if fo = some j then F.2.2.1 j ++ [(F.1 j, u)] else F.2.2.1 j
          by_cases q : fo = some j
          · rw [if_pos ⟨hj, q⟩, if_pos q]
          · rw [if_neg (fun h => q h.2), if_neg q, List.append_nil]
        · show _ = F.2.2.2 - (if fo = none then 0 else 1)
          cases hfo2 : fo with
          | none => rw [if_pos rfl, (hfn hfo2).1]; rfl
          | some f => rw [if_neg (by simp), ((hfs f hfo2).1 (hfo f hfo2)).1]
      · exact absurd (Int32.le_refl _) c5
    | succ n ih =>
      intro i k TP1 SP1 cm1 s1 hi hI1 hcm hTP1 hfs hfn hFr
      have hi10 : i < 10 := by omega
      have hI2 := hI1
      obtain ⟨h1, ⟨ft, h2, h2b⟩, h3, h4, h5, h6, h7, h8, h9, h10⟩ := hI2
      have hcmi : cm1 i = F.1 i := by rw [hcm i hi10, if_neg (by omega)]
      have ht := h3 i hi10
      -- behind the branch: came grows, the next tank
      have rest : ∀ (k2 : Nat) (P2 : kTs) (SP2 : kQs) (s2 : kS), tkI D aJ tk tad fJ zJ cm1 F.2.1 (upN TP1 i P2) SP2 s2 → tCon P2 = F.2.2.1 i ++ (if fo = some i then [(F.1 i, u)] else []) → (∀ f, fo = some f → (f < i + 1 → SP2.length = F.2.2.2 - 1 ∧ k2 = raC fo F) ∧ (i + 1 ≤ f → SP2.length = F.2.2.2 ∧ k2 = 0)) → (fo = none → SP2.length = F.2.2.2 ∧ k2 = 0) → kFr k147 σ s2 →
          kK p l e (kR 3 (raC fo F) (3 * raC fo F)) s m args below meth c D (kA σ s.heap.size) 5 (kQ below args s D σ (fun v s2 => v = none ∧ tkF D aJ tk tad fJ zJ (raF fo u F) s2 ∧ kFr k147 σ s2) (fun _ => False) (raC fo F) (3 * raC fo F)) s2 k2 (3 * k2) 36 [some (.ref aJ), some (.int (nI u)), some (.int (ldI fo)), some (.int (nI i)), some (.ref (tad i))] [] := by
        intro k2 P2 SP2 s2 hI3 hP2 hf2 hf3 hFr2
        have hI4 := hI3
        obtain ⟨b1, ⟨ft2, b2, b2b⟩, b3, b4, b5, b6, b7, b8, b9, b10⟩ := hI4
        have hti := b3 i hi10
        refine k_aload B dX1_rainAgain_36 rfl (by first | exact kRf_r _ | exact kRf_q _ | exact kRf_n) ?_
        refine k_dup B dX1_rainAgain_38 rfl ?_
        refine gf_X1_68 B dX1_rainAgain_39 hti rfl ?_
        refine k_iload_n B dX1_rainAgain_42 rfl ?_
        refine k_iadd B dX1_rainAgain_43 ?_
        refine kK.rei (y := nI (F.1 i + u)) (by rw [hcmi, nI_add]) ?_
        refine pf_X1_68 B dX1_rainAgain_44 hti rfl ?_
        refine kK.eq (σ2 := kUp s2 (tad i) (tE (F.1 i + u) (F.2.1 i) (hdA (upN TP1 i P2 i)) (lsA (upN TP1 i P2 i)))) rfl ?_
        refine k_iinc1 B dX1_rainAgain_47 rfl (by decide) ?_
        try refine kK.set1 (by first | exact True.intro | rfl | exact kCat_q _) ?_
        refine k_goto B 2 dX1_rainAgain_50 (by decide) ?_
        refine kK.sub (L2 := [some (.ref aJ), some (.int (nI u)), some (.int (ldI fo)), some (.int (nI (i + 1))), none]) ⟨Or.inr rfl, Or.inr rfl, Or.inr rfl, Or.inr (by rw [← nI_1]), Or.inl rfl, trivial⟩ ?_
        have hI5 := hI3.one (c := i) (x := F.1 i + u) (y := F.2.1 i) hi10 (P2 := upN TP1 i P2 i) (SP2 := SP2) (s2 := kUp s2 (tad i) (tE (F.1 i + u) (F.2.1 i) (hdA (upN TP1 i P2 i)) (lsA (upN TP1 i P2 i)))) (kOut.up (Or.inr (Or.inl rfl))) (kUp_o (kNe b1 hti (by decide)) b1) kUp_eq (gSeg_keep (b4 i hi10) (fun a ha e he => by
          obtain ⟨p1, y1, hh⟩ := gSeg_adr (b4 i hi10) ha
          exact kUp_o (kNe hh hti (by decide)) he)) (gSeg_keep b5 (fun a ha e he => by
          obtain ⟨p1, y1, hh⟩ := gSeg_adr b5 ha
          exact kUp_o (kNe hh hti (by decide)) he)) (List.nodup_append.mpr ⟨b6 i hi10, b7, fun a ha b hb hab => b9 i hi10 a ha (hab ▸ hb)⟩) (fun a ha => Or.inl ha)
        refine ih (i + 1) k2 _ SP2 _ _ (by omega) (hI5.congr (cm2 := upN cm1 i (F.1 i + u)) (wt2 := F.2.1) (fun j _ => rfl) (fun j _ => by rw [upN_self])) (fun j hj => ?_) (fun j hj => ?_) (fun f hf => ⟨fun h => (hf2 f hf).1 h, fun h => (hf2 f hf).2 h⟩) hf3 (hFr2.tr (kFr.up hti (Or.inr (Or.inr rfl))))
        · by_cases q : j = i
          · subst q; rw [upN_eq, if_pos (by omega)]
          · rw [upN_ne q, hcm j hj]
            by_cases q2 : j < i
            · rw [if_pos q2, if_pos (by omega)]
            · rw [if_neg q2, if_neg (by omega)]
        · by_cases q : j = i
          · subst q
            rw [upN_eq, upN_eq, hP2]
            by_cases q2 : fo = some j
            · rw [if_pos q2, if_pos ⟨by omega, q2⟩]
            · rw [if_neg q2, if_neg (fun h => q2 h.2)]
          · rw [upN_ne q, upN_ne q, hTP1 j hj]
            by_cases q2 : j < i ∧ fo = some j
            · rw [if_pos q2, if_pos ⟨by omega, q2.2⟩]
            · rw [if_neg q2, if_neg (fun h => q2 ⟨by omega, h.2⟩)]
      refine k_iload_n B dX1_rainAgain_2 rfl ?_
      refine k_bipush B (v := 10) dX1_rainAgain_3 (by decide) ?_
      refine k_icmp_ge B 53 dX1_rainAgain_5 (by decide) (fun c5 => ?_) (fun c5 => ?_)
      · exact absurd (show nI 10 ≤ nI i from c5) (nI_ge hi10 (by omega))
      · refine k_aload_n B dX1_rainAgain_8 rfl (by first | exact kRf_r _ | exact kRf_q _ | exact kRf_n) ?_
        refine gf_X1_11 B dX1_rainAgain_9 h1 rfl ?_
        refine k_iload_n B dX1_rainAgain_12 rfl ?_
        refine k_aald B (ti := 7) (C := RX7) rfl dX1_rainAgain_13 h2 (vp_in_nI hi10 (by omega)) ?_
        refine kK.rev (y := .ref (tad i)) (by rw [nI_clamp (by omega), h2b i hi10]; rfl) ?_
        refine k_astore B dX1_rainAgain_14 (by decide) (by first | exact kRf_r _ | exact kRf_q _ | exact kRf_n) ?_
        try refine kK.set1 (by first | exact True.intro | rfl | exact kCat_q _) ?_
        refine k_iload_n B dX1_rainAgain_16 rfl ?_
        refine k_iload_n B dX1_rainAgain_17 rfl ?_
        refine k_icmp_ne B 36 dX1_rainAgain_18 (by decide) (fun c18 => ?_) (fun c18 => ?_)
        · -- not the followed cell
          have hne : ¬ fo = some i := by
            intro h
            rw [h] at c18
            exact c18 rfl
          refine rest k (TP1 i) SP1 s1 (by rw [upN_self]; exact hI1) (by rw [hTP1 i hi10, if_neg (fun h => by omega), if_neg hne]) (fun f hf => ⟨fun h => ?_, fun h => (hfs f hf).2 (by omega)⟩) hfn hFr
          have : f ≠ i := fun h2 => hne (by rw [hf, h2])
          exact (hfs f hf).1 (by omega)
        · -- the followed cell
          have hfo2 : fo = some i := by
            cases hfo3 : fo with
            | none => rw [hfo3] at c18; exact absurd c18 (fun h => by
                have h2 : nI i < 0 := by rw [h]; decide
                exact nI_pos (by omega) h2)
            | some f =>
              rw [hfo3] at c18
              have := (nI_eq (by omega) (by have := hfo f hfo3; omega)).mp c18
              rw [this]
          obtain ⟨hl1, hk0⟩ := (hfs i hfo2).2 (Nat.le_refl _)
          subst hk0
          have hcost : raC fo F = spN SP1 := by rw [raC, hfo2, spN_len, hl1]; rfl
          rw [hcost] at rest ⊢
          refine k_aload B dX1_rainAgain_21 rfl (by first | exact kRf_r _ | exact kRf_q _ | exact kRf_n) ?_
          refine k_aload_n B dX1_rainAgain_23 rfl (by first | exact kRf_r _ | exact kRf_q _ | exact kRf_n) ?_
          refine k_aload B dX1_rainAgain_24 rfl (by first | exact kRf_r _ | exact kRf_q _ | exact kRf_n) ?_
          refine gf_X1_68 B dX1_rainAgain_26 ht rfl ?_
          refine k_iload_n B dX1_rainAgain_29 rfl ?_
          refine cl_X1_74 B (c_X1_newPiece hl h1 h5 h7) h1 dX1_rainAgain_30 (by first | exact Nat.le_of_ble_eq_true rfl | omega | (simp only [kR, Value.category, kCat_q, List.map, List.sum_cons, List.sum_nil]; omega)) (by first | exact Nat.le_of_ble_eq_true rfl | omega | (simp only [kR, Value.category, kCat_q, List.map, List.sum_cons, List.sum_nil]; omega)) (by first | exact Nat.le_of_ble_eq_true rfl | omega | (simp only [kR, Value.category, kCat_q, List.map, List.sum_cons, List.sum_nil]; omega)) (by first | exact Nat.le_of_ble_eq_true rfl | omega | (simp only [kR, Value.category, kCat_q, List.map, List.sum_cons, List.sum_nil]; omega)) (by first | exact Nat.le_of_ble_eq_true rfl | omega | (simp only [kR, Value.category, kCat_q, List.map, List.sum_cons, List.sum_nil]; omega)) (fun _ hx => hx.elim) (fun v30 s30 hp30 => ?_)
          obtain ⟨b, SP2, nx, rfl, g1, g2, g3, g4, g5, g6⟩ := hp30
          have hne1 : ∀ {a : Nat} {e : va_E}, s1 a = some e → (∀ p y, e ≠ pcE p y) → (∀ a b cc dd, e ≠ jE a b cc dd) → ¬ (a = aJ ∨ a ∈ ad SP1) := by
            intro a e he q1 q2 hx
            rcases hx with q | q
            · rw [q, h1] at he; cases he; exact q2 _ _ _ _ rfl
            · obtain ⟨p1, y1, hh⟩ := gSeg_adr h5 q
              rw [he] at hh; cases hh; exact q1 _ _ rfl
          have ht2 := g4 _ _ ht (hne1 ht (fun _ _ z => by cases z) (fun _ _ _ _ z => by cases z))
          have hPi : ∀ a ∈ ad (TP1 i), ∀ e, s1 a = some e → s30 a = some e := fun a ha e he => g4 a e he (fun hx => by
            rcases hx with q | q
            · obtain ⟨p1, y1, hh⟩ := gSeg_adr (h4 i hi10) ha
              rw [q, h1] at hh; cases hh
            · exact h9 i hi10 a ha q)
          have hP2 : gSeg tpE s30 (TP1 i) none := gSeg_keep (h4 i hi10) hPi
          have hbP : b ∉ ad (TP1 i) := by
            intro hb
            rcases g5 with ⟨z1, z2, z3⟩ | ⟨q, z1⟩
            · obtain ⟨p1, y1, hh⟩ := gSeg_adr (h4 i hi10) hb
              rw [z3] at hh; cases hh
            · exact h9 i hi10 b hb (by rw [z1]; simp [ad])
          have hb3 : s30 b = some (tpE (F.1 i, u) nx) := by rw [g3, hcmi]; rfl
          refine cl_X1_78 B (c_X7_add hl ht2 hP2 (h6 i hi10) hb3 hbP) ht2 dX1_rainAgain_33 (by first | exact Nat.le_of_ble_eq_true rfl | omega | (simp only [kR, Value.category, kCat_q, List.map, List.sum_cons, List.sum_nil]; omega)) (by first | exact Nat.le_of_ble_eq_true rfl | omega | (simp only [kR, Value.category, kCat_q, List.map, List.sum_cons, List.sum_nil]; omega)) (by first | exact Nat.le_of_ble_eq_true rfl | omega | (simp only [kR, Value.category, kCat_q, List.map, List.sum_cons, List.sum_nil]; omega)) (by first | exact Nat.le_of_ble_eq_true rfl | omega | (simp only [kR, Value.category, kCat_q, List.map, List.sum_cons, List.sum_nil]; omega)) (by first | exact Nat.le_of_ble_eq_true rfl | omega | (simp only [kR, Value.category, kCat_q, List.map, List.sum_cons, List.sum_nil]; omega)) (fun _ hx => hx.elim) (fun v33 s33 hp33 => ?_)
          obtain ⟨rfl, w1, w2, w3, w4⟩ := hp33
          have hbS : b ∉ ad SP2 := by
            rcases g5 with ⟨z1, z2, z3⟩ | ⟨q, z1⟩
            · rw [z2]; simp [ad]
            · rw [z1] at h7
              exact (List.nodup_cons.mp h7).1
          have hS2 : ∀ x ∈ ad SP2, x ∈ ad SP1 := by
            rcases g5 with ⟨z1, z2, z3⟩ | ⟨q, z1⟩
            · rw [z2]; intro x hx; cases hx
            · rw [z1]; exact fun x hx => List.mem_cons_of_mem _ hx
          have hS2n : (ad SP2).Nodup := by
            rcases g5 with ⟨z1, z2, z3⟩ | ⟨q, z1⟩
            · rw [z2]; exact List.nodup_nil
            · rw [z1] at h7
              exact (List.nodup_cons.mp h7).2
          have hS2l : SP2.length = SP1.length - 1 := by
            rcases g5 with ⟨z1, z2, z3⟩ | ⟨q, z1⟩
            · rw [z2, z1]; rfl
            · rw [z1]; rfl
          have hk2 : ∀ {a : Nat} {e : va_E}, ¬ (a = tad i ∨ a = b ∨ a ∈ ad (TP1 i)) → s30 a = some e → s33 a = some e := fun hx he => w3 _ _ he hx
          have hjt : aJ ≠ tad i := kNe h1 ht (by decide)
          have hI3 := hI1.one (c := i) (x := cm1 i) (y := F.2.1 i) hi10 (P2 := TP1 i ++ [(b, (F.1 i, u))]) (SP2 := SP2) (s2 := s33) (fun a e he hx => hk2 (fun q => by
              rcases q with q | q | q
              · exact hx (Or.inr (Or.inl q))
              · rcases g5 with ⟨z1, z2, z3⟩ | ⟨q2, z1⟩
                · rw [q, z3] at he; cases he
                · exact hx (Or.inr (Or.inr (List.mem_append_right _ (by rw [z1, q]; simp [ad]))))
              · exact hx (Or.inr (Or.inr (List.mem_append_left _ q)))) (g4 a e he (fun q => by
              rcases q with q | q
              · exact hx (Or.inl q)
              · exact hx (Or.inr (Or.inr (List.mem_append_right _ q)))))) (hk2 (fun q => by
              rcases q with q | q | q
              · exact hjt q
              · rw [← q, g1] at hb3; cases hb3
              · obtain ⟨p1, y1, hh⟩ := gSeg_adr hP2 q
                rw [g1] at hh; cases hh) g1) w1 w2 (gSeg_keep g2 (fun a ha e he => hk2 (fun q => by
              rcases q with q | q | q
              · obtain ⟨p1, y1, hh⟩ := gSeg_adr g2 ha
                rw [q, ht2] at hh; cases hh
              · exact hbS (q ▸ ha)
              · exact h9 i hi10 a q (hS2 a ha)) he)) (by
              rw [ad_app]
              refine List.nodup_append.mpr ⟨List.nodup_append.mpr ⟨h6 i hi10, by simp [ad], fun x hx y hy h => ?_⟩, hS2n, fun x hx y hy h => ?_⟩
              · have : y = b := by simpa [ad] using hy
                exact hbP (this ▸ h ▸ hx)
              · rcases List.mem_append.mp hx with q | q
                · exact h9 i hi10 x q (hS2 x (h ▸ hy))
                · have : x = b := by simpa [ad] using q
                  exact hbS (this ▸ h ▸ hy)) (fun a ha => by
              rcases List.mem_append.mp ha with q | q
              · rw [ad_app] at q
                rcases List.mem_append.mp q with q | q
                · exact Or.inl (List.mem_append_left _ q)
                · have : a = b := by simpa [ad] using q
                  rcases g5 with ⟨z1, z2, z3⟩ | ⟨q2, z1⟩
                  · exact Or.inr (this ▸ z3)
                  · exact Or.inl (List.mem_append_right _ (by rw [z1, this]; simp [ad]))
              · exact Or.inl (List.mem_append_right _ (hS2 a q)))
          refine kK.widen (k2 := spN SP1) (n2 := 3 * spN SP1) (by omega) (by omega) ?_
          refine rest (spN SP1) (TP1 i ++ [(b, (F.1 i, u))]) SP2 s33 (hI3.congr (cm2 := cm1) (wt2 := F.2.1) (fun j _ => by rw [upN_self]) (fun j _ => by rw [upN_self])) ?_ (fun f hf => ⟨fun h => ⟨by rw [hS2l, hl1], rfl⟩, fun h => ?_⟩) (fun h => by rw [hfo2] at h; cases h) (hFr.tr ((g6.mono (fun k hk => hk.elim Or.inl (fun h => Or.inr (Or.inl h)))).tr (w4.mono (fun k hk => hk.elim (fun h => Or.inr (Or.inl h)) (fun h => Or.inr (Or.inr h))))))
          · show tCon (TP1 i ++ [(b, (F.1 i, u))]) = _
            rw [tCon, List.map_append, if_pos hfo2]
            have := hTP1 i hi10
            rw [if_neg (fun h => by omega), List.append_nil] at this
            rw [← this]; rfl
          · rw [hfo2] at hf
            cases hf
            omega
  refine k_iconst B (v := 0) dX1_rainAgain_0 (by decide) ?_
  refine k_istore_n B dX1_rainAgain_1 (by decide) ?_
  try refine kK.set1 (by first | exact True.intro | rfl | exact kCat_q _) ?_
  refine loop 10 0 0 TP SP F.1 σ (by omega) hI (fun j hj => by rw [if_neg (by omega)]) (fun j hj => by rw [if_neg (fun h => by omega), List.append_nil]; exact hTP j hj) (fun f hf => ⟨fun h => by omega, fun _ => ⟨hSPl, rfl⟩⟩) (fun _ => ⟨hSPl, rfl⟩) kFr.rf
end Folw
