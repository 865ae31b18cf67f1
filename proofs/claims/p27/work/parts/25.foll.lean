/-- an entry of the journal: a year's rain, or units from a cell to a place (cells, 10 the spring, 11 + lot) -/
abbrev kJe : Type := (Nat × Nat) ⊕ (Nat × Nat × Nat)
def jeM : kJe → kMv
  | .inl (y, u) => (-2, nI y, u)
  | .inr (f, d, u) => (nI f, toI d, u)
def jmE (q : kJe) (nx : Option Nat) : va_E := mE (jeM q) nx
abbrev kJs : Type := List (Nat × kJe)
def jCon (J : kJs) : List kJe := J.map (·.2)
/-- following: what came of it, the new pieces, and the tanks then -/
def fol (fc : Nat) (yI : Int32) (tg : Nat) : List kJe → kF → Nat × Nat
  | [], _ => (0, 0)
  | .inl (y, u) :: t, F => ((fol fc yI tg t (raF (if nI y = yI then some fc else none) u F)).1, raC (if nI y = yI then some fc else none) F + (fol fc yI tg t (raF (if nI y = yI then some fc else none) u F)).2)
  | .inr (f, d, u) :: t, F => if d = tg then (quV F f u, moC f (toO d) u F) else ((fol fc yI tg t (moF f (toO d) u F)).1, moC f (toO d) u F + (fol fc yI tg t (moF f (toO d) u F)).2)
def folF (fc : Nat) (yI : Int32) (tg : Nat) : List kJe → kF → kF
  | [], F => F
  | .inl (y, u) :: t, F => folF fc yI tg t (raF (if nI y = yI then some fc else none) u F)
  | .inr (f, d, u) :: t, F => if d = tg then moF f (toO d) u F else folF fc yI tg t (moF f (toO d) u F)
def folK (fc : Nat) (yI : Int32) (tg : Nat) : List kJe → kF → Prop
  | [], _ => True
  | .inl (y, u) :: t, F => folK fc yI tg t (raF (if nI y = yI then some fc else none) u F)
  | .inr (f, d, u) :: t, F => f < 10 ∧ (d < 10 → d ≠ f) ∧ d < 100 ∧ (∀ q ∈ F.2.2.1 f, F.2.1 f ≤ q.1 ∧ q.1 + q.2 < 2 ^ 30) ∧ F.2.1 f + u < 2 ^ 30 ∧ folK fc yI tg t (moF f (toO d) u F)
theorem toI_eq {d g : Nat} (hd : d < 100) (hg : 11 ≤ g) (hg2 : g < 100) : toI d = nI (g - 1) ↔ d = g := by
  by_cases h1 : d < 10
  · rw [toI, if_pos h1, nI_eq (by omega) (by omega)]; omega
  · by_cases h2 : d = 10
    · subst h2
      constructor
      · intro h
        have h3 : nI (g - 1) < 0 := by rw [← h]; decide
        exact absurd h3 (nI_pos (by omega))
      · intro h; omega
    · rw [toI, if_neg h1, if_neg h2, nI_eq (by omega) (by omega)]; omega
section Foll
variable {l : Launch} {D : va_G} {σ : kS} {aJ tk : Nat} {tad : Nat → Nat}
set_option maxHeartbeats 4000000 in
set_option maxRecDepth 100000 in
theorem c_X1_follow (hl : l.stackTraces = false) {F : kF} {J : kJs} {fc tg : Nat} {yI : Int32} (hF : tkF D aJ tk tad (hdA J) (lsA J) F σ) (hJ : gSeg jmE σ J none) (hfc : fc < 10) (htg : 11 ≤ tg) (htg2 : tg < 100) (hok : folK fc yI tg (jCon J) (emF F)) : kMh hX1_follow l D yX1_follow 5 (fol fc yI tg (jCon J) (emF F)).2 (3 * (fol fc yI tg (jCon J) (emF F)).2) [.ref aJ, .int (nI fc), .int yI, .int (nI (tg - 1))] σ (fun v s2 => v = some (.int (nI (fol fc yI tg (jCon J) (emF F)).1)) ∧ tkF D aJ tk tad (hdA J) (lsA J) (folF fc yI tg (jCon J) (emF F)) s2 ∧ kFr k147 σ s2) (fun _ => False) := by
  refine kM_of (L := [some (.ref aJ), some (.int (nI fc)), some (.int yI), some (.int (nI (tg - 1))), none, none]) (by decide +kernel) hl (List.forall_mem_cons.mpr ⟨rfl, (List.forall_mem_cons.mpr ⟨rfl, (List.forall_mem_cons.mpr ⟨rfl, (List.forall_mem_cons.mpr ⟨rfl, (fun _ h => absurd h List.not_mem_nil)⟩)⟩)⟩)⟩) (Nat.le_of_ble_eq_true rfl) rfl ?_
  intro p e s m args below meth c B hr hex hnm
  have B : kB p l s m args meth c D (kA σ s.heap.size) 6 cX1_follow RX1 := B
  generalize hMC : (fol fc yI tg (jCon J) (emF F)).2 = MC
  generalize hRS : (fol fc yI tg (jCon J) (emF F)).1 = RS
  generalize hFF : folF fc yI tg (jCon J) (emF F) = FF
  have loop : ∀ (T : kJs) (k : Nat) (G : kF) (s1 : kS), tkF D aJ tk tad (hdA J) (lsA J) G s1 → gSeg jmE s1 T none → folK fc yI tg (jCon T) G → k + (fol fc yI tg (jCon T) G).2 = MC → (fol fc yI tg (jCon T) G).1 = RS → folF fc yI tg (jCon T) G = FF → kFr k147 σ s1 →
      kK p l e (kR 5 MC (3 * MC)) s m args below meth c D (kA σ s.heap.size) 6 (kQ below args s D σ (fun v s2 => v = some (.int (nI RS)) ∧ tkF D aJ tk tad (hdA J) (lsA J) FF s2 ∧ kFr k147 σ s2) (fun _ => False) MC (3 * MC)) s1 k (3 * k) 10 [some (.ref aJ), some (.int (nI fc)), some (.int yI), some (.int (nI (tg - 1))), some (va_rf (hdA T)), none] [] := by
    intro T
    induction T with
    | nil =>
      intro k G s1 h1 h2 h3 h4 h5 h6 h7
      have h4 : k + 0 = MC := h4
      refine k_aload B dX1_follow_10 rfl (by first | exact kRf_r _ | exact kRf_q _ | exact kRf_n) ?_
      refine k_ifnullN B 81 dX1_follow_12 (by decide) ?_
      refine k_iconst B (v := 0) dX1_follow_81 (by decide) ?_
      refine k_iret B hr dX1_follow_82 ?_ (by first | exact Nat.le_of_ble_eq_true rfl | omega | (simp only [kR, Value.category, kCat_q, List.map, List.sum_cons, List.sum_nil]; omega)) (by first | exact Nat.le_of_ble_eq_true rfl | omega | (simp only [kR, Value.category, kCat_q, List.map, List.sum_cons, List.sum_nil]; omega))
      exact ⟨by rw [← h5]; rfl, by rw [← h6]; exact h1, h7⟩
    | cons r t ih =>
      obtain ⟨a, q⟩ := r
      intro k G s1 h1 h2 h3 h4 h5 h6 h7
      obtain ⟨TP, SP, hI, hTP, hSPl⟩ := h1
      have hJ1 := hI.1
      have h1 : tkF D aJ tk tad (hdA J) (lsA J) G s1 := ⟨TP, SP, hI, hTP, hSPl⟩
      have hkt : ∀ {s2 : kS}, kFr k147 s1 s2 → gSeg jmE s2 t none := fun hf => gSeg_keep h2.2 (fun b hb e he => by
        obtain ⟨p1, y1, hh⟩ := gSeg_adr h2.2 hb
        rw [hh] at he
        cases he
        exact hf _ _ hh (fun z => by rcases z with z | z | z <;> cases z))
      have hka : ∀ {s2 : kS}, kFr k147 s1 s2 → s2 a = some (jmE q (hdG t none)) := fun hf => hf _ _ h2.1 (fun z => by rcases z with z | z | z <;> cases z)
      cases q with
      | inl yu =>
        obtain ⟨y, u⟩ := yu
        have ha : s1 a = some (mE (-2, nI y, u) (hdG t none)) := h2.1
        have go : ∀ (fo : Option Nat), (if nI y = yI then some fc else none) = fo → kK p l e (kR 5 MC (3 * MC)) s m args below meth c D (kA σ s.heap.size) 6 (kQ below args s D σ (fun v s2 => v = some (.int (nI RS)) ∧ tkF D aJ tk tad (hdA J) (lsA J) FF s2 ∧ kFr k147 σ s2) (fun _ => False) MC (3 * MC)) s1 k (3 * k) 45 [some (.ref aJ), some (.int (nI fc)), some (.int yI), some (.int (nI (tg - 1))), some (.ref a), none] [.int (ldI fo), .int (nI u), .ref aJ] := by
          intro fo hfo
          have h3 : folK fc yI tg (jCon t) (raF (if nI y = yI then some fc else none) u G) := h3
          have h4 : k + (raC (if nI y = yI then some fc else none) G + (fol fc yI tg (jCon t) (raF (if nI y = yI then some fc else none) u G)).2) = MC := h4
          have h5 : (fol fc yI tg (jCon t) (raF (if nI y = yI then some fc else none) u G)).1 = RS := h5
          have h6 : folF fc yI tg (jCon t) (raF (if nI y = yI then some fc else none) u G) = FF := h6
          rw [hfo] at h3 h4 h5 h6
          refine cl_X1_46 B (c_X1_rainAgain hl (fo := fo) h1 (fun f hf => by
            rw [← hfo] at hf
            split at hf
            · cases hf; exact hfc
            · cases hf)) hJ1 dX1_follow_45 (by first | exact Nat.le_of_ble_eq_true rfl | omega | (simp only [kR, Value.category, kCat_q, List.map, List.sum_cons, List.sum_nil]; omega)) (by first | exact Nat.le_of_ble_eq_true rfl | omega | (simp only [kR, Value.category, kCat_q, List.map, List.sum_cons, List.sum_nil]; omega)) (by first | exact Nat.le_of_ble_eq_true rfl | omega | (simp only [kR, Value.category, kCat_q, List.map, List.sum_cons, List.sum_nil]; omega)) (by first | exact Nat.le_of_ble_eq_true rfl | omega | (simp only [kR, Value.category, kCat_q, List.map, List.sum_cons, List.sum_nil]; omega)) (by first | exact Nat.le_of_ble_eq_true rfl | omega | (simp only [kR, Value.category, kCat_q, List.map, List.sum_cons, List.sum_nil]; omega)) (fun _ hx => hx.elim) (fun v45 s45 hp45 => ?_)
          obtain ⟨rfl, g1, g2⟩ := hp45
          refine k_goto B 71 dX1_follow_48 (by decide) ?_
          refine k_aload B dX1_follow_71 rfl (by first | exact kRf_r _ | exact kRf_q _ | exact kRf_n) ?_
          refine gf_X1_30 B dX1_follow_73 (hka g2) rfl ?_
          refine k_astore B dX1_follow_76 (by decide) (by first | exact kRf_r _ | exact kRf_q _ | exact kRf_n) ?_
          try refine kK.set1 (by first | exact True.intro | rfl | exact kCat_q _) ?_
          refine k_goto B 10 dX1_follow_78 (by decide) ?_
          refine kK.sub (L2 := [some (.ref aJ), some (.int (nI fc)), some (.int yI), some (.int (nI (tg - 1))), some (va_rf (hdA t)), none]) ⟨Or.inr rfl, Or.inr rfl, Or.inr rfl, Or.inr rfl, Or.inr (by rw [← hdG_n]), Or.inl rfl, trivial⟩ ?_
          refine kK.widen (k2 := k + raC fo G) (n2 := 3 * (k + raC fo G)) (by omega) (by omega) ?_
          exact ih _ _ _ g1 (hkt g2) h3 (by omega) h5 h6 (h7.tr g2)
        refine k_aload B dX1_follow_10 rfl (by first | exact kRf_r _ | exact kRf_q _ | exact kRf_n) ?_
        refine k_ifnullR B 81 dX1_follow_12 (by decide) ?_
        refine k_aload B dX1_follow_15 rfl (by first | exact kRf_r _ | exact kRf_q _ | exact kRf_n) ?_
        refine gf_X1_36 B dX1_follow_17 ha rfl ?_
        refine k_bipush B (v := (-2)) dX1_follow_20 (by decide) ?_
        refine k_icmp_ne B 51 dX1_follow_22 (by decide) (fun c22 => ?_) (fun c22 => ?_)
        · exact absurd rfl c22
        · refine k_aload_n B dX1_follow_25 rfl (by first | exact kRf_r _ | exact kRf_q _ | exact kRf_n) ?_
          refine k_aload B dX1_follow_26 rfl (by first | exact kRf_r _ | exact kRf_q _ | exact kRf_n) ?_
          refine gf_X1_40 B dX1_follow_28 ha rfl ?_
          refine k_aload B dX1_follow_31 rfl (by first | exact kRf_r _ | exact kRf_q _ | exact kRf_n) ?_
          refine gf_X1_43 B dX1_follow_33 ha rfl ?_
          refine k_iload_n B dX1_follow_36 rfl ?_
          refine k_icmp_ne B 44 dX1_follow_37 (by decide) (fun c37 => ?_) (fun c37 => ?_)
          · refine k_iconst B (v := (-1)) dX1_follow_44 (by decide) ?_
            exact go none (by rw [if_neg c37])
          · refine k_iload_n B dX1_follow_40 rfl ?_
            refine k_goto B 45 dX1_follow_41 (by decide) ?_
            exact go (some fc) (by rw [if_pos c37])
      | inr fdu =>
        obtain ⟨f, d, u⟩ := fdu
        have ha : s1 a = some (mE (nI f, toI d, u) (hdG t none)) := h2.1
        obtain ⟨b1, b2, b3, b4, b5, b6⟩ := h3
        have hle : k + moC f (toO d) u G ≤ MC := by
          have : (fol fc yI tg (jCon ((a, .inr (f, d, u)) :: t)) G).2 = if d = tg then moC f (toO d) u G else moC f (toO d) u G + (fol fc yI tg (jCon t) (moF f (toO d) u G)).2 := by
            show (fol fc yI tg (.inr (f, d, u) :: jCon t) G).2 = _
            rw [fol]; split <;> rfl
          rw [this] at h4
          split at h4 <;> omega
        refine k_aload B dX1_follow_10 rfl (by first | exact kRf_r _ | exact kRf_q _ | exact kRf_n) ?_
        refine k_ifnullR B 81 dX1_follow_12 (by decide) ?_
        refine k_aload B dX1_follow_15 rfl (by first | exact kRf_r _ | exact kRf_q _ | exact kRf_n) ?_
        refine gf_X1_36 B dX1_follow_17 ha rfl ?_
        refine k_bipush B (v := (-2)) dX1_follow_20 (by decide) ?_
        refine k_icmp_ne B 51 dX1_follow_22 (by decide) (fun c22 => ?_) (fun c22 => ?_)
        · refine k_aload_n B dX1_follow_51 rfl (by first | exact kRf_r _ | exact kRf_q _ | exact kRf_n) ?_
          refine k_aload B dX1_follow_52 rfl (by first | exact kRf_r _ | exact kRf_q _ | exact kRf_n) ?_
          refine cl_X1_50 B (c_X1_moveAgain hl ha h1 b1 b2 (by omega) b4 b5) hJ1 dX1_follow_54 (by first | exact Nat.le_of_ble_eq_true rfl | omega | (simp only [kR, Value.category, kCat_q, List.map, List.sum_cons, List.sum_nil]; omega)) (by first | exact Nat.le_of_ble_eq_true rfl | omega | (simp only [kR, Value.category, kCat_q, List.map, List.sum_cons, List.sum_nil]; omega)) (by first | exact Nat.le_of_ble_eq_true rfl | omega | (simp only [kR, Value.category, kCat_q, List.map, List.sum_cons, List.sum_nil]; omega)) (by first | exact Nat.le_of_ble_eq_true rfl | omega | (simp only [kR, Value.category, kCat_q, List.map, List.sum_cons, List.sum_nil]; omega)) (by first | exact Nat.le_of_ble_eq_true rfl | omega | (simp only [kR, Value.category, kCat_q, List.map, List.sum_cons, List.sum_nil]; omega)) (fun _ hx => hx.elim) (fun v54 s54 hp54 => ?_)
          obtain ⟨rfl, g1, g2⟩ := hp54
          refine kK.rev (y := .int (nI (quV G f u))) rfl ?_
          refine k_istore B dX1_follow_57 (by decide) ?_
          try refine kK.set1 (by first | exact True.intro | rfl | exact kCat_q _) ?_
          refine k_aload B dX1_follow_59 rfl (by first | exact kRf_r _ | exact kRf_q _ | exact kRf_n) ?_
          refine gf_X1_43 B dX1_follow_61 (hka g2) rfl ?_
          refine k_iload_n B dX1_follow_64 rfl ?_
          refine k_icmp_ne B 71 dX1_follow_65 (by decide) (fun c65 => ?_) (fun c65 => ?_)
          · have hne : ¬ d = tg := fun h => c65 ((toI_eq b3 htg htg2).mpr h)
            have h4 : k + (fol fc yI tg (.inr (f, d, u) :: jCon t) G).2 = MC := h4
            have h5 : (fol fc yI tg (.inr (f, d, u) :: jCon t) G).1 = RS := h5
            have h6 : folF fc yI tg (.inr (f, d, u) :: jCon t) G = FF := h6
            rw [fol, if_neg hne] at h4 h5
            rw [folF, if_neg hne] at h6
            refine k_aload B dX1_follow_71 rfl (by first | exact kRf_r _ | exact kRf_q _ | exact kRf_n) ?_
            refine gf_X1_30 B dX1_follow_73 (hka g2) rfl ?_
            refine k_astore B dX1_follow_76 (by decide) (by first | exact kRf_r _ | exact kRf_q _ | exact kRf_n) ?_
            try refine kK.set1 (by first | exact True.intro | rfl | exact kCat_q _) ?_
            refine k_goto B 10 dX1_follow_78 (by decide) ?_
            refine kK.sub (L2 := [some (.ref aJ), some (.int (nI fc)), some (.int yI), some (.int (nI (tg - 1))), some (va_rf (hdA t)), none]) ⟨Or.inr rfl, Or.inr rfl, Or.inr rfl, Or.inr rfl, Or.inr (by rw [← hdG_n]), Or.inl rfl, trivial⟩ ?_
            refine kK.widen (k2 := k + moC f (toO d) u G) (n2 := 3 * (k + moC f (toO d) u G)) (by omega) (by omega) ?_
            exact ih _ _ _ g1 (hkt g2) b6 (by simp only [] at h4; omega) h5 h6 (h7.tr g2)
          · have hne : d = tg := (toI_eq b3 htg htg2).mp c65
            have h5 : (fol fc yI tg (.inr (f, d, u) :: jCon t) G).1 = RS := h5
            have h6 : folF fc yI tg (.inr (f, d, u) :: jCon t) G = FF := h6
            rw [fol, if_pos hne] at h5
            rw [folF, if_pos hne] at h6
            refine k_iload B dX1_follow_68 rfl ?_
            refine k_iret B hr dX1_follow_70 ?_ (by first | exact Nat.le_of_ble_eq_true rfl | omega | (simp only [kR, Value.category, kCat_q, List.map, List.sum_cons, List.sum_nil]; omega)) (by first | exact Nat.le_of_ble_eq_true rfl | omega | (simp only [kR, Value.category, kCat_q, List.map, List.sum_cons, List.sum_nil]; omega))
            exact ⟨by rw [← h5], by rw [← h6]; exact g1, h7.tr g2⟩
        · exact absurd c22 (by
            intro h
            have hz : nI f = -2 := h
            have h2 : nI f < 0 := by rw [hz]; decide
            exact nI_pos (by omega) h2)
  obtain ⟨TP, SP, hI, hTP, hSPl⟩ := hF
  refine k_aload_n B dX1_follow_0 rfl (by first | exact kRf_r _ | exact kRf_q _ | exact kRf_n) ?_
  refine cl_X1_33 B (c_X1_emptyTanks hl ⟨TP, SP, hI, hTP, hSPl⟩) hI.1 dX1_follow_1 (by first | exact Nat.le_of_ble_eq_true rfl | omega | (simp only [kR, Value.category, kCat_q, List.map, List.sum_cons, List.sum_nil]; omega)) (by first | exact Nat.le_of_ble_eq_true rfl | omega | (simp only [kR, Value.category, kCat_q, List.map, List.sum_cons, List.sum_nil]; omega)) (by first | exact Nat.le_of_ble_eq_true rfl | omega | (simp only [kR, Value.category, kCat_q, List.map, List.sum_cons, List.sum_nil]; omega)) (by first | exact Nat.le_of_ble_eq_true rfl | omega | (simp only [kR, Value.category, kCat_q, List.map, List.sum_cons, List.sum_nil]; omega)) (by first | exact Nat.le_of_ble_eq_true rfl | omega | (simp only [kR, Value.category, kCat_q, List.map, List.sum_cons, List.sum_nil]; omega)) (fun _ hx => hx.elim) (fun v1 s1 hp1 => ?_)
  obtain ⟨rfl, g1, g2⟩ := hp1
  obtain ⟨TP2, SP2, hI2, hTP2, hSPl2⟩ := g1
  refine k_aload_n B dX1_follow_4 rfl (by first | exact kRf_r _ | exact kRf_q _ | exact kRf_n) ?_
  refine gf_X1_27 B dX1_follow_5 hI2.1 rfl ?_
  refine k_astore B dX1_follow_8 (by decide) (by first | exact kRf_r _ | exact kRf_q _ | exact kRf_n) ?_
  try refine kK.set1 (by first | exact True.intro | rfl | exact kCat_q _) ?_
  refine loop J 0 (emF F) s1 ⟨TP2, SP2, hI2, hTP2, hSPl2⟩ (gSeg_keep hJ (fun b hb e he => by
    obtain ⟨p1, y1, hh⟩ := gSeg_adr hJ hb
    rw [hh] at he
    cases he
    exact g2 _ _ hh (fun z => by rcases z with z | z | z <;> cases z))) hok (by omega) hRS hFF g2
end Foll
