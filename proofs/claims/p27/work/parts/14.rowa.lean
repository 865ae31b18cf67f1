theorem kUp_self {σ : kS} {a : Nat} {e : va_E} (h : σ a = some e) : kUp σ a e = σ := by
  funext b
  by_cases q : b = a
  · subst q; rw [kUp_eq, h]
  · rw [kUp_ne q]
def lsO : kPs → Option Nat → Option Nat
  | [], z => z
  | (a, _) :: t, _ => lsO t (some a)
theorem lsO_eq : ∀ (T : kPs) (z : Option Nat), T ≠ [] → lsO T z = lsA T
  | [], _, h => absurd rfl h
  | [(a, p)], _, _ => rfl
  | (a, p) :: b :: t, _, _ => lsO_eq (b :: t) (some a) (by simp)
def k56 (k : Nat) : Prop := k = 5 ∨ k = 6
section RowA
variable {l : Launch} {D : va_G} {σ : kS}
set_option maxRecDepth 100000 in
theorem c_X6_append (hl : l.stackTraces = false) {ρ u : Nat} {L T : kPs} (hρ : σ ρ = some (rowE (nI u) (hdA L) (lsA L))) (hL : pCh σ L) (hT : pCh σ T) (hn : (adr L).Nodup) (hd : ∀ a ∈ adr L, a ∉ adr T) : kMh hX6_append l D yX6_append 1 0 0 [.ref ρ, va_rf (hdA T)] σ (fun v s2 => v = none ∧ s2 ρ = some (rowE (nI (u + unS (kCon T))) (hdA (L ++ T)) (lsA (L ++ T))) ∧ pCh s2 (L ++ T) ∧ kOut (fun b => b = ρ ∨ b ∈ adr L) σ s2 ∧ kFr k56 σ s2) (fun _ => False) := by
  refine kM_of (L := [some (.ref ρ), some (va_rf (hdA T)), none]) (by decide +kernel) hl (List.forall_mem_cons.mpr ⟨rfl, (List.forall_mem_cons.mpr ⟨kCat_q _, (fun _ h => absurd h List.not_mem_nil)⟩)⟩) (Nat.le_of_ble_eq_true rfl) rfl ?_
  intro p e s m args below meth c B hr hex hnm
  have B : kB p l s m args meth c D (kA σ s.heap.size) 3 cX6_append RX6 := B
  cases T with
  | nil =>
    refine k_aload_n B dX6_append_0 rfl (by first | exact kRf_r _ | exact kRf_q _ | exact kRf_n) ?_
    refine k_ifnonnullN B 5 dX6_append_1 (by decide) ?_
    refine k_vret B hr dX6_append_4 ?_ (by first | exact Nat.le_of_ble_eq_true rfl | omega | (simp only [kR, Value.category, kCat_q, List.map, List.sum_cons, List.sum_nil]; omega)) (by first | exact Nat.le_of_ble_eq_true rfl | omega | (simp only [kR, Value.category, kCat_q, List.map, List.sum_cons, List.sum_nil]; omega))
    exact ⟨rfl, by rw [List.append_nil]; exact hρ, by rw [List.append_nil]; exact hL, kOut.rf, kFr.rf⟩
  | cons q t =>
    obtain ⟨t0, q⟩ := q
    have loop : ∀ (s1 : kS) (r0 : va_E) (F : Option Nat), s1 ρ = some (.inr (6, [.int (nI u), va_rf F, va_rf F])) ∨ (∃ x y z, s1 ρ = some (rowE x y z)) → ∀ (T2 : kPs) (x : Nat) (zz : Option Nat), pCh s1 T2 → x + unS (kCon T2) = u + unS (kCon ((t0, q) :: t)) → lsO T2 zz = lsA ((t0, q) :: t) →
        ((kUp s1 ρ (rowE (nI (u + unS (kCon ((t0, q) :: t)))) F (lsA ((t0, q) :: t)))) ρ = some (rowE (nI (u + unS (kCon ((t0, q) :: t)))) (hdA (L ++ (t0, q) :: t)) (lsA (L ++ (t0, q) :: t))) ∧ pCh (kUp s1 ρ (rowE (nI (u + unS (kCon ((t0, q) :: t)))) F (lsA ((t0, q) :: t)))) (L ++ (t0, q) :: t) ∧ kOut (fun b => b = ρ ∨ b ∈ adr L) σ (kUp s1 ρ (rowE (nI (u + unS (kCon ((t0, q) :: t)))) F (lsA ((t0, q) :: t)))) ∧ kFr k56 σ (kUp s1 ρ (rowE (nI (u + unS (kCon ((t0, q) :: t)))) F (lsA ((t0, q) :: t))))) →
        kK p l e (kR 1 0 0) s m args below meth c D (kA σ s.heap.size) 3 (kQ below args s D σ (fun v s2 => v = none ∧ s2 ρ = some (rowE (nI (u + unS (kCon ((t0, q) :: t)))) (hdA (L ++ (t0, q) :: t)) (lsA (L ++ (t0, q) :: t))) ∧ pCh s2 (L ++ (t0, q) :: t) ∧ kOut (fun b => b = ρ ∨ b ∈ adr L) σ s2 ∧ kFr k56 σ s2) (fun _ => False) 0 0) (kUp s1 ρ (rowE (nI x) F zz)) 0 0 30 [some (.ref ρ), some (.ref t0), some (va_rf (hdA T2))] [] := by
      intro s1 r0 F hs1 T2
      induction T2 with
      | nil =>
        intro x zz hT2 hx hz hpost
        have e1 : x = u + unS (kCon ((t0, q) :: t)) := hx
        have e2 : zz = lsA ((t0, q) :: t) := hz
        refine k_aload_n B dX6_append_30 rfl (by first | exact kRf_r _ | exact kRf_q _ | exact kRf_n) ?_
        refine k_ifnullN B 60 dX6_append_31 (by decide) ?_
        refine k_vret B hr dX6_append_60 ?_ (by first | exact Nat.le_of_ble_eq_true rfl | omega | (simp only [kR, Value.category, kCat_q, List.map, List.sum_cons, List.sum_nil]; omega)) (by first | exact Nat.le_of_ble_eq_true rfl | omega | (simp only [kR, Value.category, kCat_q, List.map, List.sum_cons, List.sum_nil]; omega))
        rw [e1, e2]
        exact ⟨rfl, hpost⟩
      | cons r t2 ih =>
        obtain ⟨a, r⟩ := r
        intro x zz hT2 hx hz hpost
        have hne : a ≠ ρ := by
          rcases hs1 with h | ⟨x1, x2, x3, h⟩
          · exact kNe hT2.1 h (by decide)
          · exact kNe hT2.1 h (by decide)
        have ha := kUp_o (e := rowE (nI x) F zz) hne hT2.1
        refine k_aload_n B dX6_append_30 rfl (by first | exact kRf_r _ | exact kRf_q _ | exact kRf_n) ?_
        refine k_ifnullR B 60 dX6_append_31 (by decide) ?_
        refine k_aload_n B dX6_append_34 rfl (by first | exact kRf_r _ | exact kRf_q _ | exact kRf_n) ?_
        refine k_dup B dX6_append_35 rfl ?_
        refine gf_X6_9 B dX6_append_36 kUp_eq rfl ?_
        refine k_aload_n B dX6_append_39 rfl (by first | exact kRf_r _ | exact kRf_q _ | exact kRf_n) ?_
        refine gf_X6_27 B dX6_append_40 ha rfl ?_
        refine k_iadd B dX6_append_43 ?_
        refine kK.rei (y := nI (x + kUn r)) (by rw [nI_add]; rfl) ?_
        refine pf_X6_9 B dX6_append_44 kUp_eq rfl ?_
        refine k_aload_n B dX6_append_47 rfl (by first | exact kRf_r _ | exact kRf_q _ | exact kRf_n) ?_
        refine k_aload_n B dX6_append_48 rfl (by first | exact kRf_r _ | exact kRf_q _ | exact kRf_n) ?_
        refine pf_X6_19 B dX6_append_49 kUp_eq rfl (by first | exact kRf_r _ | exact kRf_q _ | exact kRf_n) ?_
        refine kK.eq (σ2 := kUp s1 ρ (rowE (nI (x + kUn r)) F (some a))) (by rw [kUp_uu, kUp_uu]; rfl) ?_
        refine k_aload_n B dX6_append_52 rfl (by first | exact kRf_r _ | exact kRf_q _ | exact kRf_n) ?_
        refine gf_X6_22 B dX6_append_53 (kUp_o hne hT2.1) rfl ?_
        refine k_astore_n B dX6_append_56 (by decide) (by first | exact kRf_r _ | exact kRf_q _ | exact kRf_n) ?_
        try refine kK.set1 (by first | exact True.intro | rfl | exact kCat_q _) ?_
        refine k_goto B 30 dX6_append_57 (by decide) ?_
        exact ih _ _ hT2.2 (by rw [← hx]; simp only [kCon, List.map_cons, unS]; omega) hz hpost
    rcases List.eq_nil_or_concat L with hL0 | ⟨L0, b, hL0⟩
    · subst hL0
      refine k_aload_n B dX6_append_0 rfl (by first | exact kRf_r _ | exact kRf_q _ | exact kRf_n) ?_
      refine k_ifnonnullR B 5 dX6_append_1 (by decide) ?_
      refine k_aload_n B dX6_append_5 rfl (by first | exact kRf_r _ | exact kRf_q _ | exact kRf_n) ?_
      refine gf_X6_19 B dX6_append_6 hρ rfl ?_
      refine k_ifnonnullN B 20 dX6_append_9 (by decide) ?_
      refine k_aload_n B dX6_append_12 rfl (by first | exact kRf_r _ | exact kRf_q _ | exact kRf_n) ?_
      refine k_aload_n B dX6_append_13 rfl (by first | exact kRf_r _ | exact kRf_q _ | exact kRf_n) ?_
      refine pf_X6_15 B dX6_append_14 hρ rfl (by first | exact kRf_r _ | exact kRf_q _ | exact kRf_n) ?_
      refine k_goto B 28 dX6_append_17 (by decide) ?_
      refine k_aload_n B dX6_append_28 rfl (by first | exact kRf_r _ | exact kRf_q _ | exact kRf_n) ?_
      refine k_astore_n B dX6_append_29 (by decide) (by first | exact kRf_r _ | exact kRf_q _ | exact kRf_n) ?_
      try refine kK.set1 (by first | exact True.intro | rfl | exact kCat_q _) ?_
      refine loop σ (rowE 0 none none) (some t0) (Or.inr ⟨_, _, _, hρ⟩) ((t0, q) :: t) u none hT rfl (lsO_eq _ _ (by simp)) ⟨kUp_eq, ?_, kOut.up (Or.inl rfl), kFr.up hρ (Or.inr rfl)⟩
      exact pCh_keep hT (fun a ha x hx => kUp_o (by
        obtain ⟨p1, y1, h1⟩ := pSeg_adr (pCh_iff.mp hT) ha
        exact kNe h1 hρ (by decide)) hx)
    · obtain ⟨b, pb⟩ := b
      rw [List.concat_eq_append] at hL0
      have hseg : pSeg σ (L0 ++ [(b, pb)]) none := by rw [← hL0]; exact pCh_iff.mp hL
      obtain ⟨g1, g2⟩ := pSeg_app.mp hseg
      have hbσ : σ b = some (pE pb none) := g2.1
      have hlsb : lsA L = some b := by rw [hL0]; exact lsA_snoc _ _ _
      have hbρ : b ≠ ρ := kNe hbσ hρ (by decide)
      have hρ2 : σ ρ = some (rowE (nI u) (hdA L) (some b)) := by rw [← hlsb]; exact hρ
      have hbL : b ∈ adr L := by rw [hL0]; simp [adr]
      have hnb : b ∉ adr L0 := by
        rw [hL0] at hn
        simp only [adr, List.map_append, List.map_cons, List.map_nil, List.nodup_append] at hn
        intro h
        exact hn.2.2 b h b (by simp) rfl
      refine k_aload_n B dX6_append_0 rfl (by first | exact kRf_r _ | exact kRf_q _ | exact kRf_n) ?_
      refine k_ifnonnullR B 5 dX6_append_1 (by decide) ?_
      refine k_aload_n B dX6_append_5 rfl (by first | exact kRf_r _ | exact kRf_q _ | exact kRf_n) ?_
      refine gf_X6_19 B dX6_append_6 hρ2 rfl ?_
      refine k_ifnonnullR B 20 dX6_append_9 (by decide) ?_
      refine k_aload_n B dX6_append_20 rfl (by first | exact kRf_r _ | exact kRf_q _ | exact kRf_n) ?_
      refine gf_X6_19 B dX6_append_21 hρ2 rfl ?_
      refine k_aload_n B dX6_append_24 rfl (by first | exact kRf_r _ | exact kRf_q _ | exact kRf_n) ?_
      refine pf_X6_22 B dX6_append_25 hbσ rfl (by first | exact kRf_r _ | exact kRf_q _ | exact kRf_n) ?_
      refine kK.eq (σ2 := kUp (kUp σ b (pE pb (some t0))) ρ (rowE (nI u) (hdA L) (some b))) (by rw [kUp_self (kUp_o (Ne.symm hbρ) hρ2)]; rfl) ?_
      refine k_aload_n B dX6_append_28 rfl (by first | exact kRf_r _ | exact kRf_q _ | exact kRf_n) ?_
      refine k_astore_n B dX6_append_29 (by decide) (by first | exact kRf_r _ | exact kRf_q _ | exact kRf_n) ?_
      try refine kK.set1 (by first | exact True.intro | rfl | exact kCat_q _) ?_
      have hT1 : pCh (kUp σ b (pE pb (some t0))) ((t0, q) :: t) := pCh_keep hT (fun a ha x hx => kUp_o (fun h => hd b hbL (h ▸ ha)) hx)
      have hρ3 : kUp σ b (pE pb (some t0)) ρ = some (rowE (nI u) (hdA L) (some b)) := kUp_o (Ne.symm hbρ) hρ2
      refine loop (kUp σ b (pE pb (some t0))) (rowE 0 none none) (hdA L) (Or.inr ⟨_, _, _, hρ3⟩) ((t0, q) :: t) u (some b) hT1 rfl (lsO_eq _ _ (by simp)) ⟨?_, ?_, (kOut.up (Or.inr hbL)).tr (kOut.up (Or.inl rfl)), (kFr.up hbσ (Or.inl rfl)).tr (kFr.up hρ3 (Or.inr rfl))⟩
      · rw [kUp_eq, lsA_app _ _ (by simp), hL0]
        cases L0 <;> rfl
      · refine pCh_keep (σ := kUp σ b (pE pb (some t0))) (pCh_iff.mpr ?_) (fun a ha x hx => kUp_o (by
          have hs : pCh (kUp σ b (pE pb (some t0))) (L ++ (t0, q) :: t) := pCh_iff.mpr (by
            rw [hL0, List.append_assoc]
            exact pSeg_app.mpr ⟨pSeg_up g1 hnb, kUp_eq, pCh_iff.mp hT1⟩)
          obtain ⟨p1, y1, h1⟩ := pSeg_adr (pCh_iff.mp hs) ha
          exact kNe h1 hρ3 (by decide)) hx)
        rw [hL0, List.append_assoc]
        exact pSeg_app.mpr ⟨pSeg_up g1 hnb, kUp_eq, pCh_iff.mp hT1⟩
end RowA
