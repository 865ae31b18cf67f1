section Knot2
variable {l : Launch} {D : va_G} {σ : kS} {aM : Nat} {ma : Nat → Nat} {mv : Nat → Nat → Int32} {q : kQc}
set_option maxRecDepth 100000 in
theorem c_X10_nitrateOf (hl : l.stackTraces = false) (h : mI D aM ma mv q σ) {r : Nat} {L : kPs} (hr5 : r < 51) (hL : knR mv r L) (hk : ∀ a ∈ L, a.1 < 6200 ∧ a.2.2.2.1 < 2 ^ 31 ∧ kUn a.2 < 2 ^ 31) : kMh hX10_nitrateOf l D yX10_nitrateOf 1 0 0 [.ref aM, .int (nI r)] σ (fun v s2 => v = some (.long (nL (niS (kCon L)))) ∧ s2 = σ) (fun _ => False) := by
  refine kM_of (L := [some (.ref aM), some (.int (nI r)), none, none, none]) (by decide +kernel) hl (List.forall_mem_cons.mpr ⟨rfl, (List.forall_mem_cons.mpr ⟨rfl, (fun _ h => absurd h List.not_mem_nil)⟩)⟩) (Nat.le_of_ble_eq_true rfl) rfl ?_
  intro p e s m args below meth c B hr hex hnm
  have B : kB p l s m args meth c D (kA σ s.heap.size) 5 cX10_nitrateOf RX10 := B
  have loop : ∀ (T : kPs) (x : Nat), knS mv T → (∀ a ∈ T, a.1 < 6200 ∧ a.2.2.2.1 < 2 ^ 31 ∧ kUn a.2 < 2 ^ 31) → x + niS (kCon T) = niS (kCon L) → kK p l e (kR 1 0 0) s m args below meth c D (kA σ s.heap.size) 5 (kQ below args s D σ (fun v s2 => v = some (.long (nL (niS (kCon L)))) ∧ s2 = σ) (fun _ => False) 0 0) σ 0 0 10 [some (.ref aM), some (.int (nI r)), some (.long (nL x)), none, some (.int (ldI (hdA T)))] [] := by
    intro T
    induction T with
    | nil =>
      intro x h1 h2 h3
      have h3 : x + 0 = niS (kCon L) := h3
      refine k_iload B dX10_nitrateOf_10 rfl ?_
      refine k_iconst B (v := (-1)) dX10_nitrateOf_12 (by decide) ?_
      refine k_icmp_eq B 48 dX10_nitrateOf_13 (by decide) (fun c13 => ?_) (fun c13 => ?_)
      · refine k_lload_n B dX10_nitrateOf_48 rfl ?_
        refine k_lret B hr dX10_nitrateOf_49 ?_ (by first | exact Nat.le_of_ble_eq_true rfl | omega | (simp only [kR, Value.category, kCat_q, List.map, List.sum_cons, List.sum_nil]; omega)) (by first | exact Nat.le_of_ble_eq_true rfl | omega | (simp only [kR, Value.category, kCat_q, List.map, List.sum_cons, List.sum_nil]; omega))
        exact ⟨by rw [← h3]; rfl, rfl⟩
      · exact absurd rfl c13
    | cons b t ih =>
      obtain ⟨j, pp⟩ := b
      intro x h1 h2 h3
      obtain ⟨hj, hn, hu⟩ := h2 (j, pp) List.mem_cons_self
      have hj : j < 6200 := hj
      have h3 : x + (kUn pp * pp.2.2.1 + niS (kCon t)) = niS (kCon L) := h3
      refine k_iload B dX10_nitrateOf_10 rfl ?_
      refine k_iconst B (v := (-1)) dX10_nitrateOf_12 (by decide) ?_
      refine k_icmp_eq B 48 dX10_nitrateOf_13 (by decide) (fun c13 => ?_) (fun c13 => ?_)
      · rename_i c13
        exact absurd c13 (ldI_no (by omega))
      · refine kK.sub (L2 := [some (.ref aM), some (.int (nI r)), some (.long (nL x)), none, some (.int (nI j))]) ⟨Or.inr rfl, Or.inr rfl, Or.inr rfl, Or.inl rfl, Or.inr rfl, trivial⟩ ?_
        refine k_lload_n B dX10_nitrateOf_16 rfl ?_
        refine k_aload_n B dX10_nitrateOf_17 rfl (by first | exact kRf_r _ | exact kRf_q _ | exact kRf_n) ?_
        refine gf_X10_40 B dX10_nitrateOf_18 h.o rfl ?_
        refine k_iload B dX10_nitrateOf_21 rfl ?_
        refine k_iald B dX10_nitrateOf_23 (h.i (k := 12) rfl (by decide)) (vp_in_nI hj (by decide)) ?_
        refine kK.rei (y := nI (kUn pp)) (by rw [nI_clamp (by omega)]; exact h1.2.1.2.2.2.2) ?_
        refine k_i2l B dX10_nitrateOf_24 ?_
        refine kK.rel (y := nL (kUn pp)) (nI_L hu) ?_
        refine k_aload_n B dX10_nitrateOf_25 rfl (by first | exact kRf_r _ | exact kRf_q _ | exact kRf_n) ?_
        refine gf_X10_49 B dX10_nitrateOf_26 h.o rfl ?_
        refine k_iload B dX10_nitrateOf_29 rfl ?_
        refine k_iald B dX10_nitrateOf_31 (h.i (k := 15) rfl (by decide)) (vp_in_nI hj (by decide)) ?_
        refine kK.rei (y := nI pp.2.2.1) (by rw [nI_clamp (by omega)]; exact h1.2.1.2.2.1) ?_
        refine k_i2l B dX10_nitrateOf_32 ?_
        refine kK.rel (y := nL pp.2.2.1) (nI_L hn) ?_
        refine k_lmul B dX10_nitrateOf_33 ?_
        refine kK.rel (y := nL (kUn pp * pp.2.2.1)) (nL_mul _ _) ?_
        refine k_ladd B dX10_nitrateOf_34 ?_
        refine kK.rel (y := nL (x + kUn pp * pp.2.2.1)) (nL_add _ _) ?_
        refine k_lstore_n B dX10_nitrateOf_35 (by decide) ?_
        refine k_aload_n B dX10_nitrateOf_36 rfl (by first | exact kRf_r _ | exact kRf_q _ | exact kRf_n) ?_
        refine gf_X10_37 B dX10_nitrateOf_37 h.o rfl ?_
        refine k_iload B dX10_nitrateOf_40 rfl ?_
        refine k_iald B dX10_nitrateOf_42 (h.i (k := 11) rfl (by decide)) (vp_in_nI hj (by decide)) ?_
        refine kK.rei (y := ldI (hdA t)) (by rw [nI_clamp (by omega)]; exact h1.1) ?_
        refine k_istore B dX10_nitrateOf_43 (by decide) ?_
        try refine kK.set1 (by first | exact True.intro | rfl | exact kCat_q _) ?_
        refine k_goto B 10 dX10_nitrateOf_45 (by decide) ?_
        refine kK.sub (L2 := [some (.ref aM), some (.int (nI r)), some (.long (nL (x + kUn pp * pp.2.2.1))), none, some (.int (ldI (hdA t)))]) ⟨Or.inr rfl, Or.inr rfl, Or.inr rfl, Or.inl rfl, Or.inr rfl, trivial⟩ ?_
        exact ih _ h1.2.2 (fun a ha => h2 a (List.mem_cons_of_mem _ ha)) (by omega)
  refine k_lconst B (v := 0) dX10_nitrateOf_0 (by decide) ?_
  refine k_lstore_n B dX10_nitrateOf_1 (by decide) ?_
  refine k_aload_n B dX10_nitrateOf_2 rfl (by first | exact kRf_r _ | exact kRf_q _ | exact kRf_n) ?_
  refine gf_X10_28 B dX10_nitrateOf_3 h.o rfl ?_
  refine k_iload_n B dX10_nitrateOf_6 rfl ?_
  refine k_iald B dX10_nitrateOf_7 (h.i (k := 7) rfl (by decide)) (vp_in_nI hr5 (by decide)) ?_
  refine kK.rei (y := ldI (hdA L)) (by rw [nI_clamp (by omega)]; exact hL.1) ?_
  refine k_istore B dX10_nitrateOf_8 (by decide) ?_
  try refine kK.set1 (by first | exact True.intro | rfl | exact kCat_q _) ?_
  refine kK.sub (L2 := [some (.ref aM), some (.int (nI r)), some (.long (nL 0)), none, some (.int (ldI (hdA L)))]) ⟨Or.inr rfl, Or.inr rfl, Or.inr rfl, Or.inl rfl, Or.inr rfl, trivial⟩ ?_
  exact loop L 0 hL.2.2.2 hk (by omega)
end Knot2
