section Law2
variable {p : Program} {l : Launch} {e : Env} {s : State} {m : MethodId} {args : Array Value} {below : List Frame} {meth : Method} {c : Code} {D : va_G} {A : Nat → Prop} {Q : State → Prop} {σ : kS} {aO aM aL aD b N i st k n : Nat} {ma : Nat → Nat} {xs : Nat → Int32}
set_option maxHeartbeats 1000000 in
set_option maxRecDepth 100000 in
theorem law_share (B : kB p l s m args meth c D A 9 cL_law RL) (hl : l.stackTraces = false) (hX : va_X b N xs s s.heap) (hbl : b < s.heap.size) (hbA : ¬ A b) (hrc : 20000 ≤ room_1.cells) (hrs : 200000 ≤ room_1.slots) (hN : N ≤ 2048) (hi : i + 4 ≤ N) (hst : st ≤ 512) (hI : lI D aO aM aL aD ma st k n σ) (nxt : ∀ (σ2 : kS) (k2 n2 : Nat), lI D aO aM aL aD ma (st + 1) k2 n2 σ2 → kK p l e room_1 s m args below meth c D A 9 Q σ2 k2 n2 1697 [some (.ref b), some (.ref aO), some (.ref aM), some (.ref aL), some (.ref aD), some (.int (nI i)), none, none, none] []) : kK p l e room_1 s m args below meth c D A 9 Q σ k n 684 [some (.ref b), some (.ref aO), some (.ref aM), some (.ref aL), some (.ref aD), some (.int (nI i)), none, none, none] [] := by
  obtain ⟨z, J, F, t, hs, hj, h9, h10, ⟨f0, hL⟩, ⟨g0, hD⟩, hc, hk, hn⟩ := hI
  have hn3 := hs.1.1
  obtain ⟨fs9, hf9⟩ := h9.fs
  obtain ⟨fs10, hf10⟩ := h10.o
  refine k_aload_n B dL_law_684 rfl (by first | exact kRf_r _ | exact kRf_q _ | exact kRf_n) ?_
  refine k_aload_n B dL_law_685 rfl (by first | exact kRf_r _ | exact kRf_q _ | exact kRf_n) ?_
  refine k_iload B dL_law_686 rfl ?_
  refine k_iconst B (v := 1) dL_law_688 (by decide) ?_
  refine k_iadd B dL_law_689 ?_
  refine kK.rei (y := nI (i + 1)) (nI_add i 1) ?_
  refine k_sld B hX hbl hbA (vp_in_nI (show i + 1 < N by omega) (by omega)) dL_law_690 ?_
  refine kK.rei (y := xs (i + 1)) (by rw [nI_clamp (by omega)]) ?_
  refine k_aload_n B dL_law_691 rfl (by first | exact kRf_r _ | exact kRf_q _ | exact kRf_n) ?_
  refine cl_L_127 B (c_L_share hl hs h9 hL) dL_law_692 (by first | exact Nat.le_of_ble_eq_true rfl | omega | (simp only [kR, Value.category, kCat_q, List.map, List.sum_cons, List.sum_nil]; omega)) (by first | exact Nat.le_of_ble_eq_true rfl | omega | (simp only [kR, Value.category, kCat_q, List.map, List.sum_cons, List.sum_nil]; omega)) (by first | exact Nat.le_of_ble_eq_true rfl | omega | (simp only [kR, Value.category, kCat_q, List.map, List.sum_cons, List.sum_nil]; omega)) (by first | exact Nat.le_of_ble_eq_true rfl | omega | (simp only [kR, Value.category, kCat_q, List.map, List.sum_cons, List.sum_nil]; omega)) (by first | exact Nat.le_of_ble_eq_true rfl | omega | (simp only [kR, Value.category, kCat_q, List.map, List.sum_cons, List.sum_nil]; omega)) (fun _ hx => hx.elim) (fun v692 s692 hp692 => ?_)
  rcases hp692 with ⟨hg, e1, h9b, ⟨f1, hL1, hx1⟩, hfx⟩ | ⟨E, hg, e1, e2⟩
  · rw [e1]
    refine kK.rev (y := .int 0) rfl ?_
    have h10b := h10.keepX hfx hL (Or.inl rfl)
    have hD1b := hfx.d hL hD
    obtain ⟨fsm, hfm⟩ := h10b.o
    refine k_istore B dL_law_695 (by decide) ?_
    try refine kK.set1 (by first | exact True.intro | rfl | exact kCat_q _) ?_
    refine k_aload_n B dL_law_697 rfl (by first | exact kRf_r _ | exact kRf_q _ | exact kRf_n) ?_
    refine k_aload_n B dL_law_698 rfl (by first | exact kRf_r _ | exact kRf_q _ | exact kRf_n) ?_
    refine k_iload B dL_law_699 rfl ?_
    refine k_iconst B (v := 1) dL_law_701 (by decide) ?_
    refine k_iadd B dL_law_702 ?_
    refine kK.rei (y := nI (i + 1)) (nI_add i 1) ?_
    refine k_sld B hX hbl hbA (vp_in_nI (show i + 1 < N by omega) (by omega)) dL_law_703 ?_
    refine kK.rei (y := xs (i + 1)) (by rw [nI_clamp (by omega)]) ?_
    refine cl_L_130 B (c_X10_share hl h10b) hfm dL_law_704 (by first | exact Nat.le_of_ble_eq_true rfl | omega | (simp only [kR, Value.category, kCat_q, List.map, List.sum_cons, List.sum_nil]; omega)) (by first | exact Nat.le_of_ble_eq_true rfl | omega | (simp only [kR, Value.category, kCat_q, List.map, List.sum_cons, List.sum_nil]; omega)) (by first | exact Nat.le_of_ble_eq_true rfl | omega | (simp only [kR, Value.category, kCat_q, List.map, List.sum_cons, List.sum_nil]; omega)) (by first | exact Nat.le_of_ble_eq_true rfl | omega | (simp only [kR, Value.category, kCat_q, List.map, List.sum_cons, List.sum_nil]; omega)) (by first | exact Nat.le_of_ble_eq_true rfl | omega | (simp only [kR, Value.category, kCat_q, List.map, List.sum_cons, List.sum_nil]; omega)) (fun _ hx => hx.elim) (fun v704 s704 hp704 => ?_)
    rcases hp704 with ⟨⟨hg2, e3, h10c⟩ | ⟨E2, hg2, e3, h10c⟩, hfo⟩
    · rw [e3]
      refine kK.rev (y := .int (rShare z)) rfl ?_
      obtain ⟨mv1, kn1, Lk1, hm⟩ := id h10c
      refine k_istore B dL_law_707 (by decide) ?_
      try refine kK.set1 (by first | exact True.intro | rfl | exact kCat_q _) ?_
      refine k_aload_n B dL_law_709 rfl (by first | exact kRf_r _ | exact kRf_q _ | exact kRf_n) ?_
      refine cl_L_101 B (c_X10_thrown hl hm.m) hm.o dL_law_710 (by first | exact Nat.le_of_ble_eq_true rfl | omega | (simp only [kR, Value.category, kCat_q, List.map, List.sum_cons, List.sum_nil]; omega)) (by first | exact Nat.le_of_ble_eq_true rfl | omega | (simp only [kR, Value.category, kCat_q, List.map, List.sum_cons, List.sum_nil]; omega)) (by first | exact Nat.le_of_ble_eq_true rfl | omega | (simp only [kR, Value.category, kCat_q, List.map, List.sum_cons, List.sum_nil]; omega)) (by first | exact Nat.le_of_ble_eq_true rfl | omega | (simp only [kR, Value.category, kCat_q, List.map, List.sum_cons, List.sum_nil]; omega)) (by first | exact Nat.le_of_ble_eq_true rfl | omega | (simp only [kR, Value.category, kCat_q, List.map, List.sum_cons, List.sum_nil]; omega)) (fun _ hx => hx.elim) (fun v710 s710 hp710 => ?_)
      obtain ⟨rfl, e5⟩ := hp710
      rw [e5]
      refine kK.rev (y := .int 0) rfl ?_
      refine k_iload B dL_law_713 rfl ?_
      refine k_icmp_eq B 720 dL_law_715 (by decide) (fun c715 => ?_) (fun c715 => ?_)
      · skip
        refine k_iload B dL_law_720 rfl ?_
        refine k_if_ne B 737 dL_law_722 (by decide) (fun c722 => ?_) (fun c722 => ?_)
        · exact absurd rfl c722
        · skip
          have hL2 := keepL h10b hfo hL1 (Or.inl rfl)
          have hD2 := keepL h10b hfo hD1b (Or.inr rfl)
          refine k_aload_n B dL_law_725 rfl (by first | exact kRf_r _ | exact kRf_q _ | exact kRf_n) ?_
          refine k_iconst B (v := 0) dL_law_726 (by decide) ?_
          refine k_lald B dL_law_727 hL2 (vp_in_nI (n := 0) (N := 1) (by decide) (by decide)) ?_
          refine kK.rel (y := (rShare z).toInt64) hx1 ?_
          refine k_iload B dL_law_728 rfl ?_
          refine k_i2l B dL_law_730 ?_
          refine k_lcmp B dL_law_731 ?_
          refine k_if_eq B 737 dL_law_732 (by decide) (fun c732 => ?_) (fun c732 => ?_)
          · skip
            refine k_goto B 1697 dL_law_737 (by decide) ?_
            refine kK.sub (L2 := [some (.ref b), some (.ref aO), some (.ref aM), some (.ref aL), some (.ref aD), some (.int (nI i)), none, none, none]) ⟨Or.inr rfl, Or.inr rfl, Or.inr rfl, Or.inr rfl, Or.inr rfl, Or.inr rfl, Or.inl rfl, Or.inl rfl, Or.inl rfl, trivial⟩ ?_
            exact nxt _ _ _ ⟨nShare z (xs (i + 1)), J, F, 0, (ok_share hs hg), (jR_same hj rfl rfl rfl), h9b.keepO h10b hfo, h10c, ⟨f1, hL2⟩, ⟨g0, hD2⟩, hc, by show k + 1 + 0 + 0 ≤ 200 + 31 * sNow z + 7 * (st + 1) + cnt F; omega, by show n + 6 + 0 + 0 ≤ 40000 + 164 * sNow z + 38 * (st + 1) + 3 * cnt F; omega⟩
          · exact absurd ((lg_cmp_eq _ _).mpr rfl) c732
      · exact absurd rfl c715
    · rw [hg] at hg2; cases hg2
  · rw [e1, e2]
    refine kK.rev (y := .int (tCd 1 1 1 E)) rfl ?_
    obtain ⟨fsm, hfm⟩ := h10.o
    refine k_istore B dL_law_695 (by decide) ?_
    try refine kK.set1 (by first | exact True.intro | rfl | exact kCat_q _) ?_
    refine k_aload_n B dL_law_697 rfl (by first | exact kRf_r _ | exact kRf_q _ | exact kRf_n) ?_
    refine k_aload_n B dL_law_698 rfl (by first | exact kRf_r _ | exact kRf_q _ | exact kRf_n) ?_
    refine k_iload B dL_law_699 rfl ?_
    refine k_iconst B (v := 1) dL_law_701 (by decide) ?_
    refine k_iadd B dL_law_702 ?_
    refine kK.rei (y := nI (i + 1)) (nI_add i 1) ?_
    refine k_sld B hX hbl hbA (vp_in_nI (show i + 1 < N by omega) (by omega)) dL_law_703 ?_
    refine kK.rei (y := xs (i + 1)) (by rw [nI_clamp (by omega)]) ?_
    refine cl_L_130 B (c_X10_share hl h10) hfm dL_law_704 (by first | exact Nat.le_of_ble_eq_true rfl | omega | (simp only [kR, Value.category, kCat_q, List.map, List.sum_cons, List.sum_nil]; omega)) (by first | exact Nat.le_of_ble_eq_true rfl | omega | (simp only [kR, Value.category, kCat_q, List.map, List.sum_cons, List.sum_nil]; omega)) (by first | exact Nat.le_of_ble_eq_true rfl | omega | (simp only [kR, Value.category, kCat_q, List.map, List.sum_cons, List.sum_nil]; omega)) (by first | exact Nat.le_of_ble_eq_true rfl | omega | (simp only [kR, Value.category, kCat_q, List.map, List.sum_cons, List.sum_nil]; omega)) (by first | exact Nat.le_of_ble_eq_true rfl | omega | (simp only [kR, Value.category, kCat_q, List.map, List.sum_cons, List.sum_nil]; omega)) (fun _ hx => hx.elim) (fun v704 s704 hp704 => ?_)
    rcases hp704 with ⟨⟨hg2, e3, h10c⟩ | ⟨E2, hg2, e3, h10c⟩, hfo⟩
    · rw [hg] at hg2; cases hg2
    · obtain rfl : E = E2 := Option.some.inj (hg.symm.trans hg2)
      obtain ⟨mv1, kn1, Lk1, hm⟩ := id h10c
      rw [e3]
      refine kK.rev (y := .int 0) rfl ?_
      refine k_istore B dL_law_707 (by decide) ?_
      try refine kK.set1 (by first | exact True.intro | rfl | exact kCat_q _) ?_
      refine k_aload_n B dL_law_709 rfl (by first | exact kRf_r _ | exact kRf_q _ | exact kRf_n) ?_
      refine cl_L_101 B (c_X10_thrown hl hm.m) hm.o dL_law_710 (by first | exact Nat.le_of_ble_eq_true rfl | omega | (simp only [kR, Value.category, kCat_q, List.map, List.sum_cons, List.sum_nil]; omega)) (by first | exact Nat.le_of_ble_eq_true rfl | omega | (simp only [kR, Value.category, kCat_q, List.map, List.sum_cons, List.sum_nil]; omega)) (by first | exact Nat.le_of_ble_eq_true rfl | omega | (simp only [kR, Value.category, kCat_q, List.map, List.sum_cons, List.sum_nil]; omega)) (by first | exact Nat.le_of_ble_eq_true rfl | omega | (simp only [kR, Value.category, kCat_q, List.map, List.sum_cons, List.sum_nil]; omega)) (by first | exact Nat.le_of_ble_eq_true rfl | omega | (simp only [kR, Value.category, kCat_q, List.map, List.sum_cons, List.sum_nil]; omega)) (fun _ hx => hx.elim) (fun v710 s710 hp710 => ?_)
      obtain ⟨rfl, e5⟩ := hp710
      rw [e5]
      refine kK.rev (y := .int (tCd 1 1 1 E)) rfl ?_
      refine k_iload B dL_law_713 rfl ?_
      refine k_icmp_eq B 720 dL_law_715 (by decide) (fun c715 => ?_) (fun c715 => ?_)
      · skip
        refine k_iload B dL_law_720 rfl ?_
        refine k_if_ne B 737 dL_law_722 (by decide) (fun c722 => ?_) (fun c722 => ?_)
        · skip
          refine k_goto B 1697 dL_law_737 (by decide) ?_
          refine kK.sub (L2 := [some (.ref b), some (.ref aO), some (.ref aM), some (.ref aL), some (.ref aD), some (.int (nI i)), none, none, none]) ⟨Or.inr rfl, Or.inr rfl, Or.inr rfl, Or.inr rfl, Or.inr rfl, Or.inr rfl, Or.inl rfl, Or.inl rfl, Or.inl rfl, trivial⟩ ?_
          exact nxt _ _ _ ⟨z, J, F, _, hs, hj, h9.keepO h10 hfo, h10c, ⟨f0, keepL h10 hfo hL (Or.inl rfl)⟩, ⟨g0, keepL h10 hfo hD (Or.inr rfl)⟩, hc, by show k + 1 + 0 + 0 ≤ 200 + 31 * sNow z + 7 * (st + 1) + cnt F; omega, by show n + 6 + 0 + 0 ≤ 40000 + 164 * sNow z + 38 * (st + 1) + 3 * cnt F; omega⟩
        · exact absurd c722 (tCd_ne (by decide) (by decide) (by decide))
      · exact absurd rfl c715
set_option maxHeartbeats 1000000 in
set_option maxRecDepth 100000 in
theorem law_bottle (B : kB p l s m args meth c D A 9 cL_law RL) (hl : l.stackTraces = false) (hX : va_X b N xs s s.heap) (hbl : b < s.heap.size) (hbA : ¬ A b) (hrc : 20000 ≤ room_1.cells) (hrs : 200000 ≤ room_1.slots) (hN : N ≤ 2048) (hi : i + 4 ≤ N) (hst : st ≤ 512) (hI : lI D aO aM aL aD ma st k n σ) (nxt : ∀ (σ2 : kS) (k2 n2 : Nat), lI D aO aM aL aD ma (st + 1) k2 n2 σ2 → kK p l e room_1 s m args below meth c D A 9 Q σ2 k2 n2 1697 [some (.ref b), some (.ref aO), some (.ref aM), some (.ref aL), some (.ref aD), some (.int (nI i)), none, none, none] []) : kK p l e room_1 s m args below meth c D A 9 Q σ k n 740 [some (.ref b), some (.ref aO), some (.ref aM), some (.ref aL), some (.ref aD), some (.int (nI i)), none, none, none] [] := by
  obtain ⟨z, J, F, t, hs, hj, h9, h10, ⟨f0, hL⟩, ⟨g0, hD⟩, hc, hk, hn⟩ := hI
  have hn3 := hs.1.1
  obtain ⟨fs9, hf9⟩ := h9.fs
  obtain ⟨fs10, hf10⟩ := h10.o
  refine k_aload_n B dL_law_740 rfl (by first | exact kRf_r _ | exact kRf_q _ | exact kRf_n) ?_
  refine k_aload_n B dL_law_741 rfl (by first | exact kRf_r _ | exact kRf_q _ | exact kRf_n) ?_
  refine k_iload B dL_law_742 rfl ?_
  refine k_iconst B (v := 1) dL_law_744 (by decide) ?_
  refine k_iadd B dL_law_745 ?_
  refine kK.rei (y := nI (i + 1)) (nI_add i 1) ?_
  refine k_sld B hX hbl hbA (vp_in_nI (show i + 1 < N by omega) (by omega)) dL_law_746 ?_
  refine kK.rei (y := xs (i + 1)) (by rw [nI_clamp (by omega)]) ?_
  refine k_aload_n B dL_law_747 rfl (by first | exact kRf_r _ | exact kRf_q _ | exact kRf_n) ?_
  refine k_iload B dL_law_748 rfl ?_
  refine k_iconst B (v := 2) dL_law_750 (by decide) ?_
  refine k_iadd B dL_law_751 ?_
  refine kK.rei (y := nI (i + 2)) (nI_add i 2) ?_
  refine k_sld B hX hbl hbA (vp_in_nI (show i + 2 < N by omega) (by omega)) dL_law_752 ?_
  refine kK.rei (y := xs (i + 2)) (by rw [nI_clamp (by omega)]) ?_
  refine k_aload_n B dL_law_753 rfl (by first | exact kRf_r _ | exact kRf_q _ | exact kRf_n) ?_
  refine cl_L_131 B (c_L_bottle hl hs h9 hL) dL_law_754 (by first | exact Nat.le_of_ble_eq_true rfl | omega | (simp only [kR, Value.category, kCat_q, List.map, List.sum_cons, List.sum_nil]; omega)) (by first | exact Nat.le_of_ble_eq_true rfl | omega | (simp only [kR, Value.category, kCat_q, List.map, List.sum_cons, List.sum_nil]; omega)) (by first | exact Nat.le_of_ble_eq_true rfl | omega | (simp only [kR, Value.category, kCat_q, List.map, List.sum_cons, List.sum_nil]; omega)) (by first | exact Nat.le_of_ble_eq_true rfl | omega | (simp only [kR, Value.category, kCat_q, List.map, List.sum_cons, List.sum_nil]; omega)) (by first | exact Nat.le_of_ble_eq_true rfl | omega | (simp only [kR, Value.category, kCat_q, List.map, List.sum_cons, List.sum_nil]; omega)) (fun _ hx => hx.elim) (fun v754 s754 hp754 => ?_)
  rcases hp754 with ⟨hg, e1, h9b, ⟨f1, hL1, hx1⟩, hfx⟩ | ⟨E, hg, e1, e2⟩
  · rw [e1]
    refine kK.rev (y := .int 0) rfl ?_
    have h10b := h10.keepX hfx hL (Or.inl rfl)
    have hD1b := hfx.d hL hD
    obtain ⟨fsm, hfm⟩ := h10b.o
    refine k_istore B dL_law_757 (by decide) ?_
    try refine kK.set1 (by first | exact True.intro | rfl | exact kCat_q _) ?_
    refine k_aload_n B dL_law_759 rfl (by first | exact kRf_r _ | exact kRf_q _ | exact kRf_n) ?_
    refine k_aload_n B dL_law_760 rfl (by first | exact kRf_r _ | exact kRf_q _ | exact kRf_n) ?_
    refine k_iload B dL_law_761 rfl ?_
    refine k_iconst B (v := 1) dL_law_763 (by decide) ?_
    refine k_iadd B dL_law_764 ?_
    refine kK.rei (y := nI (i + 1)) (nI_add i 1) ?_
    refine k_sld B hX hbl hbA (vp_in_nI (show i + 1 < N by omega) (by omega)) dL_law_765 ?_
    refine kK.rei (y := xs (i + 1)) (by rw [nI_clamp (by omega)]) ?_
    refine k_aload_n B dL_law_766 rfl (by first | exact kRf_r _ | exact kRf_q _ | exact kRf_n) ?_
    refine k_iload B dL_law_767 rfl ?_
    refine k_iconst B (v := 2) dL_law_769 (by decide) ?_
    refine k_iadd B dL_law_770 ?_
    refine kK.rei (y := nI (i + 2)) (nI_add i 2) ?_
    refine k_sld B hX hbl hbA (vp_in_nI (show i + 2 < N by omega) (by omega)) dL_law_771 ?_
    refine kK.rei (y := xs (i + 2)) (by rw [nI_clamp (by omega)]) ?_
    refine cl_L_133 B (c_X10_bottle hl hs h10b) hfm dL_law_772 (by first | exact Nat.le_of_ble_eq_true rfl | omega | (simp only [kR, Value.category, kCat_q, List.map, List.sum_cons, List.sum_nil]; omega)) (by first | exact Nat.le_of_ble_eq_true rfl | omega | (simp only [kR, Value.category, kCat_q, List.map, List.sum_cons, List.sum_nil]; omega)) (by first | exact Nat.le_of_ble_eq_true rfl | omega | (simp only [kR, Value.category, kCat_q, List.map, List.sum_cons, List.sum_nil]; omega)) (by first | exact Nat.le_of_ble_eq_true rfl | omega | (simp only [kR, Value.category, kCat_q, List.map, List.sum_cons, List.sum_nil]; omega)) (by first | exact Nat.le_of_ble_eq_true rfl | omega | (simp only [kR, Value.category, kCat_q, List.map, List.sum_cons, List.sum_nil]; omega)) (fun _ hx => hx.elim) (fun v772 s772 hp772 => ?_)
    rcases hp772 with ⟨⟨hg2, e3, h10c⟩ | ⟨E2, hg2, e3, h10c⟩, hfo⟩
    · rw [e3]
      refine kK.rev (y := .int (rBottle z)) rfl ?_
      obtain ⟨mv1, kn1, Lk1, hm⟩ := id h10c
      refine k_istore B dL_law_775 (by decide) ?_
      try refine kK.set1 (by first | exact True.intro | rfl | exact kCat_q _) ?_
      refine k_aload_n B dL_law_777 rfl (by first | exact kRf_r _ | exact kRf_q _ | exact kRf_n) ?_
      refine cl_L_101 B (c_X10_thrown hl hm.m) hm.o dL_law_778 (by first | exact Nat.le_of_ble_eq_true rfl | omega | (simp only [kR, Value.category, kCat_q, List.map, List.sum_cons, List.sum_nil]; omega)) (by first | exact Nat.le_of_ble_eq_true rfl | omega | (simp only [kR, Value.category, kCat_q, List.map, List.sum_cons, List.sum_nil]; omega)) (by first | exact Nat.le_of_ble_eq_true rfl | omega | (simp only [kR, Value.category, kCat_q, List.map, List.sum_cons, List.sum_nil]; omega)) (by first | exact Nat.le_of_ble_eq_true rfl | omega | (simp only [kR, Value.category, kCat_q, List.map, List.sum_cons, List.sum_nil]; omega)) (by first | exact Nat.le_of_ble_eq_true rfl | omega | (simp only [kR, Value.category, kCat_q, List.map, List.sum_cons, List.sum_nil]; omega)) (fun _ hx => hx.elim) (fun v778 s778 hp778 => ?_)
      obtain ⟨rfl, e5⟩ := hp778
      rw [e5]
      refine kK.rev (y := .int 0) rfl ?_
      refine k_iload B dL_law_781 rfl ?_
      refine k_icmp_eq B 788 dL_law_783 (by decide) (fun c783 => ?_) (fun c783 => ?_)
      · skip
        refine k_iload B dL_law_788 rfl ?_
        refine k_if_ne B 805 dL_law_790 (by decide) (fun c790 => ?_) (fun c790 => ?_)
        · exact absurd rfl c790
        · skip
          have hL2 := keepL h10b hfo hL1 (Or.inl rfl)
          have hD2 := keepL h10b hfo hD1b (Or.inr rfl)
          refine k_aload_n B dL_law_793 rfl (by first | exact kRf_r _ | exact kRf_q _ | exact kRf_n) ?_
          refine k_iconst B (v := 0) dL_law_794 (by decide) ?_
          refine k_lald B dL_law_795 hL2 (vp_in_nI (n := 0) (N := 1) (by decide) (by decide)) ?_
          refine kK.rel (y := (rBottle z).toInt64) hx1 ?_
          refine k_iload B dL_law_796 rfl ?_
          refine k_i2l B dL_law_798 ?_
          refine k_lcmp B dL_law_799 ?_
          refine k_if_eq B 805 dL_law_800 (by decide) (fun c800 => ?_) (fun c800 => ?_)
          · skip
            refine k_goto B 1697 dL_law_805 (by decide) ?_
            refine kK.sub (L2 := [some (.ref b), some (.ref aO), some (.ref aM), some (.ref aL), some (.ref aD), some (.int (nI i)), none, none, none]) ⟨Or.inr rfl, Or.inr rfl, Or.inr rfl, Or.inr rfl, Or.inr rfl, Or.inr rfl, Or.inl rfl, Or.inl rfl, Or.inl rfl, trivial⟩ ?_
            exact nxt _ _ _ ⟨nBottle z (xs (i + 1)) (xs (i + 2)), (jBottle z (xs (i + 1)) (xs (i + 2)) J), F, 0, (ok_bottle hs hg), (jR_bottle hs hj hg), h9b.keepO h10b hfo, h10c, ⟨f1, hL2⟩, ⟨g0, hD2⟩, hc, by show k + 7 + 0 + 0 ≤ 200 + 31 * sNow z + 7 * (st + 1) + cnt F; omega, by show n + 38 + 0 + 0 ≤ 40000 + 164 * sNow z + 38 * (st + 1) + 3 * cnt F; omega⟩
          · exact absurd ((lg_cmp_eq _ _).mpr rfl) c800
      · exact absurd rfl c783
    · rw [hg] at hg2; cases hg2
  · rw [e1, e2]
    refine kK.rev (y := .int (tCd 1 2 3 E)) rfl ?_
    obtain ⟨fsm, hfm⟩ := h10.o
    refine k_istore B dL_law_757 (by decide) ?_
    try refine kK.set1 (by first | exact True.intro | rfl | exact kCat_q _) ?_
    refine k_aload_n B dL_law_759 rfl (by first | exact kRf_r _ | exact kRf_q _ | exact kRf_n) ?_
    refine k_aload_n B dL_law_760 rfl (by first | exact kRf_r _ | exact kRf_q _ | exact kRf_n) ?_
    refine k_iload B dL_law_761 rfl ?_
    refine k_iconst B (v := 1) dL_law_763 (by decide) ?_
    refine k_iadd B dL_law_764 ?_
    refine kK.rei (y := nI (i + 1)) (nI_add i 1) ?_
    refine k_sld B hX hbl hbA (vp_in_nI (show i + 1 < N by omega) (by omega)) dL_law_765 ?_
    refine kK.rei (y := xs (i + 1)) (by rw [nI_clamp (by omega)]) ?_
    refine k_aload_n B dL_law_766 rfl (by first | exact kRf_r _ | exact kRf_q _ | exact kRf_n) ?_
    refine k_iload B dL_law_767 rfl ?_
    refine k_iconst B (v := 2) dL_law_769 (by decide) ?_
    refine k_iadd B dL_law_770 ?_
    refine kK.rei (y := nI (i + 2)) (nI_add i 2) ?_
    refine k_sld B hX hbl hbA (vp_in_nI (show i + 2 < N by omega) (by omega)) dL_law_771 ?_
    refine kK.rei (y := xs (i + 2)) (by rw [nI_clamp (by omega)]) ?_
    refine cl_L_133 B (c_X10_bottle hl hs h10) hfm dL_law_772 (by first | exact Nat.le_of_ble_eq_true rfl | omega | (simp only [kR, Value.category, kCat_q, List.map, List.sum_cons, List.sum_nil]; omega)) (by first | exact Nat.le_of_ble_eq_true rfl | omega | (simp only [kR, Value.category, kCat_q, List.map, List.sum_cons, List.sum_nil]; omega)) (by first | exact Nat.le_of_ble_eq_true rfl | omega | (simp only [kR, Value.category, kCat_q, List.map, List.sum_cons, List.sum_nil]; omega)) (by first | exact Nat.le_of_ble_eq_true rfl | omega | (simp only [kR, Value.category, kCat_q, List.map, List.sum_cons, List.sum_nil]; omega)) (by first | exact Nat.le_of_ble_eq_true rfl | omega | (simp only [kR, Value.category, kCat_q, List.map, List.sum_cons, List.sum_nil]; omega)) (fun _ hx => hx.elim) (fun v772 s772 hp772 => ?_)
    rcases hp772 with ⟨⟨hg2, e3, h10c⟩ | ⟨E2, hg2, e3, h10c⟩, hfo⟩
    · rw [hg] at hg2; cases hg2
    · obtain rfl : E = E2 := Option.some.inj (hg.symm.trans hg2)
      obtain ⟨mv1, kn1, Lk1, hm⟩ := id h10c
      rw [e3]
      refine kK.rev (y := .int 0) rfl ?_
      refine k_istore B dL_law_775 (by decide) ?_
      try refine kK.set1 (by first | exact True.intro | rfl | exact kCat_q _) ?_
      refine k_aload_n B dL_law_777 rfl (by first | exact kRf_r _ | exact kRf_q _ | exact kRf_n) ?_
      refine cl_L_101 B (c_X10_thrown hl hm.m) hm.o dL_law_778 (by first | exact Nat.le_of_ble_eq_true rfl | omega | (simp only [kR, Value.category, kCat_q, List.map, List.sum_cons, List.sum_nil]; omega)) (by first | exact Nat.le_of_ble_eq_true rfl | omega | (simp only [kR, Value.category, kCat_q, List.map, List.sum_cons, List.sum_nil]; omega)) (by first | exact Nat.le_of_ble_eq_true rfl | omega | (simp only [kR, Value.category, kCat_q, List.map, List.sum_cons, List.sum_nil]; omega)) (by first | exact Nat.le_of_ble_eq_true rfl | omega | (simp only [kR, Value.category, kCat_q, List.map, List.sum_cons, List.sum_nil]; omega)) (by first | exact Nat.le_of_ble_eq_true rfl | omega | (simp only [kR, Value.category, kCat_q, List.map, List.sum_cons, List.sum_nil]; omega)) (fun _ hx => hx.elim) (fun v778 s778 hp778 => ?_)
      obtain ⟨rfl, e5⟩ := hp778
      rw [e5]
      refine kK.rev (y := .int (tCd 1 2 3 E)) rfl ?_
      refine k_iload B dL_law_781 rfl ?_
      refine k_icmp_eq B 788 dL_law_783 (by decide) (fun c783 => ?_) (fun c783 => ?_)
      · skip
        refine k_iload B dL_law_788 rfl ?_
        refine k_if_ne B 805 dL_law_790 (by decide) (fun c790 => ?_) (fun c790 => ?_)
        · skip
          refine k_goto B 1697 dL_law_805 (by decide) ?_
          refine kK.sub (L2 := [some (.ref b), some (.ref aO), some (.ref aM), some (.ref aL), some (.ref aD), some (.int (nI i)), none, none, none]) ⟨Or.inr rfl, Or.inr rfl, Or.inr rfl, Or.inr rfl, Or.inr rfl, Or.inr rfl, Or.inl rfl, Or.inl rfl, Or.inl rfl, trivial⟩ ?_
          exact nxt _ _ _ ⟨z, J, F, _, hs, hj, h9.keepO h10 hfo, h10c, ⟨f0, keepL h10 hfo hL (Or.inl rfl)⟩, ⟨g0, keepL h10 hfo hD (Or.inr rfl)⟩, hc, by show k + 7 + 0 + 0 ≤ 200 + 31 * sNow z + 7 * (st + 1) + cnt F; omega, by show n + 38 + 0 + 0 ≤ 40000 + 164 * sNow z + 38 * (st + 1) + 3 * cnt F; omega⟩
        · exact absurd c790 (tCd_ne (by decide) (by decide) (by decide))
      · exact absurd rfl c783
set_option maxHeartbeats 1000000 in
set_option maxRecDepth 100000 in
theorem law_treat (B : kB p l s m args meth c D A 9 cL_law RL) (hl : l.stackTraces = false) (hX : va_X b N xs s s.heap) (hbl : b < s.heap.size) (hbA : ¬ A b) (hrc : 20000 ≤ room_1.cells) (hrs : 200000 ≤ room_1.slots) (hN : N ≤ 2048) (hi : i + 4 ≤ N) (hst : st ≤ 512) (hI : lI D aO aM aL aD ma st k n σ) (nxt : ∀ (σ2 : kS) (k2 n2 : Nat), lI D aO aM aL aD ma (st + 1) k2 n2 σ2 → kK p l e room_1 s m args below meth c D A 9 Q σ2 k2 n2 1697 [some (.ref b), some (.ref aO), some (.ref aM), some (.ref aL), some (.ref aD), some (.int (nI i)), none, none, none] []) : kK p l e room_1 s m args below meth c D A 9 Q σ k n 808 [some (.ref b), some (.ref aO), some (.ref aM), some (.ref aL), some (.ref aD), some (.int (nI i)), none, none, none] [] := by
  obtain ⟨z, J, F, t, hs, hj, h9, h10, ⟨f0, hL⟩, ⟨g0, hD⟩, hc, hk, hn⟩ := hI
  have hn3 := hs.1.1
  obtain ⟨fs9, hf9⟩ := h9.fs
  obtain ⟨fs10, hf10⟩ := h10.o
  refine k_aload_n B dL_law_808 rfl (by first | exact kRf_r _ | exact kRf_q _ | exact kRf_n) ?_
  refine k_aload_n B dL_law_809 rfl (by first | exact kRf_r _ | exact kRf_q _ | exact kRf_n) ?_
  refine k_iload B dL_law_810 rfl ?_
  refine k_iconst B (v := 1) dL_law_812 (by decide) ?_
  refine k_iadd B dL_law_813 ?_
  refine kK.rei (y := nI (i + 1)) (nI_add i 1) ?_
  refine k_sld B hX hbl hbA (vp_in_nI (show i + 1 < N by omega) (by omega)) dL_law_814 ?_
  refine kK.rei (y := xs (i + 1)) (by rw [nI_clamp (by omega)]) ?_
  refine k_aload_n B dL_law_815 rfl (by first | exact kRf_r _ | exact kRf_q _ | exact kRf_n) ?_
  refine k_iload B dL_law_816 rfl ?_
  refine k_iconst B (v := 2) dL_law_818 (by decide) ?_
  refine k_iadd B dL_law_819 ?_
  refine kK.rei (y := nI (i + 2)) (nI_add i 2) ?_
  refine k_sld B hX hbl hbA (vp_in_nI (show i + 2 < N by omega) (by omega)) dL_law_820 ?_
  refine kK.rei (y := xs (i + 2)) (by rw [nI_clamp (by omega)]) ?_
  refine k_aload_n B dL_law_821 rfl (by first | exact kRf_r _ | exact kRf_q _ | exact kRf_n) ?_
  refine cl_L_134 B (c_L_treat hl hs h9 hL) dL_law_822 (by first | exact Nat.le_of_ble_eq_true rfl | omega | (simp only [kR, Value.category, kCat_q, List.map, List.sum_cons, List.sum_nil]; omega)) (by first | exact Nat.le_of_ble_eq_true rfl | omega | (simp only [kR, Value.category, kCat_q, List.map, List.sum_cons, List.sum_nil]; omega)) (by first | exact Nat.le_of_ble_eq_true rfl | omega | (simp only [kR, Value.category, kCat_q, List.map, List.sum_cons, List.sum_nil]; omega)) (by first | exact Nat.le_of_ble_eq_true rfl | omega | (simp only [kR, Value.category, kCat_q, List.map, List.sum_cons, List.sum_nil]; omega)) (by first | exact Nat.le_of_ble_eq_true rfl | omega | (simp only [kR, Value.category, kCat_q, List.map, List.sum_cons, List.sum_nil]; omega)) (fun _ hx => hx.elim) (fun v822 s822 hp822 => ?_)
  rcases hp822 with ⟨hg, e1, h9b, ⟨f1, hL1, hx1⟩, hfx⟩ | ⟨E, hg, e1, e2⟩
  · rw [e1]
    refine kK.rev (y := .int 0) rfl ?_
    have h10b := h10.keepX hfx hL (Or.inl rfl)
    have hD1b := hfx.d hL hD
    obtain ⟨fsm, hfm⟩ := h10b.o
    refine k_istore B dL_law_825 (by decide) ?_
    try refine kK.set1 (by first | exact True.intro | rfl | exact kCat_q _) ?_
    refine k_aload_n B dL_law_827 rfl (by first | exact kRf_r _ | exact kRf_q _ | exact kRf_n) ?_
    refine k_aload_n B dL_law_828 rfl (by first | exact kRf_r _ | exact kRf_q _ | exact kRf_n) ?_
    refine k_iload B dL_law_829 rfl ?_
    refine k_iconst B (v := 1) dL_law_831 (by decide) ?_
    refine k_iadd B dL_law_832 ?_
    refine kK.rei (y := nI (i + 1)) (nI_add i 1) ?_
    refine k_sld B hX hbl hbA (vp_in_nI (show i + 1 < N by omega) (by omega)) dL_law_833 ?_
    refine kK.rei (y := xs (i + 1)) (by rw [nI_clamp (by omega)]) ?_
    refine k_aload_n B dL_law_834 rfl (by first | exact kRf_r _ | exact kRf_q _ | exact kRf_n) ?_
    refine k_iload B dL_law_835 rfl ?_
    refine k_iconst B (v := 2) dL_law_837 (by decide) ?_
    refine k_iadd B dL_law_838 ?_
    refine kK.rei (y := nI (i + 2)) (nI_add i 2) ?_
    refine k_sld B hX hbl hbA (vp_in_nI (show i + 2 < N by omega) (by omega)) dL_law_839 ?_
    refine kK.rei (y := xs (i + 2)) (by rw [nI_clamp (by omega)]) ?_
    refine cl_L_136 B (c_X10_treat hl hs h10b) hfm dL_law_840 (by first | exact Nat.le_of_ble_eq_true rfl | omega | (simp only [kR, Value.category, kCat_q, List.map, List.sum_cons, List.sum_nil]; omega)) (by first | exact Nat.le_of_ble_eq_true rfl | omega | (simp only [kR, Value.category, kCat_q, List.map, List.sum_cons, List.sum_nil]; omega)) (by first | exact Nat.le_of_ble_eq_true rfl | omega | (simp only [kR, Value.category, kCat_q, List.map, List.sum_cons, List.sum_nil]; omega)) (by first | exact Nat.le_of_ble_eq_true rfl | omega | (simp only [kR, Value.category, kCat_q, List.map, List.sum_cons, List.sum_nil]; omega)) (by first | exact Nat.le_of_ble_eq_true rfl | omega | (simp only [kR, Value.category, kCat_q, List.map, List.sum_cons, List.sum_nil]; omega)) (fun _ hx => hx.elim) (fun v840 s840 hp840 => ?_)
    rcases hp840 with ⟨⟨hg2, e3, h10c⟩ | ⟨E2, hg2, e3, h10c⟩, hfo⟩
    · rw [e3]
      refine kK.rev (y := .int (rTreat z (xs (i + 1)) (xs (i + 2)))) rfl ?_
      obtain ⟨mv1, kn1, Lk1, hm⟩ := id h10c
      refine k_istore B dL_law_843 (by decide) ?_
      try refine kK.set1 (by first | exact True.intro | rfl | exact kCat_q _) ?_
      refine k_aload_n B dL_law_845 rfl (by first | exact kRf_r _ | exact kRf_q _ | exact kRf_n) ?_
      refine cl_L_101 B (c_X10_thrown hl hm.m) hm.o dL_law_846 (by first | exact Nat.le_of_ble_eq_true rfl | omega | (simp only [kR, Value.category, kCat_q, List.map, List.sum_cons, List.sum_nil]; omega)) (by first | exact Nat.le_of_ble_eq_true rfl | omega | (simp only [kR, Value.category, kCat_q, List.map, List.sum_cons, List.sum_nil]; omega)) (by first | exact Nat.le_of_ble_eq_true rfl | omega | (simp only [kR, Value.category, kCat_q, List.map, List.sum_cons, List.sum_nil]; omega)) (by first | exact Nat.le_of_ble_eq_true rfl | omega | (simp only [kR, Value.category, kCat_q, List.map, List.sum_cons, List.sum_nil]; omega)) (by first | exact Nat.le_of_ble_eq_true rfl | omega | (simp only [kR, Value.category, kCat_q, List.map, List.sum_cons, List.sum_nil]; omega)) (fun _ hx => hx.elim) (fun v846 s846 hp846 => ?_)
      obtain ⟨rfl, e5⟩ := hp846
      rw [e5]
      refine kK.rev (y := .int 0) rfl ?_
      refine k_iload B dL_law_849 rfl ?_
      refine k_icmp_eq B 856 dL_law_851 (by decide) (fun c851 => ?_) (fun c851 => ?_)
      · skip
        refine k_iload B dL_law_856 rfl ?_
        refine k_if_ne B 873 dL_law_858 (by decide) (fun c858 => ?_) (fun c858 => ?_)
        · exact absurd rfl c858
        · skip
          have hL2 := keepL h10b hfo hL1 (Or.inl rfl)
          have hD2 := keepL h10b hfo hD1b (Or.inr rfl)
          refine k_aload_n B dL_law_861 rfl (by first | exact kRf_r _ | exact kRf_q _ | exact kRf_n) ?_
          refine k_iconst B (v := 0) dL_law_862 (by decide) ?_
          refine k_lald B dL_law_863 hL2 (vp_in_nI (n := 0) (N := 1) (by decide) (by decide)) ?_
          refine kK.rel (y := (rTreat z (xs (i + 1)) (xs (i + 2))).toInt64) hx1 ?_
          refine k_iload B dL_law_864 rfl ?_
          refine k_i2l B dL_law_866 ?_
          refine k_lcmp B dL_law_867 ?_
          refine k_if_eq B 873 dL_law_868 (by decide) (fun c868 => ?_) (fun c868 => ?_)
          · skip
            refine k_goto B 1697 dL_law_873 (by decide) ?_
            refine kK.sub (L2 := [some (.ref b), some (.ref aO), some (.ref aM), some (.ref aL), some (.ref aD), some (.int (nI i)), none, none, none]) ⟨Or.inr rfl, Or.inr rfl, Or.inr rfl, Or.inr rfl, Or.inr rfl, Or.inr rfl, Or.inl rfl, Or.inl rfl, Or.inl rfl, trivial⟩ ?_
            exact nxt _ _ _ ⟨nTreat z (xs (i + 1)) (xs (i + 2)), J, F, 0, (ok_treat hs), (jR_same hj rfl rfl rfl), h9b.keepO h10b hfo, h10c, ⟨f1, hL2⟩, ⟨g0, hD2⟩, hc, by show k + 3 + 0 + 0 ≤ 200 + 31 * sNow z + 7 * (st + 1) + cnt F; omega, by show n + 18 + 0 + 0 ≤ 40000 + 164 * sNow z + 38 * (st + 1) + 3 * cnt F; omega⟩
          · exact absurd ((lg_cmp_eq _ _).mpr rfl) c868
      · exact absurd rfl c851
    · rw [hg] at hg2; cases hg2
  · rw [e1, e2]
    refine kK.rev (y := .int (tCd 1 2 2 E)) rfl ?_
    obtain ⟨fsm, hfm⟩ := h10.o
    refine k_istore B dL_law_825 (by decide) ?_
    try refine kK.set1 (by first | exact True.intro | rfl | exact kCat_q _) ?_
    refine k_aload_n B dL_law_827 rfl (by first | exact kRf_r _ | exact kRf_q _ | exact kRf_n) ?_
    refine k_aload_n B dL_law_828 rfl (by first | exact kRf_r _ | exact kRf_q _ | exact kRf_n) ?_
    refine k_iload B dL_law_829 rfl ?_
    refine k_iconst B (v := 1) dL_law_831 (by decide) ?_
    refine k_iadd B dL_law_832 ?_
    refine kK.rei (y := nI (i + 1)) (nI_add i 1) ?_
    refine k_sld B hX hbl hbA (vp_in_nI (show i + 1 < N by omega) (by omega)) dL_law_833 ?_
    refine kK.rei (y := xs (i + 1)) (by rw [nI_clamp (by omega)]) ?_
    refine k_aload_n B dL_law_834 rfl (by first | exact kRf_r _ | exact kRf_q _ | exact kRf_n) ?_
    refine k_iload B dL_law_835 rfl ?_
    refine k_iconst B (v := 2) dL_law_837 (by decide) ?_
    refine k_iadd B dL_law_838 ?_
    refine kK.rei (y := nI (i + 2)) (nI_add i 2) ?_
    refine k_sld B hX hbl hbA (vp_in_nI (show i + 2 < N by omega) (by omega)) dL_law_839 ?_
    refine kK.rei (y := xs (i + 2)) (by rw [nI_clamp (by omega)]) ?_
    refine cl_L_136 B (c_X10_treat hl hs h10) hfm dL_law_840 (by first | exact Nat.le_of_ble_eq_true rfl | omega | (simp only [kR, Value.category, kCat_q, List.map, List.sum_cons, List.sum_nil]; omega)) (by first | exact Nat.le_of_ble_eq_true rfl | omega | (simp only [kR, Value.category, kCat_q, List.map, List.sum_cons, List.sum_nil]; omega)) (by first | exact Nat.le_of_ble_eq_true rfl | omega | (simp only [kR, Value.category, kCat_q, List.map, List.sum_cons, List.sum_nil]; omega)) (by first | exact Nat.le_of_ble_eq_true rfl | omega | (simp only [kR, Value.category, kCat_q, List.map, List.sum_cons, List.sum_nil]; omega)) (by first | exact Nat.le_of_ble_eq_true rfl | omega | (simp only [kR, Value.category, kCat_q, List.map, List.sum_cons, List.sum_nil]; omega)) (fun _ hx => hx.elim) (fun v840 s840 hp840 => ?_)
    rcases hp840 with ⟨⟨hg2, e3, h10c⟩ | ⟨E2, hg2, e3, h10c⟩, hfo⟩
    · rw [hg] at hg2; cases hg2
    · obtain rfl : E = E2 := Option.some.inj (hg.symm.trans hg2)
      obtain ⟨mv1, kn1, Lk1, hm⟩ := id h10c
      rw [e3]
      refine kK.rev (y := .int 0) rfl ?_
      refine k_istore B dL_law_843 (by decide) ?_
      try refine kK.set1 (by first | exact True.intro | rfl | exact kCat_q _) ?_
      refine k_aload_n B dL_law_845 rfl (by first | exact kRf_r _ | exact kRf_q _ | exact kRf_n) ?_
      refine cl_L_101 B (c_X10_thrown hl hm.m) hm.o dL_law_846 (by first | exact Nat.le_of_ble_eq_true rfl | omega | (simp only [kR, Value.category, kCat_q, List.map, List.sum_cons, List.sum_nil]; omega)) (by first | exact Nat.le_of_ble_eq_true rfl | omega | (simp only [kR, Value.category, kCat_q, List.map, List.sum_cons, List.sum_nil]; omega)) (by first | exact Nat.le_of_ble_eq_true rfl | omega | (simp only [kR, Value.category, kCat_q, List.map, List.sum_cons, List.sum_nil]; omega)) (by first | exact Nat.le_of_ble_eq_true rfl | omega | (simp only [kR, Value.category, kCat_q, List.map, List.sum_cons, List.sum_nil]; omega)) (by first | exact Nat.le_of_ble_eq_true rfl | omega | (simp only [kR, Value.category, kCat_q, List.map, List.sum_cons, List.sum_nil]; omega)) (fun _ hx => hx.elim) (fun v846 s846 hp846 => ?_)
      obtain ⟨rfl, e5⟩ := hp846
      rw [e5]
      refine kK.rev (y := .int (tCd 1 2 2 E)) rfl ?_
      refine k_iload B dL_law_849 rfl ?_
      refine k_icmp_eq B 856 dL_law_851 (by decide) (fun c851 => ?_) (fun c851 => ?_)
      · skip
        refine k_iload B dL_law_856 rfl ?_
        refine k_if_ne B 873 dL_law_858 (by decide) (fun c858 => ?_) (fun c858 => ?_)
        · skip
          refine k_goto B 1697 dL_law_873 (by decide) ?_
          refine kK.sub (L2 := [some (.ref b), some (.ref aO), some (.ref aM), some (.ref aL), some (.ref aD), some (.int (nI i)), none, none, none]) ⟨Or.inr rfl, Or.inr rfl, Or.inr rfl, Or.inr rfl, Or.inr rfl, Or.inr rfl, Or.inl rfl, Or.inl rfl, Or.inl rfl, trivial⟩ ?_
          exact nxt _ _ _ ⟨z, J, F, _, hs, hj, h9.keepO h10 hfo, h10c, ⟨f0, keepL h10 hfo hL (Or.inl rfl)⟩, ⟨g0, keepL h10 hfo hD (Or.inr rfl)⟩, hc, by show k + 3 + 0 + 0 ≤ 200 + 31 * sNow z + 7 * (st + 1) + cnt F; omega, by show n + 18 + 0 + 0 ≤ 40000 + 164 * sNow z + 38 * (st + 1) + 3 * cnt F; omega⟩
        · exact absurd c858 (tCd_ne (by decide) (by decide) (by decide))
      · exact absurd rfl c851
set_option maxHeartbeats 1000000 in
set_option maxRecDepth 100000 in
theorem law_label (B : kB p l s m args meth c D A 9 cL_law RL) (hl : l.stackTraces = false) (hX : va_X b N xs s s.heap) (hbl : b < s.heap.size) (hbA : ¬ A b) (hrc : 20000 ≤ room_1.cells) (hrs : 200000 ≤ room_1.slots) (hN : N ≤ 2048) (hi : i + 4 ≤ N) (hst : st ≤ 512) (hI : lI D aO aM aL aD ma st k n σ) (nxt : ∀ (σ2 : kS) (k2 n2 : Nat), lI D aO aM aL aD ma (st + 1) k2 n2 σ2 → kK p l e room_1 s m args below meth c D A 9 Q σ2 k2 n2 1697 [some (.ref b), some (.ref aO), some (.ref aM), some (.ref aL), some (.ref aD), some (.int (nI i)), none, none, none] []) : kK p l e room_1 s m args below meth c D A 9 Q σ k n 876 [some (.ref b), some (.ref aO), some (.ref aM), some (.ref aL), some (.ref aD), some (.int (nI i)), none, none, none] [] := by
  obtain ⟨z, J, F, t, hs, hj, h9, h10, ⟨f0, hL⟩, ⟨g0, hD⟩, hc, hk, hn⟩ := hI
  have hn3 := hs.1.1
  obtain ⟨fs9, hf9⟩ := h9.fs
  obtain ⟨fs10, hf10⟩ := h10.o
  refine k_aload_n B dL_law_876 rfl (by first | exact kRf_r _ | exact kRf_q _ | exact kRf_n) ?_
  refine k_aload_n B dL_law_877 rfl (by first | exact kRf_r _ | exact kRf_q _ | exact kRf_n) ?_
  refine k_iload B dL_law_878 rfl ?_
  refine k_iconst B (v := 1) dL_law_880 (by decide) ?_
  refine k_iadd B dL_law_881 ?_
  refine kK.rei (y := nI (i + 1)) (nI_add i 1) ?_
  refine k_sld B hX hbl hbA (vp_in_nI (show i + 1 < N by omega) (by omega)) dL_law_882 ?_
  refine kK.rei (y := xs (i + 1)) (by rw [nI_clamp (by omega)]) ?_
  refine k_aload_n B dL_law_883 rfl (by first | exact kRf_r _ | exact kRf_q _ | exact kRf_n) ?_
  refine k_iload B dL_law_884 rfl ?_
  refine k_iconst B (v := 2) dL_law_886 (by decide) ?_
  refine k_iadd B dL_law_887 ?_
  refine kK.rei (y := nI (i + 2)) (nI_add i 2) ?_
  refine k_sld B hX hbl hbA (vp_in_nI (show i + 2 < N by omega) (by omega)) dL_law_888 ?_
  refine kK.rei (y := xs (i + 2)) (by rw [nI_clamp (by omega)]) ?_
  refine k_aload_n B dL_law_889 rfl (by first | exact kRf_r _ | exact kRf_q _ | exact kRf_n) ?_
  refine cl_L_137 B (c_L_label hl hs h9 hL) dL_law_890 (by first | exact Nat.le_of_ble_eq_true rfl | omega | (simp only [kR, Value.category, kCat_q, List.map, List.sum_cons, List.sum_nil]; omega)) (by first | exact Nat.le_of_ble_eq_true rfl | omega | (simp only [kR, Value.category, kCat_q, List.map, List.sum_cons, List.sum_nil]; omega)) (by first | exact Nat.le_of_ble_eq_true rfl | omega | (simp only [kR, Value.category, kCat_q, List.map, List.sum_cons, List.sum_nil]; omega)) (by first | exact Nat.le_of_ble_eq_true rfl | omega | (simp only [kR, Value.category, kCat_q, List.map, List.sum_cons, List.sum_nil]; omega)) (by first | exact Nat.le_of_ble_eq_true rfl | omega | (simp only [kR, Value.category, kCat_q, List.map, List.sum_cons, List.sum_nil]; omega)) (fun _ hx => hx.elim) (fun v890 s890 hp890 => ?_)
  rcases hp890 with ⟨hg, e1, h9b, ⟨f1, hL1, hx1⟩, hfx⟩ | ⟨E, hg, e1, e2⟩
  · rw [e1]
    refine kK.rev (y := .int 0) rfl ?_
    have h10b := h10.keepX hfx hL (Or.inl rfl)
    have hD1b := hfx.d hL hD
    obtain ⟨fsm, hfm⟩ := h10b.o
    refine k_istore B dL_law_893 (by decide) ?_
    try refine kK.set1 (by first | exact True.intro | rfl | exact kCat_q _) ?_
    refine k_aload_n B dL_law_895 rfl (by first | exact kRf_r _ | exact kRf_q _ | exact kRf_n) ?_
    refine k_aload_n B dL_law_896 rfl (by first | exact kRf_r _ | exact kRf_q _ | exact kRf_n) ?_
    refine k_iload B dL_law_897 rfl ?_
    refine k_iconst B (v := 1) dL_law_899 (by decide) ?_
    refine k_iadd B dL_law_900 ?_
    refine kK.rei (y := nI (i + 1)) (nI_add i 1) ?_
    refine k_sld B hX hbl hbA (vp_in_nI (show i + 1 < N by omega) (by omega)) dL_law_901 ?_
    refine kK.rei (y := xs (i + 1)) (by rw [nI_clamp (by omega)]) ?_
    refine k_aload_n B dL_law_902 rfl (by first | exact kRf_r _ | exact kRf_q _ | exact kRf_n) ?_
    refine k_iload B dL_law_903 rfl ?_
    refine k_iconst B (v := 2) dL_law_905 (by decide) ?_
    refine k_iadd B dL_law_906 ?_
    refine kK.rei (y := nI (i + 2)) (nI_add i 2) ?_
    refine k_sld B hX hbl hbA (vp_in_nI (show i + 2 < N by omega) (by omega)) dL_law_907 ?_
    refine kK.rei (y := xs (i + 2)) (by rw [nI_clamp (by omega)]) ?_
    refine cl_L_139 B (c_X10_label hl hs h10b) hfm dL_law_908 (by first | exact Nat.le_of_ble_eq_true rfl | omega | (simp only [kR, Value.category, kCat_q, List.map, List.sum_cons, List.sum_nil]; omega)) (by first | exact Nat.le_of_ble_eq_true rfl | omega | (simp only [kR, Value.category, kCat_q, List.map, List.sum_cons, List.sum_nil]; omega)) (by first | exact Nat.le_of_ble_eq_true rfl | omega | (simp only [kR, Value.category, kCat_q, List.map, List.sum_cons, List.sum_nil]; omega)) (by first | exact Nat.le_of_ble_eq_true rfl | omega | (simp only [kR, Value.category, kCat_q, List.map, List.sum_cons, List.sum_nil]; omega)) (by first | exact Nat.le_of_ble_eq_true rfl | omega | (simp only [kR, Value.category, kCat_q, List.map, List.sum_cons, List.sum_nil]; omega)) (fun _ hx => hx.elim) (fun v908 s908 hp908 => ?_)
    rcases hp908 with ⟨⟨hg2, e3, h10c⟩ | ⟨E2, hg2, e3, h10c⟩, hfo⟩
    · rw [e3]
      refine kK.rev (y := .int (rLabel z (xs (i + 1)) (xs (i + 2)))) rfl ?_
      obtain ⟨mv1, kn1, Lk1, hm⟩ := id h10c
      refine k_istore B dL_law_911 (by decide) ?_
      try refine kK.set1 (by first | exact True.intro | rfl | exact kCat_q _) ?_
      refine k_aload_n B dL_law_913 rfl (by first | exact kRf_r _ | exact kRf_q _ | exact kRf_n) ?_
      refine cl_L_101 B (c_X10_thrown hl hm.m) hm.o dL_law_914 (by first | exact Nat.le_of_ble_eq_true rfl | omega | (simp only [kR, Value.category, kCat_q, List.map, List.sum_cons, List.sum_nil]; omega)) (by first | exact Nat.le_of_ble_eq_true rfl | omega | (simp only [kR, Value.category, kCat_q, List.map, List.sum_cons, List.sum_nil]; omega)) (by first | exact Nat.le_of_ble_eq_true rfl | omega | (simp only [kR, Value.category, kCat_q, List.map, List.sum_cons, List.sum_nil]; omega)) (by first | exact Nat.le_of_ble_eq_true rfl | omega | (simp only [kR, Value.category, kCat_q, List.map, List.sum_cons, List.sum_nil]; omega)) (by first | exact Nat.le_of_ble_eq_true rfl | omega | (simp only [kR, Value.category, kCat_q, List.map, List.sum_cons, List.sum_nil]; omega)) (fun _ hx => hx.elim) (fun v914 s914 hp914 => ?_)
      obtain ⟨rfl, e5⟩ := hp914
      rw [e5]
      refine kK.rev (y := .int 0) rfl ?_
      refine k_iload B dL_law_917 rfl ?_
      refine k_icmp_eq B 924 dL_law_919 (by decide) (fun c919 => ?_) (fun c919 => ?_)
      · skip
        refine k_iload B dL_law_924 rfl ?_
        refine k_if_ne B 948 dL_law_926 (by decide) (fun c926 => ?_) (fun c926 => ?_)
        · exact absurd rfl c926
        · skip
          have hL2 := keepL h10b hfo hL1 (Or.inl rfl)
          have hD2 := keepL h10b hfo hD1b (Or.inr rfl)
          refine k_aload_n B dL_law_929 rfl (by first | exact kRf_r _ | exact kRf_q _ | exact kRf_n) ?_
          refine k_iconst B (v := 0) dL_law_930 (by decide) ?_
          refine k_lald B dL_law_931 hL2 (vp_in_nI (n := 0) (N := 1) (by decide) (by decide)) ?_
          refine kK.rel (y := (rLabel z (xs (i + 1)) (xs (i + 2))).toInt64) hx1 ?_
          have fin : ∀ x : Int64, x = (rLabel z (xs (i + 1)) (xs (i + 2))).toInt64 → kK p l e room_1 s m args below meth c D A 9 Q s908 (k + 3 + 0 + 0) (n + 18 + 0 + 0) 942 [some (.ref b), some (.ref aO), some (.ref aM), some (.ref aL), some (.ref aD), some (.int (nI i)), none, none, none] [.long x, .long (rLabel z (xs (i + 1)) (xs (i + 2))).toInt64] := by
            intro x hx
            subst hx
            refine k_lcmp B dL_law_942 ?_
            refine k_if_eq B 948 dL_law_943 (by decide) (fun c943 => ?_) (fun c943 => ?_)
            · skip
              refine k_goto B 1697 dL_law_948 (by decide) ?_
              refine kK.sub (L2 := [some (.ref b), some (.ref aO), some (.ref aM), some (.ref aL), some (.ref aD), some (.int (nI i)), none, none, none]) ⟨Or.inr rfl, Or.inr rfl, Or.inr rfl, Or.inr rfl, Or.inr rfl, Or.inr rfl, Or.inl rfl, Or.inl rfl, Or.inl rfl, trivial⟩ ?_
              exact nxt _ _ _ ⟨nLabel z (xs (i + 1)) (xs (i + 2)), J, F, 0, (ok_label hs hg), (jR_same hj rfl rfl rfl), h9b.keepO h10b hfo, h10c, ⟨f1, hL2⟩, ⟨g0, hD2⟩, hc, by show k + 3 + 0 + 0 ≤ 200 + 31 * sNow z + 7 * (st + 1) + cnt F; omega, by show n + 18 + 0 + 0 ≤ 40000 + 164 * sNow z + 38 * (st + 1) + 3 * cnt F; omega⟩
            · exact absurd ((lg_cmp_eq _ _).mpr rfl) c943
          refine k_iload B dL_law_932 rfl ?_
          refine k_if_eq B 941 dL_law_934 (by decide) (fun c934 => ?_) (fun c934 => ?_)
          · refine k_lconst B (v := 0) dL_law_941 (by decide) ?_
            refine kK.sub (L2 := [some (.ref b), some (.ref aO), some (.ref aM), some (.ref aL), some (.ref aD), some (.int (nI i)), none, none, none]) ⟨Or.inr rfl, Or.inr rfl, Or.inr rfl, Or.inr rfl, Or.inr rfl, Or.inr rfl, Or.inl rfl, Or.inl rfl, Or.inl rfl, trivial⟩ ?_
            exact fin 0 (by rw [rLabel] at *; rw [bI_ff c934]; rfl)
          · refine k_lconst B (v := 1) dL_law_937 (by decide) ?_
            refine k_goto B 942 dL_law_938 (by decide) ?_
            refine kK.sub (L2 := [some (.ref b), some (.ref aO), some (.ref aM), some (.ref aL), some (.ref aD), some (.int (nI i)), none, none, none]) ⟨Or.inr rfl, Or.inr rfl, Or.inr rfl, Or.inr rfl, Or.inr rfl, Or.inr rfl, Or.inl rfl, Or.inl rfl, Or.inl rfl, trivial⟩ ?_
            exact fin 1 (by rw [rLabel] at *; rw [bI_tt c934]; rfl)
      · exact absurd rfl c919
    · rw [hg] at hg2; cases hg2
  · rw [e1, e2]
    refine kK.rev (y := .int (tCd 1 2 3 E)) rfl ?_
    obtain ⟨fsm, hfm⟩ := h10.o
    refine k_istore B dL_law_893 (by decide) ?_
    try refine kK.set1 (by first | exact True.intro | rfl | exact kCat_q _) ?_
    refine k_aload_n B dL_law_895 rfl (by first | exact kRf_r _ | exact kRf_q _ | exact kRf_n) ?_
    refine k_aload_n B dL_law_896 rfl (by first | exact kRf_r _ | exact kRf_q _ | exact kRf_n) ?_
    refine k_iload B dL_law_897 rfl ?_
    refine k_iconst B (v := 1) dL_law_899 (by decide) ?_
    refine k_iadd B dL_law_900 ?_
    refine kK.rei (y := nI (i + 1)) (nI_add i 1) ?_
    refine k_sld B hX hbl hbA (vp_in_nI (show i + 1 < N by omega) (by omega)) dL_law_901 ?_
    refine kK.rei (y := xs (i + 1)) (by rw [nI_clamp (by omega)]) ?_
    refine k_aload_n B dL_law_902 rfl (by first | exact kRf_r _ | exact kRf_q _ | exact kRf_n) ?_
    refine k_iload B dL_law_903 rfl ?_
    refine k_iconst B (v := 2) dL_law_905 (by decide) ?_
    refine k_iadd B dL_law_906 ?_
    refine kK.rei (y := nI (i + 2)) (nI_add i 2) ?_
    refine k_sld B hX hbl hbA (vp_in_nI (show i + 2 < N by omega) (by omega)) dL_law_907 ?_
    refine kK.rei (y := xs (i + 2)) (by rw [nI_clamp (by omega)]) ?_
    refine cl_L_139 B (c_X10_label hl hs h10) hfm dL_law_908 (by first | exact Nat.le_of_ble_eq_true rfl | omega | (simp only [kR, Value.category, kCat_q, List.map, List.sum_cons, List.sum_nil]; omega)) (by first | exact Nat.le_of_ble_eq_true rfl | omega | (simp only [kR, Value.category, kCat_q, List.map, List.sum_cons, List.sum_nil]; omega)) (by first | exact Nat.le_of_ble_eq_true rfl | omega | (simp only [kR, Value.category, kCat_q, List.map, List.sum_cons, List.sum_nil]; omega)) (by first | exact Nat.le_of_ble_eq_true rfl | omega | (simp only [kR, Value.category, kCat_q, List.map, List.sum_cons, List.sum_nil]; omega)) (by first | exact Nat.le_of_ble_eq_true rfl | omega | (simp only [kR, Value.category, kCat_q, List.map, List.sum_cons, List.sum_nil]; omega)) (fun _ hx => hx.elim) (fun v908 s908 hp908 => ?_)
    rcases hp908 with ⟨⟨hg2, e3, h10c⟩ | ⟨E2, hg2, e3, h10c⟩, hfo⟩
    · rw [hg] at hg2; cases hg2
    · obtain rfl : E = E2 := Option.some.inj (hg.symm.trans hg2)
      obtain ⟨mv1, kn1, Lk1, hm⟩ := id h10c
      rw [e3]
      refine kK.rev (y := .int 0) rfl ?_
      refine k_istore B dL_law_911 (by decide) ?_
      try refine kK.set1 (by first | exact True.intro | rfl | exact kCat_q _) ?_
      refine k_aload_n B dL_law_913 rfl (by first | exact kRf_r _ | exact kRf_q _ | exact kRf_n) ?_
      refine cl_L_101 B (c_X10_thrown hl hm.m) hm.o dL_law_914 (by first | exact Nat.le_of_ble_eq_true rfl | omega | (simp only [kR, Value.category, kCat_q, List.map, List.sum_cons, List.sum_nil]; omega)) (by first | exact Nat.le_of_ble_eq_true rfl | omega | (simp only [kR, Value.category, kCat_q, List.map, List.sum_cons, List.sum_nil]; omega)) (by first | exact Nat.le_of_ble_eq_true rfl | omega | (simp only [kR, Value.category, kCat_q, List.map, List.sum_cons, List.sum_nil]; omega)) (by first | exact Nat.le_of_ble_eq_true rfl | omega | (simp only [kR, Value.category, kCat_q, List.map, List.sum_cons, List.sum_nil]; omega)) (by first | exact Nat.le_of_ble_eq_true rfl | omega | (simp only [kR, Value.category, kCat_q, List.map, List.sum_cons, List.sum_nil]; omega)) (fun _ hx => hx.elim) (fun v914 s914 hp914 => ?_)
      obtain ⟨rfl, e5⟩ := hp914
      rw [e5]
      refine kK.rev (y := .int (tCd 1 2 3 E)) rfl ?_
      refine k_iload B dL_law_917 rfl ?_
      refine k_icmp_eq B 924 dL_law_919 (by decide) (fun c919 => ?_) (fun c919 => ?_)
      · skip
        refine k_iload B dL_law_924 rfl ?_
        refine k_if_ne B 948 dL_law_926 (by decide) (fun c926 => ?_) (fun c926 => ?_)
        · skip
          refine k_goto B 1697 dL_law_948 (by decide) ?_
          refine kK.sub (L2 := [some (.ref b), some (.ref aO), some (.ref aM), some (.ref aL), some (.ref aD), some (.int (nI i)), none, none, none]) ⟨Or.inr rfl, Or.inr rfl, Or.inr rfl, Or.inr rfl, Or.inr rfl, Or.inr rfl, Or.inl rfl, Or.inl rfl, Or.inl rfl, trivial⟩ ?_
          exact nxt _ _ _ ⟨z, J, F, _, hs, hj, h9.keepO h10 hfo, h10c, ⟨f0, keepL h10 hfo hL (Or.inl rfl)⟩, ⟨g0, keepL h10 hfo hD (Or.inr rfl)⟩, hc, by show k + 3 + 0 + 0 ≤ 200 + 31 * sNow z + 7 * (st + 1) + cnt F; omega, by show n + 18 + 0 + 0 ≤ 40000 + 164 * sNow z + 38 * (st + 1) + 3 * cnt F; omega⟩
        · exact absurd c926 (tCd_ne (by decide) (by decide) (by decide))
      · exact absurd rfl c919
end Law2
