section Law3
variable {p : Program} {l : Launch} {e : Env} {s : State} {m : MethodId} {args : Array Value} {below : List Frame} {meth : Method} {c : Code} {D : va_G} {A : Nat → Prop} {Q : State → Prop} {σ : kS} {aO aM aL aD b N i st k n : Nat} {ma : Nat → Nat} {xs : Nat → Int32}
set_option maxHeartbeats 1000000 in
set_option maxRecDepth 100000 in
theorem law_forbid (B : kB p l s m args meth c D A 9 cL_law RL) (hl : l.stackTraces = false) (hX : va_X b N xs s s.heap) (hbl : b < s.heap.size) (hbA : ¬ A b) (hrc : 20000 ≤ room_1.cells) (hrs : 200000 ≤ room_1.slots) (hN : N ≤ 2048) (hi : i + 4 ≤ N) (hst : st ≤ 512) (hI : lI D aO aM aL aD ma st k n σ) (nxt : ∀ (σ2 : kS) (k2 n2 : Nat), lI D aO aM aL aD ma (st + 1) k2 n2 σ2 → kK p l e room_1 s m args below meth c D A 9 Q σ2 k2 n2 1697 [some (.ref b), some (.ref aO), some (.ref aM), some (.ref aL), some (.ref aD), some (.int (nI i)), none, none, none] []) : kK p l e room_1 s m args below meth c D A 9 Q σ k n 951 [some (.ref b), some (.ref aO), some (.ref aM), some (.ref aL), some (.ref aD), some (.int (nI i)), none, none, none] [] := by
  obtain ⟨z, J, F, t, hs, hj, h9, h10, ⟨f0, hL⟩, ⟨g0, hD⟩, hc, hk, hn⟩ := hI
  have hn3 := hs.1.1
  obtain ⟨fs9, hf9⟩ := h9.fs
  obtain ⟨fs10, hf10⟩ := h10.o
  refine k_aload_n B dL_law_951 rfl (by first | exact kRf_r _ | exact kRf_q _ | exact kRf_n) ?_
  refine k_aload_n B dL_law_952 rfl (by first | exact kRf_r _ | exact kRf_q _ | exact kRf_n) ?_
  refine k_iload B dL_law_953 rfl ?_
  refine k_iconst B (v := 1) dL_law_955 (by decide) ?_
  refine k_iadd B dL_law_956 ?_
  refine kK.rei (y := nI (i + 1)) (nI_add i 1) ?_
  refine k_sld B hX hbl hbA (vp_in_nI (show i + 1 < N by omega) (by omega)) dL_law_957 ?_
  refine kK.rei (y := xs (i + 1)) (by rw [nI_clamp (by omega)]) ?_
  refine k_aload_n B dL_law_958 rfl (by first | exact kRf_r _ | exact kRf_q _ | exact kRf_n) ?_
  refine cl_L_140 B (c_L_forbid hl hs h9 hL) dL_law_959 (by first | exact Nat.le_of_ble_eq_true rfl | omega | (simp only [kR, Value.category, kCat_q, List.map, List.sum_cons, List.sum_nil]; omega)) (by first | exact Nat.le_of_ble_eq_true rfl | omega | (simp only [kR, Value.category, kCat_q, List.map, List.sum_cons, List.sum_nil]; omega)) (by first | exact Nat.le_of_ble_eq_true rfl | omega | (simp only [kR, Value.category, kCat_q, List.map, List.sum_cons, List.sum_nil]; omega)) (by first | exact Nat.le_of_ble_eq_true rfl | omega | (simp only [kR, Value.category, kCat_q, List.map, List.sum_cons, List.sum_nil]; omega)) (by first | exact Nat.le_of_ble_eq_true rfl | omega | (simp only [kR, Value.category, kCat_q, List.map, List.sum_cons, List.sum_nil]; omega)) (fun _ hx => hx.elim) (fun v959 s959 hp959 => ?_)
  rcases hp959 with ⟨hg, e1, h9b, ⟨f1, hL1, hx1⟩, hfx⟩ | ⟨E, hg, e1, e2⟩
  · rw [e1]
    refine kK.rev (y := .int 0) rfl ?_
    have h10b := h10.keepX hfx hL (Or.inl rfl)
    have hD1b := hfx.d hL hD
    obtain ⟨fsm, hfm⟩ := h10b.o
    refine k_istore B dL_law_962 (by decide) ?_
    try refine kK.set1 (by first | exact True.intro | rfl | exact kCat_q _) ?_
    refine k_aload_n B dL_law_964 rfl (by first | exact kRf_r _ | exact kRf_q _ | exact kRf_n) ?_
    refine k_aload_n B dL_law_965 rfl (by first | exact kRf_r _ | exact kRf_q _ | exact kRf_n) ?_
    refine k_iload B dL_law_966 rfl ?_
    refine k_iconst B (v := 1) dL_law_968 (by decide) ?_
    refine k_iadd B dL_law_969 ?_
    refine kK.rei (y := nI (i + 1)) (nI_add i 1) ?_
    refine k_sld B hX hbl hbA (vp_in_nI (show i + 1 < N by omega) (by omega)) dL_law_970 ?_
    refine kK.rei (y := xs (i + 1)) (by rw [nI_clamp (by omega)]) ?_
    refine cl_L_142 B (c_X10_forbid hl hs h10b) hfm dL_law_971 (by first | exact Nat.le_of_ble_eq_true rfl | omega | (simp only [kR, Value.category, kCat_q, List.map, List.sum_cons, List.sum_nil]; omega)) (by first | exact Nat.le_of_ble_eq_true rfl | omega | (simp only [kR, Value.category, kCat_q, List.map, List.sum_cons, List.sum_nil]; omega)) (by first | exact Nat.le_of_ble_eq_true rfl | omega | (simp only [kR, Value.category, kCat_q, List.map, List.sum_cons, List.sum_nil]; omega)) (by first | exact Nat.le_of_ble_eq_true rfl | omega | (simp only [kR, Value.category, kCat_q, List.map, List.sum_cons, List.sum_nil]; omega)) (by first | exact Nat.le_of_ble_eq_true rfl | omega | (simp only [kR, Value.category, kCat_q, List.map, List.sum_cons, List.sum_nil]; omega)) (fun _ hx => hx.elim) (fun v971 s971 hp971 => ?_)
    rcases hp971 with ⟨⟨hg2, e3, h10c⟩ | ⟨E2, hg2, e3, h10c⟩, hfo⟩
    · rw [e3]
      refine kK.rev (y := .int (rForbid z (xs (i + 1)))) rfl ?_
      obtain ⟨mv1, kn1, Lk1, hm⟩ := id h10c
      refine k_istore B dL_law_974 (by decide) ?_
      try refine kK.set1 (by first | exact True.intro | rfl | exact kCat_q _) ?_
      refine k_aload_n B dL_law_976 rfl (by first | exact kRf_r _ | exact kRf_q _ | exact kRf_n) ?_
      refine cl_L_101 B (c_X10_thrown hl hm.m) hm.o dL_law_977 (by first | exact Nat.le_of_ble_eq_true rfl | omega | (simp only [kR, Value.category, kCat_q, List.map, List.sum_cons, List.sum_nil]; omega)) (by first | exact Nat.le_of_ble_eq_true rfl | omega | (simp only [kR, Value.category, kCat_q, List.map, List.sum_cons, List.sum_nil]; omega)) (by first | exact Nat.le_of_ble_eq_true rfl | omega | (simp only [kR, Value.category, kCat_q, List.map, List.sum_cons, List.sum_nil]; omega)) (by first | exact Nat.le_of_ble_eq_true rfl | omega | (simp only [kR, Value.category, kCat_q, List.map, List.sum_cons, List.sum_nil]; omega)) (by first | exact Nat.le_of_ble_eq_true rfl | omega | (simp only [kR, Value.category, kCat_q, List.map, List.sum_cons, List.sum_nil]; omega)) (fun _ hx => hx.elim) (fun v977 s977 hp977 => ?_)
      obtain ⟨rfl, e5⟩ := hp977
      rw [e5]
      refine kK.rev (y := .int 0) rfl ?_
      refine k_iload B dL_law_980 rfl ?_
      refine k_icmp_eq B 987 dL_law_982 (by decide) (fun c982 => ?_) (fun c982 => ?_)
      · skip
        refine k_iload B dL_law_987 rfl ?_
        refine k_if_ne B 1004 dL_law_989 (by decide) (fun c989 => ?_) (fun c989 => ?_)
        · exact absurd rfl c989
        · skip
          have hL2 := keepL h10b hfo hL1 (Or.inl rfl)
          have hD2 := keepL h10b hfo hD1b (Or.inr rfl)
          refine k_aload_n B dL_law_992 rfl (by first | exact kRf_r _ | exact kRf_q _ | exact kRf_n) ?_
          refine k_iconst B (v := 0) dL_law_993 (by decide) ?_
          refine k_lald B dL_law_994 hL2 (vp_in_nI (n := 0) (N := 1) (by decide) (by decide)) ?_
          refine kK.rel (y := (rForbid z (xs (i + 1))).toInt64) hx1 ?_
          refine k_iload B dL_law_995 rfl ?_
          refine k_i2l B dL_law_997 ?_
          refine k_lcmp B dL_law_998 ?_
          refine k_if_eq B 1004 dL_law_999 (by decide) (fun c999 => ?_) (fun c999 => ?_)
          · skip
            refine k_goto B 1697 dL_law_1004 (by decide) ?_
            refine kK.sub (L2 := [some (.ref b), some (.ref aO), some (.ref aM), some (.ref aL), some (.ref aD), some (.int (nI i)), none, none, none]) ⟨Or.inr rfl, Or.inr rfl, Or.inr rfl, Or.inr rfl, Or.inr rfl, Or.inr rfl, Or.inl rfl, Or.inl rfl, Or.inl rfl, trivial⟩ ?_
            exact nxt _ _ _ ⟨nForbid z (xs (i + 1)), J, F, 0, (ok_forbid hs), (jR_same hj rfl rfl rfl), h9b.keepO h10b hfo, h10c, ⟨f1, hL2⟩, ⟨g0, hD2⟩, hc, by show k + 2 + 0 + 0 ≤ 200 + 31 * sNow z + 7 * (st + 1) + cnt F; omega, by show n + 12 + 0 + 0 ≤ 40000 + 164 * sNow z + 38 * (st + 1) + 3 * cnt F; omega⟩
          · exact absurd ((lg_cmp_eq _ _).mpr rfl) c999
      · exact absurd rfl c982
    · rw [hg] at hg2; cases hg2
  · rw [e1, e2]
    refine kK.rev (y := .int (tCd 1 2 2 E)) rfl ?_
    obtain ⟨fsm, hfm⟩ := h10.o
    refine k_istore B dL_law_962 (by decide) ?_
    try refine kK.set1 (by first | exact True.intro | rfl | exact kCat_q _) ?_
    refine k_aload_n B dL_law_964 rfl (by first | exact kRf_r _ | exact kRf_q _ | exact kRf_n) ?_
    refine k_aload_n B dL_law_965 rfl (by first | exact kRf_r _ | exact kRf_q _ | exact kRf_n) ?_
    refine k_iload B dL_law_966 rfl ?_
    refine k_iconst B (v := 1) dL_law_968 (by decide) ?_
    refine k_iadd B dL_law_969 ?_
    refine kK.rei (y := nI (i + 1)) (nI_add i 1) ?_
    refine k_sld B hX hbl hbA (vp_in_nI (show i + 1 < N by omega) (by omega)) dL_law_970 ?_
    refine kK.rei (y := xs (i + 1)) (by rw [nI_clamp (by omega)]) ?_
    refine cl_L_142 B (c_X10_forbid hl hs h10) hfm dL_law_971 (by first | exact Nat.le_of_ble_eq_true rfl | omega | (simp only [kR, Value.category, kCat_q, List.map, List.sum_cons, List.sum_nil]; omega)) (by first | exact Nat.le_of_ble_eq_true rfl | omega | (simp only [kR, Value.category, kCat_q, List.map, List.sum_cons, List.sum_nil]; omega)) (by first | exact Nat.le_of_ble_eq_true rfl | omega | (simp only [kR, Value.category, kCat_q, List.map, List.sum_cons, List.sum_nil]; omega)) (by first | exact Nat.le_of_ble_eq_true rfl | omega | (simp only [kR, Value.category, kCat_q, List.map, List.sum_cons, List.sum_nil]; omega)) (by first | exact Nat.le_of_ble_eq_true rfl | omega | (simp only [kR, Value.category, kCat_q, List.map, List.sum_cons, List.sum_nil]; omega)) (fun _ hx => hx.elim) (fun v971 s971 hp971 => ?_)
    rcases hp971 with ⟨⟨hg2, e3, h10c⟩ | ⟨E2, hg2, e3, h10c⟩, hfo⟩
    · rw [hg] at hg2; cases hg2
    · obtain rfl : E = E2 := Option.some.inj (hg.symm.trans hg2)
      obtain ⟨mv1, kn1, Lk1, hm⟩ := id h10c
      rw [e3]
      refine kK.rev (y := .int 0) rfl ?_
      refine k_istore B dL_law_974 (by decide) ?_
      try refine kK.set1 (by first | exact True.intro | rfl | exact kCat_q _) ?_
      refine k_aload_n B dL_law_976 rfl (by first | exact kRf_r _ | exact kRf_q _ | exact kRf_n) ?_
      refine cl_L_101 B (c_X10_thrown hl hm.m) hm.o dL_law_977 (by first | exact Nat.le_of_ble_eq_true rfl | omega | (simp only [kR, Value.category, kCat_q, List.map, List.sum_cons, List.sum_nil]; omega)) (by first | exact Nat.le_of_ble_eq_true rfl | omega | (simp only [kR, Value.category, kCat_q, List.map, List.sum_cons, List.sum_nil]; omega)) (by first | exact Nat.le_of_ble_eq_true rfl | omega | (simp only [kR, Value.category, kCat_q, List.map, List.sum_cons, List.sum_nil]; omega)) (by first | exact Nat.le_of_ble_eq_true rfl | omega | (simp only [kR, Value.category, kCat_q, List.map, List.sum_cons, List.sum_nil]; omega)) (by first | exact Nat.le_of_ble_eq_true rfl | omega | (simp only [kR, Value.category, kCat_q, List.map, List.sum_cons, List.sum_nil]; omega)) (fun _ hx => hx.elim) (fun v977 s977 hp977 => ?_)
      obtain ⟨rfl, e5⟩ := hp977
      rw [e5]
      refine kK.rev (y := .int (tCd 1 2 2 E)) rfl ?_
      refine k_iload B dL_law_980 rfl ?_
      refine k_icmp_eq B 987 dL_law_982 (by decide) (fun c982 => ?_) (fun c982 => ?_)
      · skip
        refine k_iload B dL_law_987 rfl ?_
        refine k_if_ne B 1004 dL_law_989 (by decide) (fun c989 => ?_) (fun c989 => ?_)
        · skip
          refine k_goto B 1697 dL_law_1004 (by decide) ?_
          refine kK.sub (L2 := [some (.ref b), some (.ref aO), some (.ref aM), some (.ref aL), some (.ref aD), some (.int (nI i)), none, none, none]) ⟨Or.inr rfl, Or.inr rfl, Or.inr rfl, Or.inr rfl, Or.inr rfl, Or.inr rfl, Or.inl rfl, Or.inl rfl, Or.inl rfl, trivial⟩ ?_
          exact nxt _ _ _ ⟨z, J, F, _, hs, hj, h9.keepO h10 hfo, h10c, ⟨f0, keepL h10 hfo hL (Or.inl rfl)⟩, ⟨g0, keepL h10 hfo hD (Or.inr rfl)⟩, hc, by show k + 2 + 0 + 0 ≤ 200 + 31 * sNow z + 7 * (st + 1) + cnt F; omega, by show n + 12 + 0 + 0 ≤ 40000 + 164 * sNow z + 38 * (st + 1) + 3 * cnt F; omega⟩
        · exact absurd c989 (tCd_ne (by decide) (by decide) (by decide))
      · exact absurd rfl c982
set_option maxHeartbeats 1000000 in
set_option maxRecDepth 100000 in
theorem law_year (B : kB p l s m args meth c D A 9 cL_law RL) (hl : l.stackTraces = false) (hX : va_X b N xs s s.heap) (hbl : b < s.heap.size) (hbA : ¬ A b) (hrc : 20000 ≤ room_1.cells) (hrs : 200000 ≤ room_1.slots) (hN : N ≤ 2048) (hi : i + 4 ≤ N) (hst : st ≤ 512) (hI : lI D aO aM aL aD ma st k n σ) (nxt : ∀ (σ2 : kS) (k2 n2 : Nat), lI D aO aM aL aD ma (st + 1) k2 n2 σ2 → kK p l e room_1 s m args below meth c D A 9 Q σ2 k2 n2 1697 [some (.ref b), some (.ref aO), some (.ref aM), some (.ref aL), some (.ref aD), some (.int (nI i)), none, none, none] []) : kK p l e room_1 s m args below meth c D A 9 Q σ k n 1007 [some (.ref b), some (.ref aO), some (.ref aM), some (.ref aL), some (.ref aD), some (.int (nI i)), none, none, none] [] := by
  obtain ⟨z, J, F, t, hs, hj, h9, h10, ⟨f0, hL⟩, ⟨g0, hD⟩, hc, hk, hn⟩ := hI
  have hn3 := hs.1.1
  obtain ⟨fs9, hf9⟩ := h9.fs
  obtain ⟨fs10, hf10⟩ := h10.o
  refine k_aload_n B dL_law_1007 rfl (by first | exact kRf_r _ | exact kRf_q _ | exact kRf_n) ?_
  refine cl_L_143 B (c_X9_year hl h9) hf9 dL_law_1008 (by first | exact Nat.le_of_ble_eq_true rfl | omega | (simp only [kR, Value.category, kCat_q, List.map, List.sum_cons, List.sum_nil]; omega)) (by first | exact Nat.le_of_ble_eq_true rfl | omega | (simp only [kR, Value.category, kCat_q, List.map, List.sum_cons, List.sum_nil]; omega)) (by first | exact Nat.le_of_ble_eq_true rfl | omega | (simp only [kR, Value.category, kCat_q, List.map, List.sum_cons, List.sum_nil]; omega)) (by first | exact Nat.le_of_ble_eq_true rfl | omega | (simp only [kR, Value.category, kCat_q, List.map, List.sum_cons, List.sum_nil]; omega)) (by first | exact Nat.le_of_ble_eq_true rfl | omega | (simp only [kR, Value.category, kCat_q, List.map, List.sum_cons, List.sum_nil]; omega)) (fun _ hx => hx.elim) (fun v1008 s1008 hp1008 => ?_)
  obtain ⟨rfl, e1⟩ := hp1008
  rw [e1]
  refine kK.rev (y := .int (nI (sNow z))) rfl ?_
  refine k_aload_n B dL_law_1011 rfl (by first | exact kRf_r _ | exact kRf_q _ | exact kRf_n) ?_
  refine cl_L_146 B (c_X10_year hl h10) hf10 dL_law_1012 (by first | exact Nat.le_of_ble_eq_true rfl | omega | (simp only [kR, Value.category, kCat_q, List.map, List.sum_cons, List.sum_nil]; omega)) (by first | exact Nat.le_of_ble_eq_true rfl | omega | (simp only [kR, Value.category, kCat_q, List.map, List.sum_cons, List.sum_nil]; omega)) (by first | exact Nat.le_of_ble_eq_true rfl | omega | (simp only [kR, Value.category, kCat_q, List.map, List.sum_cons, List.sum_nil]; omega)) (by first | exact Nat.le_of_ble_eq_true rfl | omega | (simp only [kR, Value.category, kCat_q, List.map, List.sum_cons, List.sum_nil]; omega)) (by first | exact Nat.le_of_ble_eq_true rfl | omega | (simp only [kR, Value.category, kCat_q, List.map, List.sum_cons, List.sum_nil]; omega)) (fun _ hx => hx.elim) (fun v1012 s1012 hp1012 => ?_)
  rcases hp1012 with ⟨⟨_, e3, h10c⟩ | ⟨E, hg2, _, _⟩, hfo⟩
  · rw [e3]
    refine kK.rev (y := .int (nI (sNow z))) rfl ?_
    refine k_icmp_eq B 1697 dL_law_1015 (by decide) (fun c1015 => ?_) (fun c1015 => ?_)
    · exact nxt _ _ _ ⟨z, J, F, 0, hs, hj, h9.keepO h10 hfo, h10c, ⟨f0, keepL h10 hfo hL (Or.inl rfl)⟩, ⟨g0, keepL h10 hfo hD (Or.inr rfl)⟩, hc, by omega, by omega⟩
    · exact absurd rfl c1015
  · cases hg2
set_option maxHeartbeats 1000000 in
set_option maxRecDepth 100000 in
theorem law_cellOf (B : kB p l s m args meth c D A 9 cL_law RL) (hl : l.stackTraces = false) (hX : va_X b N xs s s.heap) (hbl : b < s.heap.size) (hbA : ¬ A b) (hrc : 20000 ≤ room_1.cells) (hrs : 200000 ≤ room_1.slots) (hN : N ≤ 2048) (hi : i + 4 ≤ N) (hst : st ≤ 512) (hI : lI D aO aM aL aD ma st k n σ) (nxt : ∀ (σ2 : kS) (k2 n2 : Nat), lI D aO aM aL aD ma (st + 1) k2 n2 σ2 → kK p l e room_1 s m args below meth c D A 9 Q σ2 k2 n2 1697 [some (.ref b), some (.ref aO), some (.ref aM), some (.ref aL), some (.ref aD), some (.int (nI i)), none, none, none] []) : kK p l e room_1 s m args below meth c D A 9 Q σ k n 1020 [some (.ref b), some (.ref aO), some (.ref aM), some (.ref aL), some (.ref aD), some (.int (nI i)), none, none, none] [] := by
  obtain ⟨z, J, F, t, hs, hj, h9, h10, ⟨f0, hL⟩, ⟨g0, hD⟩, hc, hk, hn⟩ := hI
  have hn3 := hs.1.1
  obtain ⟨fs9, hf9⟩ := h9.fs
  obtain ⟨fs10, hf10⟩ := h10.o
  refine k_aload_n B dL_law_1020 rfl (by first | exact kRf_r _ | exact kRf_q _ | exact kRf_n) ?_
  refine k_aload_n B dL_law_1021 rfl (by first | exact kRf_r _ | exact kRf_q _ | exact kRf_n) ?_
  refine k_iload B dL_law_1022 rfl ?_
  refine k_iconst B (v := 1) dL_law_1024 (by decide) ?_
  refine k_iadd B dL_law_1025 ?_
  refine kK.rei (y := nI (i + 1)) (nI_add i 1) ?_
  refine k_sld B hX hbl hbA (vp_in_nI (show i + 1 < N by omega) (by omega)) dL_law_1026 ?_
  refine kK.rei (y := xs (i + 1)) (by rw [nI_clamp (by omega)]) ?_
  refine k_aload_n B dL_law_1027 rfl (by first | exact kRf_r _ | exact kRf_q _ | exact kRf_n) ?_
  refine k_iload B dL_law_1028 rfl ?_
  refine k_iconst B (v := 2) dL_law_1030 (by decide) ?_
  refine k_iadd B dL_law_1031 ?_
  refine kK.rei (y := nI (i + 2)) (nI_add i 2) ?_
  refine k_sld B hX hbl hbA (vp_in_nI (show i + 2 < N by omega) (by omega)) dL_law_1032 ?_
  refine kK.rei (y := xs (i + 2)) (by rw [nI_clamp (by omega)]) ?_
  refine k_aload_n B dL_law_1033 rfl (by first | exact kRf_r _ | exact kRf_q _ | exact kRf_n) ?_
  refine cl_L_147 B (c_L_cellOf hl hs h9 hL) dL_law_1034 (by first | exact Nat.le_of_ble_eq_true rfl | omega | (simp only [kR, Value.category, kCat_q, List.map, List.sum_cons, List.sum_nil]; omega)) (by first | exact Nat.le_of_ble_eq_true rfl | omega | (simp only [kR, Value.category, kCat_q, List.map, List.sum_cons, List.sum_nil]; omega)) (by first | exact Nat.le_of_ble_eq_true rfl | omega | (simp only [kR, Value.category, kCat_q, List.map, List.sum_cons, List.sum_nil]; omega)) (by first | exact Nat.le_of_ble_eq_true rfl | omega | (simp only [kR, Value.category, kCat_q, List.map, List.sum_cons, List.sum_nil]; omega)) (by first | exact Nat.le_of_ble_eq_true rfl | omega | (simp only [kR, Value.category, kCat_q, List.map, List.sum_cons, List.sum_nil]; omega)) (fun _ hx => hx.elim) (fun v1034 s1034 hp1034 => ?_)
  rcases hp1034 with ⟨hg, e1, h9b, ⟨f1, hL1, hx1⟩, hfx⟩ | ⟨E, hg, e1, e2⟩
  · rw [e1]
    refine kK.rev (y := .int 0) rfl ?_
    have h10b := h10.keepX hfx hL (Or.inl rfl)
    have hD1b := hfx.d hL hD
    obtain ⟨fsm, hfm⟩ := h10b.o
    refine k_istore B dL_law_1037 (by decide) ?_
    try refine kK.set1 (by first | exact True.intro | rfl | exact kCat_q _) ?_
    refine k_aload_n B dL_law_1039 rfl (by first | exact kRf_r _ | exact kRf_q _ | exact kRf_n) ?_
    refine k_aload_n B dL_law_1040 rfl (by first | exact kRf_r _ | exact kRf_q _ | exact kRf_n) ?_
    refine k_iload B dL_law_1041 rfl ?_
    refine k_iconst B (v := 1) dL_law_1043 (by decide) ?_
    refine k_iadd B dL_law_1044 ?_
    refine kK.rei (y := nI (i + 1)) (nI_add i 1) ?_
    refine k_sld B hX hbl hbA (vp_in_nI (show i + 1 < N by omega) (by omega)) dL_law_1045 ?_
    refine kK.rei (y := xs (i + 1)) (by rw [nI_clamp (by omega)]) ?_
    refine k_aload_n B dL_law_1046 rfl (by first | exact kRf_r _ | exact kRf_q _ | exact kRf_n) ?_
    refine k_iload B dL_law_1047 rfl ?_
    refine k_iconst B (v := 2) dL_law_1049 (by decide) ?_
    refine k_iadd B dL_law_1050 ?_
    refine kK.rei (y := nI (i + 2)) (nI_add i 2) ?_
    refine k_sld B hX hbl hbA (vp_in_nI (show i + 2 < N by omega) (by omega)) dL_law_1051 ?_
    refine kK.rei (y := xs (i + 2)) (by rw [nI_clamp (by omega)]) ?_
    refine cl_L_149 B (c_X10_cellOf hl hs h10b) hfm dL_law_1052 (by first | exact Nat.le_of_ble_eq_true rfl | omega | (simp only [kR, Value.category, kCat_q, List.map, List.sum_cons, List.sum_nil]; omega)) (by first | exact Nat.le_of_ble_eq_true rfl | omega | (simp only [kR, Value.category, kCat_q, List.map, List.sum_cons, List.sum_nil]; omega)) (by first | exact Nat.le_of_ble_eq_true rfl | omega | (simp only [kR, Value.category, kCat_q, List.map, List.sum_cons, List.sum_nil]; omega)) (by first | exact Nat.le_of_ble_eq_true rfl | omega | (simp only [kR, Value.category, kCat_q, List.map, List.sum_cons, List.sum_nil]; omega)) (by first | exact Nat.le_of_ble_eq_true rfl | omega | (simp only [kR, Value.category, kCat_q, List.map, List.sum_cons, List.sum_nil]; omega)) (fun _ hx => hx.elim) (fun v1052 s1052 hp1052 => ?_)
    rcases hp1052 with ⟨⟨hg2, e3, h10c⟩ | ⟨E2, hg2, e3, h10c⟩, hfo⟩
    · rw [e3]
      refine kK.rev (y := .int (rCellOf z (xs (i + 1)) (xs (i + 2)))) rfl ?_
      obtain ⟨mv1, kn1, Lk1, hm⟩ := id h10c
      refine k_istore B dL_law_1055 (by decide) ?_
      try refine kK.set1 (by first | exact True.intro | rfl | exact kCat_q _) ?_
      refine k_aload_n B dL_law_1057 rfl (by first | exact kRf_r _ | exact kRf_q _ | exact kRf_n) ?_
      refine cl_L_101 B (c_X10_thrown hl hm.m) hm.o dL_law_1058 (by first | exact Nat.le_of_ble_eq_true rfl | omega | (simp only [kR, Value.category, kCat_q, List.map, List.sum_cons, List.sum_nil]; omega)) (by first | exact Nat.le_of_ble_eq_true rfl | omega | (simp only [kR, Value.category, kCat_q, List.map, List.sum_cons, List.sum_nil]; omega)) (by first | exact Nat.le_of_ble_eq_true rfl | omega | (simp only [kR, Value.category, kCat_q, List.map, List.sum_cons, List.sum_nil]; omega)) (by first | exact Nat.le_of_ble_eq_true rfl | omega | (simp only [kR, Value.category, kCat_q, List.map, List.sum_cons, List.sum_nil]; omega)) (by first | exact Nat.le_of_ble_eq_true rfl | omega | (simp only [kR, Value.category, kCat_q, List.map, List.sum_cons, List.sum_nil]; omega)) (fun _ hx => hx.elim) (fun v1058 s1058 hp1058 => ?_)
      obtain ⟨rfl, e5⟩ := hp1058
      rw [e5]
      refine kK.rev (y := .int 0) rfl ?_
      refine k_iload B dL_law_1061 rfl ?_
      refine k_icmp_eq B 1068 dL_law_1063 (by decide) (fun c1063 => ?_) (fun c1063 => ?_)
      · skip
        refine k_iload B dL_law_1068 rfl ?_
        refine k_if_ne B 1085 dL_law_1070 (by decide) (fun c1070 => ?_) (fun c1070 => ?_)
        · exact absurd rfl c1070
        · skip
          have hL2 := keepL h10b hfo hL1 (Or.inl rfl)
          have hD2 := keepL h10b hfo hD1b (Or.inr rfl)
          refine k_aload_n B dL_law_1073 rfl (by first | exact kRf_r _ | exact kRf_q _ | exact kRf_n) ?_
          refine k_iconst B (v := 0) dL_law_1074 (by decide) ?_
          refine k_lald B dL_law_1075 hL2 (vp_in_nI (n := 0) (N := 1) (by decide) (by decide)) ?_
          refine kK.rel (y := (rCellOf z (xs (i + 1)) (xs (i + 2))).toInt64) hx1 ?_
          refine k_iload B dL_law_1076 rfl ?_
          refine k_i2l B dL_law_1078 ?_
          refine k_lcmp B dL_law_1079 ?_
          refine k_if_eq B 1085 dL_law_1080 (by decide) (fun c1080 => ?_) (fun c1080 => ?_)
          · skip
            refine k_goto B 1697 dL_law_1085 (by decide) ?_
            refine kK.sub (L2 := [some (.ref b), some (.ref aO), some (.ref aM), some (.ref aL), some (.ref aD), some (.int (nI i)), none, none, none]) ⟨Or.inr rfl, Or.inr rfl, Or.inr rfl, Or.inr rfl, Or.inr rfl, Or.inr rfl, Or.inl rfl, Or.inl rfl, Or.inl rfl, trivial⟩ ?_
            exact nxt _ _ _ ⟨z, J, F, 0, hs, hj, h9b.keepO h10b hfo, h10c, ⟨f1, hL2⟩, ⟨g0, hD2⟩, hc, by show k + 2 + 0 + 0 ≤ 200 + 31 * sNow z + 7 * (st + 1) + cnt F; omega, by show n + 12 + 0 + 0 ≤ 40000 + 164 * sNow z + 38 * (st + 1) + 3 * cnt F; omega⟩
          · exact absurd ((lg_cmp_eq _ _).mpr rfl) c1080
      · exact absurd rfl c1063
    · rw [hg] at hg2; cases hg2
  · rw [e1, e2]
    refine kK.rev (y := .int (tCd 1 2 2 E)) rfl ?_
    obtain ⟨fsm, hfm⟩ := h10.o
    refine k_istore B dL_law_1037 (by decide) ?_
    try refine kK.set1 (by first | exact True.intro | rfl | exact kCat_q _) ?_
    refine k_aload_n B dL_law_1039 rfl (by first | exact kRf_r _ | exact kRf_q _ | exact kRf_n) ?_
    refine k_aload_n B dL_law_1040 rfl (by first | exact kRf_r _ | exact kRf_q _ | exact kRf_n) ?_
    refine k_iload B dL_law_1041 rfl ?_
    refine k_iconst B (v := 1) dL_law_1043 (by decide) ?_
    refine k_iadd B dL_law_1044 ?_
    refine kK.rei (y := nI (i + 1)) (nI_add i 1) ?_
    refine k_sld B hX hbl hbA (vp_in_nI (show i + 1 < N by omega) (by omega)) dL_law_1045 ?_
    refine kK.rei (y := xs (i + 1)) (by rw [nI_clamp (by omega)]) ?_
    refine k_aload_n B dL_law_1046 rfl (by first | exact kRf_r _ | exact kRf_q _ | exact kRf_n) ?_
    refine k_iload B dL_law_1047 rfl ?_
    refine k_iconst B (v := 2) dL_law_1049 (by decide) ?_
    refine k_iadd B dL_law_1050 ?_
    refine kK.rei (y := nI (i + 2)) (nI_add i 2) ?_
    refine k_sld B hX hbl hbA (vp_in_nI (show i + 2 < N by omega) (by omega)) dL_law_1051 ?_
    refine kK.rei (y := xs (i + 2)) (by rw [nI_clamp (by omega)]) ?_
    refine cl_L_149 B (c_X10_cellOf hl hs h10) hfm dL_law_1052 (by first | exact Nat.le_of_ble_eq_true rfl | omega | (simp only [kR, Value.category, kCat_q, List.map, List.sum_cons, List.sum_nil]; omega)) (by first | exact Nat.le_of_ble_eq_true rfl | omega | (simp only [kR, Value.category, kCat_q, List.map, List.sum_cons, List.sum_nil]; omega)) (by first | exact Nat.le_of_ble_eq_true rfl | omega | (simp only [kR, Value.category, kCat_q, List.map, List.sum_cons, List.sum_nil]; omega)) (by first | exact Nat.le_of_ble_eq_true rfl | omega | (simp only [kR, Value.category, kCat_q, List.map, List.sum_cons, List.sum_nil]; omega)) (by first | exact Nat.le_of_ble_eq_true rfl | omega | (simp only [kR, Value.category, kCat_q, List.map, List.sum_cons, List.sum_nil]; omega)) (fun _ hx => hx.elim) (fun v1052 s1052 hp1052 => ?_)
    rcases hp1052 with ⟨⟨hg2, e3, h10c⟩ | ⟨E2, hg2, e3, h10c⟩, hfo⟩
    · rw [hg] at hg2; cases hg2
    · obtain rfl : E = E2 := Option.some.inj (hg.symm.trans hg2)
      obtain ⟨mv1, kn1, Lk1, hm⟩ := id h10c
      rw [e3]
      refine kK.rev (y := .int 0) rfl ?_
      refine k_istore B dL_law_1055 (by decide) ?_
      try refine kK.set1 (by first | exact True.intro | rfl | exact kCat_q _) ?_
      refine k_aload_n B dL_law_1057 rfl (by first | exact kRf_r _ | exact kRf_q _ | exact kRf_n) ?_
      refine cl_L_101 B (c_X10_thrown hl hm.m) hm.o dL_law_1058 (by first | exact Nat.le_of_ble_eq_true rfl | omega | (simp only [kR, Value.category, kCat_q, List.map, List.sum_cons, List.sum_nil]; omega)) (by first | exact Nat.le_of_ble_eq_true rfl | omega | (simp only [kR, Value.category, kCat_q, List.map, List.sum_cons, List.sum_nil]; omega)) (by first | exact Nat.le_of_ble_eq_true rfl | omega | (simp only [kR, Value.category, kCat_q, List.map, List.sum_cons, List.sum_nil]; omega)) (by first | exact Nat.le_of_ble_eq_true rfl | omega | (simp only [kR, Value.category, kCat_q, List.map, List.sum_cons, List.sum_nil]; omega)) (by first | exact Nat.le_of_ble_eq_true rfl | omega | (simp only [kR, Value.category, kCat_q, List.map, List.sum_cons, List.sum_nil]; omega)) (fun _ hx => hx.elim) (fun v1058 s1058 hp1058 => ?_)
      obtain ⟨rfl, e5⟩ := hp1058
      rw [e5]
      refine kK.rev (y := .int (tCd 1 2 2 E)) rfl ?_
      refine k_iload B dL_law_1061 rfl ?_
      refine k_icmp_eq B 1068 dL_law_1063 (by decide) (fun c1063 => ?_) (fun c1063 => ?_)
      · skip
        refine k_iload B dL_law_1068 rfl ?_
        refine k_if_ne B 1085 dL_law_1070 (by decide) (fun c1070 => ?_) (fun c1070 => ?_)
        · skip
          refine k_goto B 1697 dL_law_1085 (by decide) ?_
          refine kK.sub (L2 := [some (.ref b), some (.ref aO), some (.ref aM), some (.ref aL), some (.ref aD), some (.int (nI i)), none, none, none]) ⟨Or.inr rfl, Or.inr rfl, Or.inr rfl, Or.inr rfl, Or.inr rfl, Or.inr rfl, Or.inl rfl, Or.inl rfl, Or.inl rfl, trivial⟩ ?_
          exact nxt _ _ _ ⟨z, J, F, _, hs, hj, h9.keepO h10 hfo, h10c, ⟨f0, keepL h10 hfo hL (Or.inl rfl)⟩, ⟨g0, keepL h10 hfo hD (Or.inr rfl)⟩, hc, by show k + 2 + 0 + 0 ≤ 200 + 31 * sNow z + 7 * (st + 1) + cnt F; omega, by show n + 12 + 0 + 0 ≤ 40000 + 164 * sNow z + 38 * (st + 1) + 3 * cnt F; omega⟩
        · exact absurd c1070 (tCd_ne (by decide) (by decide) (by decide))
      · exact absurd rfl c1063
set_option maxHeartbeats 1000000 in
set_option maxRecDepth 100000 in
theorem law_flow (B : kB p l s m args meth c D A 9 cL_law RL) (hl : l.stackTraces = false) (hX : va_X b N xs s s.heap) (hbl : b < s.heap.size) (hbA : ¬ A b) (hrc : 20000 ≤ room_1.cells) (hrs : 200000 ≤ room_1.slots) (hN : N ≤ 2048) (hi : i + 4 ≤ N) (hst : st ≤ 512) (hI : lI D aO aM aL aD ma st k n σ) (nxt : ∀ (σ2 : kS) (k2 n2 : Nat), lI D aO aM aL aD ma (st + 1) k2 n2 σ2 → kK p l e room_1 s m args below meth c D A 9 Q σ2 k2 n2 1697 [some (.ref b), some (.ref aO), some (.ref aM), some (.ref aL), some (.ref aD), some (.int (nI i)), none, none, none] []) : kK p l e room_1 s m args below meth c D A 9 Q σ k n 1088 [some (.ref b), some (.ref aO), some (.ref aM), some (.ref aL), some (.ref aD), some (.int (nI i)), none, none, none] [] := by
  obtain ⟨z, J, F, t, hs, hj, h9, h10, ⟨f0, hL⟩, ⟨g0, hD⟩, hc, hk, hn⟩ := hI
  have hn3 := hs.1.1
  obtain ⟨fs9, hf9⟩ := h9.fs
  obtain ⟨fs10, hf10⟩ := h10.o
  refine k_aload_n B dL_law_1088 rfl (by first | exact kRf_r _ | exact kRf_q _ | exact kRf_n) ?_
  refine k_aload_n B dL_law_1089 rfl (by first | exact kRf_r _ | exact kRf_q _ | exact kRf_n) ?_
  refine k_iload B dL_law_1090 rfl ?_
  refine k_iconst B (v := 1) dL_law_1092 (by decide) ?_
  refine k_iadd B dL_law_1093 ?_
  refine kK.rei (y := nI (i + 1)) (nI_add i 1) ?_
  refine k_sld B hX hbl hbA (vp_in_nI (show i + 1 < N by omega) (by omega)) dL_law_1094 ?_
  refine kK.rei (y := xs (i + 1)) (by rw [nI_clamp (by omega)]) ?_
  refine k_aload_n B dL_law_1095 rfl (by first | exact kRf_r _ | exact kRf_q _ | exact kRf_n) ?_
  refine cl_L_150 B (c_L_flow hl hs h9 hL) dL_law_1096 (by first | exact Nat.le_of_ble_eq_true rfl | omega | (simp only [kR, Value.category, kCat_q, List.map, List.sum_cons, List.sum_nil]; omega)) (by first | exact Nat.le_of_ble_eq_true rfl | omega | (simp only [kR, Value.category, kCat_q, List.map, List.sum_cons, List.sum_nil]; omega)) (by first | exact Nat.le_of_ble_eq_true rfl | omega | (simp only [kR, Value.category, kCat_q, List.map, List.sum_cons, List.sum_nil]; omega)) (by first | exact Nat.le_of_ble_eq_true rfl | omega | (simp only [kR, Value.category, kCat_q, List.map, List.sum_cons, List.sum_nil]; omega)) (by first | exact Nat.le_of_ble_eq_true rfl | omega | (simp only [kR, Value.category, kCat_q, List.map, List.sum_cons, List.sum_nil]; omega)) (fun _ hx => hx.elim) (fun v1096 s1096 hp1096 => ?_)
  rcases hp1096 with ⟨hg, e1, h9b, ⟨f1, hL1, hx1⟩, hfx⟩ | ⟨E, hg, e1, e2⟩
  · rw [e1]
    refine kK.rev (y := .int 0) rfl ?_
    have h10b := h10.keepX hfx hL (Or.inl rfl)
    have hD1b := hfx.d hL hD
    obtain ⟨fsm, hfm⟩ := h10b.o
    refine k_istore B dL_law_1099 (by decide) ?_
    try refine kK.set1 (by first | exact True.intro | rfl | exact kCat_q _) ?_
    refine k_aload_n B dL_law_1101 rfl (by first | exact kRf_r _ | exact kRf_q _ | exact kRf_n) ?_
    refine k_aload_n B dL_law_1102 rfl (by first | exact kRf_r _ | exact kRf_q _ | exact kRf_n) ?_
    refine k_iload B dL_law_1103 rfl ?_
    refine k_iconst B (v := 1) dL_law_1105 (by decide) ?_
    refine k_iadd B dL_law_1106 ?_
    refine kK.rei (y := nI (i + 1)) (nI_add i 1) ?_
    refine k_sld B hX hbl hbA (vp_in_nI (show i + 1 < N by omega) (by omega)) dL_law_1107 ?_
    refine kK.rei (y := xs (i + 1)) (by rw [nI_clamp (by omega)]) ?_
    refine cl_L_152 B (c_X10_flow hl hs h10b) hfm dL_law_1108 (by first | exact Nat.le_of_ble_eq_true rfl | omega | (simp only [kR, Value.category, kCat_q, List.map, List.sum_cons, List.sum_nil]; omega)) (by first | exact Nat.le_of_ble_eq_true rfl | omega | (simp only [kR, Value.category, kCat_q, List.map, List.sum_cons, List.sum_nil]; omega)) (by first | exact Nat.le_of_ble_eq_true rfl | omega | (simp only [kR, Value.category, kCat_q, List.map, List.sum_cons, List.sum_nil]; omega)) (by first | exact Nat.le_of_ble_eq_true rfl | omega | (simp only [kR, Value.category, kCat_q, List.map, List.sum_cons, List.sum_nil]; omega)) (by first | exact Nat.le_of_ble_eq_true rfl | omega | (simp only [kR, Value.category, kCat_q, List.map, List.sum_cons, List.sum_nil]; omega)) (fun _ hx => hx.elim) (fun v1108 s1108 hp1108 => ?_)
    rcases hp1108 with ⟨⟨hg2, e3, h10c⟩ | ⟨E2, hg2, e3, h10c⟩, hfo⟩
    · rw [e3]
      refine kK.rev (y := .int (rFlow z (xs (i + 1)))) rfl ?_
      obtain ⟨mv1, kn1, Lk1, hm⟩ := id h10c
      refine k_istore B dL_law_1111 (by decide) ?_
      try refine kK.set1 (by first | exact True.intro | rfl | exact kCat_q _) ?_
      refine k_aload_n B dL_law_1113 rfl (by first | exact kRf_r _ | exact kRf_q _ | exact kRf_n) ?_
      refine cl_L_101 B (c_X10_thrown hl hm.m) hm.o dL_law_1114 (by first | exact Nat.le_of_ble_eq_true rfl | omega | (simp only [kR, Value.category, kCat_q, List.map, List.sum_cons, List.sum_nil]; omega)) (by first | exact Nat.le_of_ble_eq_true rfl | omega | (simp only [kR, Value.category, kCat_q, List.map, List.sum_cons, List.sum_nil]; omega)) (by first | exact Nat.le_of_ble_eq_true rfl | omega | (simp only [kR, Value.category, kCat_q, List.map, List.sum_cons, List.sum_nil]; omega)) (by first | exact Nat.le_of_ble_eq_true rfl | omega | (simp only [kR, Value.category, kCat_q, List.map, List.sum_cons, List.sum_nil]; omega)) (by first | exact Nat.le_of_ble_eq_true rfl | omega | (simp only [kR, Value.category, kCat_q, List.map, List.sum_cons, List.sum_nil]; omega)) (fun _ hx => hx.elim) (fun v1114 s1114 hp1114 => ?_)
      obtain ⟨rfl, e5⟩ := hp1114
      rw [e5]
      refine kK.rev (y := .int 0) rfl ?_
      refine k_iload B dL_law_1117 rfl ?_
      refine k_icmp_eq B 1124 dL_law_1119 (by decide) (fun c1119 => ?_) (fun c1119 => ?_)
      · skip
        refine k_iload B dL_law_1124 rfl ?_
        refine k_if_ne B 1141 dL_law_1126 (by decide) (fun c1126 => ?_) (fun c1126 => ?_)
        · exact absurd rfl c1126
        · skip
          have hL2 := keepL h10b hfo hL1 (Or.inl rfl)
          have hD2 := keepL h10b hfo hD1b (Or.inr rfl)
          refine k_aload_n B dL_law_1129 rfl (by first | exact kRf_r _ | exact kRf_q _ | exact kRf_n) ?_
          refine k_iconst B (v := 0) dL_law_1130 (by decide) ?_
          refine k_lald B dL_law_1131 hL2 (vp_in_nI (n := 0) (N := 1) (by decide) (by decide)) ?_
          refine kK.rel (y := (rFlow z (xs (i + 1))).toInt64) hx1 ?_
          refine k_iload B dL_law_1132 rfl ?_
          refine k_i2l B dL_law_1134 ?_
          refine k_lcmp B dL_law_1135 ?_
          refine k_if_eq B 1141 dL_law_1136 (by decide) (fun c1136 => ?_) (fun c1136 => ?_)
          · skip
            refine k_goto B 1697 dL_law_1141 (by decide) ?_
            refine kK.sub (L2 := [some (.ref b), some (.ref aO), some (.ref aM), some (.ref aL), some (.ref aD), some (.int (nI i)), none, none, none]) ⟨Or.inr rfl, Or.inr rfl, Or.inr rfl, Or.inr rfl, Or.inr rfl, Or.inr rfl, Or.inl rfl, Or.inl rfl, Or.inl rfl, trivial⟩ ?_
            exact nxt _ _ _ ⟨z, J, F, 0, hs, hj, h9b.keepO h10b hfo, h10c, ⟨f1, hL2⟩, ⟨g0, hD2⟩, hc, by show k + 1 + 0 + 0 ≤ 200 + 31 * sNow z + 7 * (st + 1) + cnt F; omega, by show n + 6 + 0 + 0 ≤ 40000 + 164 * sNow z + 38 * (st + 1) + 3 * cnt F; omega⟩
          · exact absurd ((lg_cmp_eq _ _).mpr rfl) c1136
      · exact absurd rfl c1119
    · rw [hg] at hg2; cases hg2
  · rw [e1, e2]
    refine kK.rev (y := .int (tCd 1 1 1 E)) rfl ?_
    obtain ⟨fsm, hfm⟩ := h10.o
    refine k_istore B dL_law_1099 (by decide) ?_
    try refine kK.set1 (by first | exact True.intro | rfl | exact kCat_q _) ?_
    refine k_aload_n B dL_law_1101 rfl (by first | exact kRf_r _ | exact kRf_q _ | exact kRf_n) ?_
    refine k_aload_n B dL_law_1102 rfl (by first | exact kRf_r _ | exact kRf_q _ | exact kRf_n) ?_
    refine k_iload B dL_law_1103 rfl ?_
    refine k_iconst B (v := 1) dL_law_1105 (by decide) ?_
    refine k_iadd B dL_law_1106 ?_
    refine kK.rei (y := nI (i + 1)) (nI_add i 1) ?_
    refine k_sld B hX hbl hbA (vp_in_nI (show i + 1 < N by omega) (by omega)) dL_law_1107 ?_
    refine kK.rei (y := xs (i + 1)) (by rw [nI_clamp (by omega)]) ?_
    refine cl_L_152 B (c_X10_flow hl hs h10) hfm dL_law_1108 (by first | exact Nat.le_of_ble_eq_true rfl | omega | (simp only [kR, Value.category, kCat_q, List.map, List.sum_cons, List.sum_nil]; omega)) (by first | exact Nat.le_of_ble_eq_true rfl | omega | (simp only [kR, Value.category, kCat_q, List.map, List.sum_cons, List.sum_nil]; omega)) (by first | exact Nat.le_of_ble_eq_true rfl | omega | (simp only [kR, Value.category, kCat_q, List.map, List.sum_cons, List.sum_nil]; omega)) (by first | exact Nat.le_of_ble_eq_true rfl | omega | (simp only [kR, Value.category, kCat_q, List.map, List.sum_cons, List.sum_nil]; omega)) (by first | exact Nat.le_of_ble_eq_true rfl | omega | (simp only [kR, Value.category, kCat_q, List.map, List.sum_cons, List.sum_nil]; omega)) (fun _ hx => hx.elim) (fun v1108 s1108 hp1108 => ?_)
    rcases hp1108 with ⟨⟨hg2, e3, h10c⟩ | ⟨E2, hg2, e3, h10c⟩, hfo⟩
    · rw [hg] at hg2; cases hg2
    · obtain rfl : E = E2 := Option.some.inj (hg.symm.trans hg2)
      obtain ⟨mv1, kn1, Lk1, hm⟩ := id h10c
      rw [e3]
      refine kK.rev (y := .int 0) rfl ?_
      refine k_istore B dL_law_1111 (by decide) ?_
      try refine kK.set1 (by first | exact True.intro | rfl | exact kCat_q _) ?_
      refine k_aload_n B dL_law_1113 rfl (by first | exact kRf_r _ | exact kRf_q _ | exact kRf_n) ?_
      refine cl_L_101 B (c_X10_thrown hl hm.m) hm.o dL_law_1114 (by first | exact Nat.le_of_ble_eq_true rfl | omega | (simp only [kR, Value.category, kCat_q, List.map, List.sum_cons, List.sum_nil]; omega)) (by first | exact Nat.le_of_ble_eq_true rfl | omega | (simp only [kR, Value.category, kCat_q, List.map, List.sum_cons, List.sum_nil]; omega)) (by first | exact Nat.le_of_ble_eq_true rfl | omega | (simp only [kR, Value.category, kCat_q, List.map, List.sum_cons, List.sum_nil]; omega)) (by first | exact Nat.le_of_ble_eq_true rfl | omega | (simp only [kR, Value.category, kCat_q, List.map, List.sum_cons, List.sum_nil]; omega)) (by first | exact Nat.le_of_ble_eq_true rfl | omega | (simp only [kR, Value.category, kCat_q, List.map, List.sum_cons, List.sum_nil]; omega)) (fun _ hx => hx.elim) (fun v1114 s1114 hp1114 => ?_)
      obtain ⟨rfl, e5⟩ := hp1114
      rw [e5]
      refine kK.rev (y := .int (tCd 1 1 1 E)) rfl ?_
      refine k_iload B dL_law_1117 rfl ?_
      refine k_icmp_eq B 1124 dL_law_1119 (by decide) (fun c1119 => ?_) (fun c1119 => ?_)
      · skip
        refine k_iload B dL_law_1124 rfl ?_
        refine k_if_ne B 1141 dL_law_1126 (by decide) (fun c1126 => ?_) (fun c1126 => ?_)
        · skip
          refine k_goto B 1697 dL_law_1141 (by decide) ?_
          refine kK.sub (L2 := [some (.ref b), some (.ref aO), some (.ref aM), some (.ref aL), some (.ref aD), some (.int (nI i)), none, none, none]) ⟨Or.inr rfl, Or.inr rfl, Or.inr rfl, Or.inr rfl, Or.inr rfl, Or.inr rfl, Or.inl rfl, Or.inl rfl, Or.inl rfl, trivial⟩ ?_
          exact nxt _ _ _ ⟨z, J, F, _, hs, hj, h9.keepO h10 hfo, h10c, ⟨f0, keepL h10 hfo hL (Or.inl rfl)⟩, ⟨g0, keepL h10 hfo hD (Or.inr rfl)⟩, hc, by show k + 1 + 0 + 0 ≤ 200 + 31 * sNow z + 7 * (st + 1) + cnt F; omega, by show n + 6 + 0 + 0 ≤ 40000 + 164 * sNow z + 38 * (st + 1) + 3 * cnt F; omega⟩
        · exact absurd c1126 (tCd_ne (by decide) (by decide) (by decide))
      · exact absurd rfl c1119
end Law3
