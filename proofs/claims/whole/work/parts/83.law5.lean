section Law5
variable {p : Program} {l : Launch} {e : Env} {s : State} {m : MethodId} {args : Array Value} {below : List Frame} {meth : Method} {c : Code} {D : va_G} {A : Nat → Prop} {Q : State → Prop} {σ : kS} {aO aM aL aD b N i st k n : Nat} {ma : Nat → Nat} {xs : Nat → Int32}
set_option maxHeartbeats 1000000 in
set_option maxRecDepth 100000 in
theorem law_from (B : kB p l s m args meth c D A 9 cL_law RL) (hl : l.stackTraces = false) (hX : va_X b N xs s s.heap) (hbl : b < s.heap.size) (hbA : ¬ A b) (hrc : 20000 ≤ room_1.cells) (hrs : 200000 ≤ room_1.slots) (hN : N ≤ 2048) (hi : i + 4 ≤ N) (hst : st ≤ 512) (hI : lI D aO aM aL aD ma st k n σ) (nxt : ∀ (σ2 : kS) (k2 n2 : Nat), lI D aO aM aL aD ma (st + 1) k2 n2 σ2 → kK p l e room_1 s m args below meth c D A 9 Q σ2 k2 n2 1697 [some (.ref b), some (.ref aO), some (.ref aM), some (.ref aL), some (.ref aD), some (.int (nI i)), none, none, none] []) : kK p l e room_1 s m args below meth c D A 9 Q σ k n 1414 [some (.ref b), some (.ref aO), some (.ref aM), some (.ref aL), some (.ref aD), some (.int (nI i)), none, none, none] [] := by
  obtain ⟨z, J, F, t, hs, hj, h9, h10, ⟨f0, hL⟩, ⟨g0, hD⟩, hc, hk, hn⟩ := hI
  have hn3 := hs.1.1
  obtain ⟨fs9, hf9⟩ := h9.fs
  obtain ⟨fs10, hf10⟩ := h10.o
  refine k_aload_n B dL_law_1414 rfl (by first | exact kRf_r _ | exact kRf_q _ | exact kRf_n) ?_
  refine k_aload_n B dL_law_1415 rfl (by first | exact kRf_r _ | exact kRf_q _ | exact kRf_n) ?_
  refine k_iload B dL_law_1416 rfl ?_
  refine k_iconst B (v := 1) dL_law_1418 (by decide) ?_
  refine k_iadd B dL_law_1419 ?_
  refine kK.rei (y := nI (i + 1)) (nI_add i 1) ?_
  refine k_sld B hX hbl hbA (vp_in_nI (show i + 1 < N by omega) (by omega)) dL_law_1420 ?_
  refine kK.rei (y := xs (i + 1)) (by rw [nI_clamp (by omega)]) ?_
  refine k_aload_n B dL_law_1421 rfl (by first | exact kRf_r _ | exact kRf_q _ | exact kRf_n) ?_
  refine k_iload B dL_law_1422 rfl ?_
  refine k_iconst B (v := 2) dL_law_1424 (by decide) ?_
  refine k_iadd B dL_law_1425 ?_
  refine kK.rei (y := nI (i + 2)) (nI_add i 2) ?_
  refine k_sld B hX hbl hbA (vp_in_nI (show i + 2 < N by omega) (by omega)) dL_law_1426 ?_
  refine kK.rei (y := xs (i + 2)) (by rw [nI_clamp (by omega)]) ?_
  refine k_aload_n B dL_law_1427 rfl (by first | exact kRf_r _ | exact kRf_q _ | exact kRf_n) ?_
  refine k_iload B dL_law_1428 rfl ?_
  refine k_iconst B (v := 3) dL_law_1430 (by decide) ?_
  refine k_iadd B dL_law_1431 ?_
  refine kK.rei (y := nI (i + 3)) (nI_add i 3) ?_
  refine k_sld B hX hbl hbA (vp_in_nI (show i + 3 < N by omega) (by omega)) dL_law_1432 ?_
  refine kK.rei (y := xs (i + 3)) (by rw [nI_clamp (by omega)]) ?_
  refine k_aload_n B dL_law_1433 rfl (by first | exact kRf_r _ | exact kRf_q _ | exact kRf_n) ?_
  refine cl_L_166 B (c_L_from hl hs h9 hL) dL_law_1434 (by first | exact Nat.le_of_ble_eq_true rfl | omega | (simp only [kR, Value.category, kCat_q, List.map, List.sum_cons, List.sum_nil]; omega)) (by first | exact Nat.le_of_ble_eq_true rfl | omega | (simp only [kR, Value.category, kCat_q, List.map, List.sum_cons, List.sum_nil]; omega)) (by first | exact Nat.le_of_ble_eq_true rfl | omega | (simp only [kR, Value.category, kCat_q, List.map, List.sum_cons, List.sum_nil]; omega)) (by first | exact Nat.le_of_ble_eq_true rfl | omega | (simp only [kR, Value.category, kCat_q, List.map, List.sum_cons, List.sum_nil]; omega)) (by first | exact Nat.le_of_ble_eq_true rfl | omega | (simp only [kR, Value.category, kCat_q, List.map, List.sum_cons, List.sum_nil]; omega)) (fun _ hx => hx.elim) (fun v1434 s1434 hp1434 => ?_)
  rcases hp1434 with ⟨hg, e1, h9b, ⟨f1, hL1, hx1⟩, hfx⟩ | ⟨E, hg, e1, e2⟩
  · rw [e1]
    refine kK.rev (y := .int 0) rfl ?_
    have h10b := h10.keepX hfx hL (Or.inl rfl)
    have hD1b := hfx.d hL hD
    obtain ⟨fsm, hfm⟩ := h10b.o
    refine k_istore B dL_law_1437 (by decide) ?_
    try refine kK.set1 (by first | exact True.intro | rfl | exact kCat_q _) ?_
    refine k_aload_n B dL_law_1439 rfl (by first | exact kRf_r _ | exact kRf_q _ | exact kRf_n) ?_
    refine k_aload_n B dL_law_1440 rfl (by first | exact kRf_r _ | exact kRf_q _ | exact kRf_n) ?_
    refine k_iload B dL_law_1441 rfl ?_
    refine k_iconst B (v := 1) dL_law_1443 (by decide) ?_
    refine k_iadd B dL_law_1444 ?_
    refine kK.rei (y := nI (i + 1)) (nI_add i 1) ?_
    refine k_sld B hX hbl hbA (vp_in_nI (show i + 1 < N by omega) (by omega)) dL_law_1445 ?_
    refine kK.rei (y := xs (i + 1)) (by rw [nI_clamp (by omega)]) ?_
    refine k_aload_n B dL_law_1446 rfl (by first | exact kRf_r _ | exact kRf_q _ | exact kRf_n) ?_
    refine k_iload B dL_law_1447 rfl ?_
    refine k_iconst B (v := 2) dL_law_1449 (by decide) ?_
    refine k_iadd B dL_law_1450 ?_
    refine kK.rei (y := nI (i + 2)) (nI_add i 2) ?_
    refine k_sld B hX hbl hbA (vp_in_nI (show i + 2 < N by omega) (by omega)) dL_law_1451 ?_
    refine kK.rei (y := xs (i + 2)) (by rw [nI_clamp (by omega)]) ?_
    refine k_aload_n B dL_law_1452 rfl (by first | exact kRf_r _ | exact kRf_q _ | exact kRf_n) ?_
    refine k_iload B dL_law_1453 rfl ?_
    refine k_iconst B (v := 3) dL_law_1455 (by decide) ?_
    refine k_iadd B dL_law_1456 ?_
    refine kK.rei (y := nI (i + 3)) (nI_add i 3) ?_
    refine k_sld B hX hbl hbA (vp_in_nI (show i + 3 < N by omega) (by omega)) dL_law_1457 ?_
    refine kK.rei (y := xs (i + 3)) (by rw [nI_clamp (by omega)]) ?_
    refine cl_L_169 B (c_X10_from hl hs h10b) hfm dL_law_1458 (by first | exact Nat.le_of_ble_eq_true rfl | omega | (simp only [kR, Value.category, kCat_q, List.map, List.sum_cons, List.sum_nil]; omega)) (by first | exact Nat.le_of_ble_eq_true rfl | omega | (simp only [kR, Value.category, kCat_q, List.map, List.sum_cons, List.sum_nil]; omega)) (by first | exact Nat.le_of_ble_eq_true rfl | omega | (simp only [kR, Value.category, kCat_q, List.map, List.sum_cons, List.sum_nil]; omega)) (by first | exact Nat.le_of_ble_eq_true rfl | omega | (simp only [kR, Value.category, kCat_q, List.map, List.sum_cons, List.sum_nil]; omega)) (by first | exact Nat.le_of_ble_eq_true rfl | omega | (simp only [kR, Value.category, kCat_q, List.map, List.sum_cons, List.sum_nil]; omega)) (fun _ hx => hx.elim) (fun v1458 s1458 hp1458 => ?_)
    rcases hp1458 with ⟨⟨hg2, e3, h10c⟩ | ⟨E2, hg2, e3, h10c⟩, hfo⟩
    · rw [e3]
      refine kK.rev (y := .int (rFrom z (xs (i + 1)) (xs (i + 2)) (xs (i + 3)))) rfl ?_
      obtain ⟨mv1, kn1, Lk1, hm⟩ := id h10c
      refine k_istore B dL_law_1461 (by decide) ?_
      try refine kK.set1 (by first | exact True.intro | rfl | exact kCat_q _) ?_
      refine k_aload_n B dL_law_1463 rfl (by first | exact kRf_r _ | exact kRf_q _ | exact kRf_n) ?_
      refine cl_L_101 B (c_X10_thrown hl hm.m) hm.o dL_law_1464 (by first | exact Nat.le_of_ble_eq_true rfl | omega | (simp only [kR, Value.category, kCat_q, List.map, List.sum_cons, List.sum_nil]; omega)) (by first | exact Nat.le_of_ble_eq_true rfl | omega | (simp only [kR, Value.category, kCat_q, List.map, List.sum_cons, List.sum_nil]; omega)) (by first | exact Nat.le_of_ble_eq_true rfl | omega | (simp only [kR, Value.category, kCat_q, List.map, List.sum_cons, List.sum_nil]; omega)) (by first | exact Nat.le_of_ble_eq_true rfl | omega | (simp only [kR, Value.category, kCat_q, List.map, List.sum_cons, List.sum_nil]; omega)) (by first | exact Nat.le_of_ble_eq_true rfl | omega | (simp only [kR, Value.category, kCat_q, List.map, List.sum_cons, List.sum_nil]; omega)) (fun _ hx => hx.elim) (fun v1464 s1464 hp1464 => ?_)
      obtain ⟨rfl, e5⟩ := hp1464
      rw [e5]
      refine kK.rev (y := .int 0) rfl ?_
      refine k_iload B dL_law_1467 rfl ?_
      refine k_icmp_eq B 1474 dL_law_1469 (by decide) (fun c1469 => ?_) (fun c1469 => ?_)
      · skip
        refine k_iload B dL_law_1474 rfl ?_
        refine k_if_ne B 1491 dL_law_1476 (by decide) (fun c1476 => ?_) (fun c1476 => ?_)
        · exact absurd rfl c1476
        · skip
          have hL2 := keepL h10b hfo hL1 (Or.inl rfl)
          have hD2 := keepL h10b hfo hD1b (Or.inr rfl)
          refine k_aload_n B dL_law_1479 rfl (by first | exact kRf_r _ | exact kRf_q _ | exact kRf_n) ?_
          refine k_iconst B (v := 0) dL_law_1480 (by decide) ?_
          refine k_lald B dL_law_1481 hL2 (vp_in_nI (n := 0) (N := 1) (by decide) (by decide)) ?_
          refine kK.rel (y := (rFrom z (xs (i + 1)) (xs (i + 2)) (xs (i + 3))).toInt64) hx1 ?_
          refine k_iload B dL_law_1482 rfl ?_
          refine k_i2l B dL_law_1484 ?_
          refine k_lcmp B dL_law_1485 ?_
          refine k_if_eq B 1491 dL_law_1486 (by decide) (fun c1486 => ?_) (fun c1486 => ?_)
          · skip
            refine k_goto B 1697 dL_law_1491 (by decide) ?_
            refine kK.sub (L2 := [some (.ref b), some (.ref aO), some (.ref aM), some (.ref aL), some (.ref aD), some (.int (nI i)), none, none, none]) ⟨Or.inr rfl, Or.inr rfl, Or.inr rfl, Or.inr rfl, Or.inr rfl, Or.inr rfl, Or.inl rfl, Or.inl rfl, Or.inl rfl, trivial⟩ ?_
            exact nxt _ _ _ ⟨z, J, F, 0, hs, hj, h9b.keepO h10b hfo, h10c, ⟨f1, hL2⟩, ⟨g0, hD2⟩, hc, by show k + 2 + 0 + 0 ≤ 200 + 31 * sNow z + 7 * (st + 1) + cnt F; omega, by show n + 12 + 0 + 0 ≤ 40000 + 164 * sNow z + 38 * (st + 1) + 3 * cnt F; omega⟩
          · exact absurd ((lg_cmp_eq _ _).mpr rfl) c1486
      · exact absurd rfl c1469
    · rw [hg] at hg2; cases hg2
  · rw [e1, e2]
    refine kK.rev (y := .int (tCd 1 1 1 E)) rfl ?_
    obtain ⟨fsm, hfm⟩ := h10.o
    refine k_istore B dL_law_1437 (by decide) ?_
    try refine kK.set1 (by first | exact True.intro | rfl | exact kCat_q _) ?_
    refine k_aload_n B dL_law_1439 rfl (by first | exact kRf_r _ | exact kRf_q _ | exact kRf_n) ?_
    refine k_aload_n B dL_law_1440 rfl (by first | exact kRf_r _ | exact kRf_q _ | exact kRf_n) ?_
    refine k_iload B dL_law_1441 rfl ?_
    refine k_iconst B (v := 1) dL_law_1443 (by decide) ?_
    refine k_iadd B dL_law_1444 ?_
    refine kK.rei (y := nI (i + 1)) (nI_add i 1) ?_
    refine k_sld B hX hbl hbA (vp_in_nI (show i + 1 < N by omega) (by omega)) dL_law_1445 ?_
    refine kK.rei (y := xs (i + 1)) (by rw [nI_clamp (by omega)]) ?_
    refine k_aload_n B dL_law_1446 rfl (by first | exact kRf_r _ | exact kRf_q _ | exact kRf_n) ?_
    refine k_iload B dL_law_1447 rfl ?_
    refine k_iconst B (v := 2) dL_law_1449 (by decide) ?_
    refine k_iadd B dL_law_1450 ?_
    refine kK.rei (y := nI (i + 2)) (nI_add i 2) ?_
    refine k_sld B hX hbl hbA (vp_in_nI (show i + 2 < N by omega) (by omega)) dL_law_1451 ?_
    refine kK.rei (y := xs (i + 2)) (by rw [nI_clamp (by omega)]) ?_
    refine k_aload_n B dL_law_1452 rfl (by first | exact kRf_r _ | exact kRf_q _ | exact kRf_n) ?_
    refine k_iload B dL_law_1453 rfl ?_
    refine k_iconst B (v := 3) dL_law_1455 (by decide) ?_
    refine k_iadd B dL_law_1456 ?_
    refine kK.rei (y := nI (i + 3)) (nI_add i 3) ?_
    refine k_sld B hX hbl hbA (vp_in_nI (show i + 3 < N by omega) (by omega)) dL_law_1457 ?_
    refine kK.rei (y := xs (i + 3)) (by rw [nI_clamp (by omega)]) ?_
    refine cl_L_169 B (c_X10_from hl hs h10) hfm dL_law_1458 (by first | exact Nat.le_of_ble_eq_true rfl | omega | (simp only [kR, Value.category, kCat_q, List.map, List.sum_cons, List.sum_nil]; omega)) (by first | exact Nat.le_of_ble_eq_true rfl | omega | (simp only [kR, Value.category, kCat_q, List.map, List.sum_cons, List.sum_nil]; omega)) (by first | exact Nat.le_of_ble_eq_true rfl | omega | (simp only [kR, Value.category, kCat_q, List.map, List.sum_cons, List.sum_nil]; omega)) (by first | exact Nat.le_of_ble_eq_true rfl | omega | (simp only [kR, Value.category, kCat_q, List.map, List.sum_cons, List.sum_nil]; omega)) (by first | exact Nat.le_of_ble_eq_true rfl | omega | (simp only [kR, Value.category, kCat_q, List.map, List.sum_cons, List.sum_nil]; omega)) (fun _ hx => hx.elim) (fun v1458 s1458 hp1458 => ?_)
    rcases hp1458 with ⟨⟨hg2, e3, h10c⟩ | ⟨E2, hg2, e3, h10c⟩, hfo⟩
    · rw [hg] at hg2; cases hg2
    · obtain rfl : E = E2 := Option.some.inj (hg.symm.trans hg2)
      obtain ⟨mv1, kn1, Lk1, hm⟩ := id h10c
      rw [e3]
      refine kK.rev (y := .int 0) rfl ?_
      refine k_istore B dL_law_1461 (by decide) ?_
      try refine kK.set1 (by first | exact True.intro | rfl | exact kCat_q _) ?_
      refine k_aload_n B dL_law_1463 rfl (by first | exact kRf_r _ | exact kRf_q _ | exact kRf_n) ?_
      refine cl_L_101 B (c_X10_thrown hl hm.m) hm.o dL_law_1464 (by first | exact Nat.le_of_ble_eq_true rfl | omega | (simp only [kR, Value.category, kCat_q, List.map, List.sum_cons, List.sum_nil]; omega)) (by first | exact Nat.le_of_ble_eq_true rfl | omega | (simp only [kR, Value.category, kCat_q, List.map, List.sum_cons, List.sum_nil]; omega)) (by first | exact Nat.le_of_ble_eq_true rfl | omega | (simp only [kR, Value.category, kCat_q, List.map, List.sum_cons, List.sum_nil]; omega)) (by first | exact Nat.le_of_ble_eq_true rfl | omega | (simp only [kR, Value.category, kCat_q, List.map, List.sum_cons, List.sum_nil]; omega)) (by first | exact Nat.le_of_ble_eq_true rfl | omega | (simp only [kR, Value.category, kCat_q, List.map, List.sum_cons, List.sum_nil]; omega)) (fun _ hx => hx.elim) (fun v1464 s1464 hp1464 => ?_)
      obtain ⟨rfl, e5⟩ := hp1464
      rw [e5]
      refine kK.rev (y := .int (tCd 1 1 1 E)) rfl ?_
      refine k_iload B dL_law_1467 rfl ?_
      refine k_icmp_eq B 1474 dL_law_1469 (by decide) (fun c1469 => ?_) (fun c1469 => ?_)
      · skip
        refine k_iload B dL_law_1474 rfl ?_
        refine k_if_ne B 1491 dL_law_1476 (by decide) (fun c1476 => ?_) (fun c1476 => ?_)
        · skip
          refine k_goto B 1697 dL_law_1491 (by decide) ?_
          refine kK.sub (L2 := [some (.ref b), some (.ref aO), some (.ref aM), some (.ref aL), some (.ref aD), some (.int (nI i)), none, none, none]) ⟨Or.inr rfl, Or.inr rfl, Or.inr rfl, Or.inr rfl, Or.inr rfl, Or.inr rfl, Or.inl rfl, Or.inl rfl, Or.inl rfl, trivial⟩ ?_
          exact nxt _ _ _ ⟨z, J, F, _, hs, hj, h9.keepO h10 hfo, h10c, ⟨f0, keepL h10 hfo hL (Or.inl rfl)⟩, ⟨g0, keepL h10 hfo hD (Or.inr rfl)⟩, hc, by show k + 2 + 0 + 0 ≤ 200 + 31 * sNow z + 7 * (st + 1) + cnt F; omega, by show n + 12 + 0 + 0 ≤ 40000 + 164 * sNow z + 38 * (st + 1) + 3 * cnt F; omega⟩
        · exact absurd c1476 (tCd_ne (by decide) (by decide) (by decide))
      · exact absurd rfl c1469
set_option maxHeartbeats 1000000 in
set_option maxRecDepth 100000 in
theorem law_fromAnew (B : kB p l s m args meth c D A 9 cL_law RL) (hl : l.stackTraces = false) (hX : va_X b N xs s s.heap) (hbl : b < s.heap.size) (hbA : ¬ A b) (hrc : 20000 ≤ room_1.cells) (hrs : 200000 ≤ room_1.slots) (hN : N ≤ 2048) (hi : i + 4 ≤ N) (hst : st ≤ 512) (hI : lI D aO aM aL aD ma st k n σ) (nxt : ∀ (σ2 : kS) (k2 n2 : Nat), lI D aO aM aL aD ma (st + 1) k2 n2 σ2 → kK p l e room_1 s m args below meth c D A 9 Q σ2 k2 n2 1697 [some (.ref b), some (.ref aO), some (.ref aM), some (.ref aL), some (.ref aD), some (.int (nI i)), none, none, none] []) : kK p l e room_1 s m args below meth c D A 9 Q σ k n 1494 [some (.ref b), some (.ref aO), some (.ref aM), some (.ref aL), some (.ref aD), some (.int (nI i)), none, none, none] [] := by
  obtain ⟨z, J, F, t, hs, hj, h9, h10, ⟨f0, hL⟩, ⟨g0, hD⟩, hc, hk, hn⟩ := hI
  have hn3 := hs.1.1
  obtain ⟨fs9, hf9⟩ := h9.fs
  obtain ⟨fs10, hf10⟩ := h10.o
  have hfc := fa_cnt hs hj hc (p0 := xs (i + 1)) (p1 := xs (i + 2)) (p2 := xs (i + 3))
  obtain ⟨hfc1, hfc2⟩ := hfc
  refine k_aload_n B dL_law_1494 rfl (by first | exact kRf_r _ | exact kRf_q _ | exact kRf_n) ?_
  refine k_aload_n B dL_law_1495 rfl (by first | exact kRf_r _ | exact kRf_q _ | exact kRf_n) ?_
  refine k_iload B dL_law_1496 rfl ?_
  refine k_iconst B (v := 1) dL_law_1498 (by decide) ?_
  refine k_iadd B dL_law_1499 ?_
  refine kK.rei (y := nI (i + 1)) (nI_add i 1) ?_
  refine k_sld B hX hbl hbA (vp_in_nI (show i + 1 < N by omega) (by omega)) dL_law_1500 ?_
  refine kK.rei (y := xs (i + 1)) (by rw [nI_clamp (by omega)]) ?_
  refine k_aload_n B dL_law_1501 rfl (by first | exact kRf_r _ | exact kRf_q _ | exact kRf_n) ?_
  refine k_iload B dL_law_1502 rfl ?_
  refine k_iconst B (v := 2) dL_law_1504 (by decide) ?_
  refine k_iadd B dL_law_1505 ?_
  refine kK.rei (y := nI (i + 2)) (nI_add i 2) ?_
  refine k_sld B hX hbl hbA (vp_in_nI (show i + 2 < N by omega) (by omega)) dL_law_1506 ?_
  refine kK.rei (y := xs (i + 2)) (by rw [nI_clamp (by omega)]) ?_
  refine k_aload_n B dL_law_1507 rfl (by first | exact kRf_r _ | exact kRf_q _ | exact kRf_n) ?_
  refine k_iload B dL_law_1508 rfl ?_
  refine k_iconst B (v := 3) dL_law_1510 (by decide) ?_
  refine k_iadd B dL_law_1511 ?_
  refine kK.rei (y := nI (i + 3)) (nI_add i 3) ?_
  refine k_sld B hX hbl hbA (vp_in_nI (show i + 3 < N by omega) (by omega)) dL_law_1512 ?_
  refine kK.rei (y := xs (i + 3)) (by rw [nI_clamp (by omega)]) ?_
  refine k_aload_n B dL_law_1513 rfl (by first | exact kRf_r _ | exact kRf_q _ | exact kRf_n) ?_
  refine cl_L_170 B (c_L_fromAnew hl hs h9 (jR_ok hj) hL) dL_law_1514 (by first | exact Nat.le_of_ble_eq_true rfl | omega | (simp only [kR, Value.category, kCat_q, List.map, List.sum_cons, List.sum_nil]; omega)) (by first | exact Nat.le_of_ble_eq_true rfl | omega | (simp only [kR, Value.category, kCat_q, List.map, List.sum_cons, List.sum_nil]; omega)) (by first | exact Nat.le_of_ble_eq_true rfl | omega | (simp only [kR, Value.category, kCat_q, List.map, List.sum_cons, List.sum_nil]; omega)) (by first | exact Nat.le_of_ble_eq_true rfl | omega | (simp only [kR, Value.category, kCat_q, List.map, List.sum_cons, List.sum_nil]; omega)) (by first | exact Nat.le_of_ble_eq_true rfl | omega | (simp only [kR, Value.category, kCat_q, List.map, List.sum_cons, List.sum_nil]; omega)) (fun _ hx => hx.elim) (fun v1514 s1514 hp1514 => ?_)
  rcases hp1514 with ⟨hg, e1, h9b, ⟨f1, hL1, hx1⟩, hfx⟩ | ⟨E, hg, e1, e2⟩
  · rw [e1]
    refine kK.rev (y := .int 0) rfl ?_
    have h10b := h10.keepX hfx hL (Or.inl rfl)
    have hD1b := hfx.d hL hD
    obtain ⟨fsm, hfm⟩ := h10b.o
    refine k_istore B dL_law_1517 (by decide) ?_
    try refine kK.set1 (by first | exact True.intro | rfl | exact kCat_q _) ?_
    refine k_aload_n B dL_law_1519 rfl (by first | exact kRf_r _ | exact kRf_q _ | exact kRf_n) ?_
    refine k_aload_n B dL_law_1520 rfl (by first | exact kRf_r _ | exact kRf_q _ | exact kRf_n) ?_
    refine k_iload B dL_law_1521 rfl ?_
    refine k_iconst B (v := 1) dL_law_1523 (by decide) ?_
    refine k_iadd B dL_law_1524 ?_
    refine kK.rei (y := nI (i + 1)) (nI_add i 1) ?_
    refine k_sld B hX hbl hbA (vp_in_nI (show i + 1 < N by omega) (by omega)) dL_law_1525 ?_
    refine kK.rei (y := xs (i + 1)) (by rw [nI_clamp (by omega)]) ?_
    refine k_aload_n B dL_law_1526 rfl (by first | exact kRf_r _ | exact kRf_q _ | exact kRf_n) ?_
    refine k_iload B dL_law_1527 rfl ?_
    refine k_iconst B (v := 2) dL_law_1529 (by decide) ?_
    refine k_iadd B dL_law_1530 ?_
    refine kK.rei (y := nI (i + 2)) (nI_add i 2) ?_
    refine k_sld B hX hbl hbA (vp_in_nI (show i + 2 < N by omega) (by omega)) dL_law_1531 ?_
    refine kK.rei (y := xs (i + 2)) (by rw [nI_clamp (by omega)]) ?_
    refine k_aload_n B dL_law_1532 rfl (by first | exact kRf_r _ | exact kRf_q _ | exact kRf_n) ?_
    refine k_iload B dL_law_1533 rfl ?_
    refine k_iconst B (v := 3) dL_law_1535 (by decide) ?_
    refine k_iadd B dL_law_1536 ?_
    refine kK.rei (y := nI (i + 3)) (nI_add i 3) ?_
    refine k_sld B hX hbl hbA (vp_in_nI (show i + 3 < N by omega) (by omega)) dL_law_1537 ?_
    refine kK.rei (y := xs (i + 3)) (by rw [nI_clamp (by omega)]) ?_
    refine cl_L_172 B (c_X10_fromAnew hl hs h10b) hfm dL_law_1538 (by first | exact Nat.le_of_ble_eq_true rfl | omega | (simp only [kR, Value.category, kCat_q, List.map, List.sum_cons, List.sum_nil]; omega)) (by first | exact Nat.le_of_ble_eq_true rfl | omega | (simp only [kR, Value.category, kCat_q, List.map, List.sum_cons, List.sum_nil]; omega)) (by first | exact Nat.le_of_ble_eq_true rfl | omega | (simp only [kR, Value.category, kCat_q, List.map, List.sum_cons, List.sum_nil]; omega)) (by first | exact Nat.le_of_ble_eq_true rfl | omega | (simp only [kR, Value.category, kCat_q, List.map, List.sum_cons, List.sum_nil]; omega)) (by first | exact Nat.le_of_ble_eq_true rfl | omega | (simp only [kR, Value.category, kCat_q, List.map, List.sum_cons, List.sum_nil]; omega)) (fun _ hx => hx.elim) (fun v1538 s1538 hp1538 => ?_)
    rcases hp1538 with ⟨⟨hg2, e3, h10c⟩ | ⟨E2, hg2, e3, h10c⟩, hfo⟩
    · rw [e3]
      refine kK.rev (y := .int (nI (faV z (xs (i + 1)) (xs (i + 2)) (xs (i + 3)) J F))) (by rw [fa_val hs hj hg]) ?_
      obtain ⟨mv1, kn1, Lk1, hm⟩ := id h10c
      refine k_istore B dL_law_1541 (by decide) ?_
      try refine kK.set1 (by first | exact True.intro | rfl | exact kCat_q _) ?_
      refine k_aload_n B dL_law_1543 rfl (by first | exact kRf_r _ | exact kRf_q _ | exact kRf_n) ?_
      refine cl_L_101 B (c_X10_thrown hl hm.m) hm.o dL_law_1544 (by first | exact Nat.le_of_ble_eq_true rfl | omega | (simp only [kR, Value.category, kCat_q, List.map, List.sum_cons, List.sum_nil]; omega)) (by first | exact Nat.le_of_ble_eq_true rfl | omega | (simp only [kR, Value.category, kCat_q, List.map, List.sum_cons, List.sum_nil]; omega)) (by first | exact Nat.le_of_ble_eq_true rfl | omega | (simp only [kR, Value.category, kCat_q, List.map, List.sum_cons, List.sum_nil]; omega)) (by first | exact Nat.le_of_ble_eq_true rfl | omega | (simp only [kR, Value.category, kCat_q, List.map, List.sum_cons, List.sum_nil]; omega)) (by first | exact Nat.le_of_ble_eq_true rfl | omega | (simp only [kR, Value.category, kCat_q, List.map, List.sum_cons, List.sum_nil]; omega)) (fun _ hx => hx.elim) (fun v1544 s1544 hp1544 => ?_)
      obtain ⟨rfl, e5⟩ := hp1544
      rw [e5]
      refine kK.rev (y := .int 0) rfl ?_
      refine k_iload B dL_law_1547 rfl ?_
      refine k_icmp_eq B 1554 dL_law_1549 (by decide) (fun c1549 => ?_) (fun c1549 => ?_)
      · skip
        refine k_iload B dL_law_1554 rfl ?_
        refine k_if_ne B 1571 dL_law_1556 (by decide) (fun c1556 => ?_) (fun c1556 => ?_)
        · exact absurd rfl c1556
        · skip
          have hL2 := keepL h10b hfo hL1 (Or.inl rfl)
          have hD2 := keepL h10b hfo hD1b (Or.inr rfl)
          refine k_aload_n B dL_law_1559 rfl (by first | exact kRf_r _ | exact kRf_q _ | exact kRf_n) ?_
          refine k_iconst B (v := 0) dL_law_1560 (by decide) ?_
          refine k_lald B dL_law_1561 hL2 (vp_in_nI (n := 0) (N := 1) (by decide) (by decide)) ?_
          refine kK.rel (y := (nI (faV z (xs (i + 1)) (xs (i + 2)) (xs (i + 3)) J F)).toInt64) hx1 ?_
          refine k_iload B dL_law_1562 rfl ?_
          refine k_i2l B dL_law_1564 ?_
          refine k_lcmp B dL_law_1565 ?_
          refine k_if_eq B 1571 dL_law_1566 (by decide) (fun c1566 => ?_) (fun c1566 => ?_)
          · skip
            refine k_goto B 1697 dL_law_1571 (by decide) ?_
            refine kK.sub (L2 := [some (.ref b), some (.ref aO), some (.ref aM), some (.ref aL), some (.ref aD), some (.int (nI i)), none, none, none]) ⟨Or.inr rfl, Or.inr rfl, Or.inr rfl, Or.inr rfl, Or.inr rfl, Or.inr rfl, Or.inl rfl, Or.inl rfl, Or.inl rfl, trivial⟩ ?_
            exact nxt _ _ _ ⟨z, J, (faF (xs (i + 1)) (xs (i + 2)) (xs (i + 3)) J F), 0, hs, hj, h9b.keepO h10b hfo, h10c, ⟨f1, hL2⟩, ⟨g0, hD2⟩, (hfc2 hg).1, by show k + (2 + faC z (xs (i + 1)) (xs (i + 2)) (xs (i + 3)) J F) + 0 + 0 ≤ 200 + 31 * sNow z + 7 * (st + 1) + cnt ((faF (xs (i + 1)) (xs (i + 2)) (xs (i + 3)) J F)); have := (hfc2 hg).2; omega, by show n + (12 + 3 * faC z (xs (i + 1)) (xs (i + 2)) (xs (i + 3)) J F) + 0 + 0 ≤ 40000 + 164 * sNow z + 38 * (st + 1) + 3 * cnt ((faF (xs (i + 1)) (xs (i + 2)) (xs (i + 3)) J F)); have := (hfc2 hg).2; omega⟩
          · exact absurd ((lg_cmp_eq _ _).mpr rfl) c1566
      · exact absurd rfl c1549
    · rw [hg] at hg2; cases hg2
  · rw [e1, e2]
    refine kK.rev (y := .int (tCd 1 1 1 E)) rfl ?_
    obtain ⟨fsm, hfm⟩ := h10.o
    refine k_istore B dL_law_1517 (by decide) ?_
    try refine kK.set1 (by first | exact True.intro | rfl | exact kCat_q _) ?_
    refine k_aload_n B dL_law_1519 rfl (by first | exact kRf_r _ | exact kRf_q _ | exact kRf_n) ?_
    refine k_aload_n B dL_law_1520 rfl (by first | exact kRf_r _ | exact kRf_q _ | exact kRf_n) ?_
    refine k_iload B dL_law_1521 rfl ?_
    refine k_iconst B (v := 1) dL_law_1523 (by decide) ?_
    refine k_iadd B dL_law_1524 ?_
    refine kK.rei (y := nI (i + 1)) (nI_add i 1) ?_
    refine k_sld B hX hbl hbA (vp_in_nI (show i + 1 < N by omega) (by omega)) dL_law_1525 ?_
    refine kK.rei (y := xs (i + 1)) (by rw [nI_clamp (by omega)]) ?_
    refine k_aload_n B dL_law_1526 rfl (by first | exact kRf_r _ | exact kRf_q _ | exact kRf_n) ?_
    refine k_iload B dL_law_1527 rfl ?_
    refine k_iconst B (v := 2) dL_law_1529 (by decide) ?_
    refine k_iadd B dL_law_1530 ?_
    refine kK.rei (y := nI (i + 2)) (nI_add i 2) ?_
    refine k_sld B hX hbl hbA (vp_in_nI (show i + 2 < N by omega) (by omega)) dL_law_1531 ?_
    refine kK.rei (y := xs (i + 2)) (by rw [nI_clamp (by omega)]) ?_
    refine k_aload_n B dL_law_1532 rfl (by first | exact kRf_r _ | exact kRf_q _ | exact kRf_n) ?_
    refine k_iload B dL_law_1533 rfl ?_
    refine k_iconst B (v := 3) dL_law_1535 (by decide) ?_
    refine k_iadd B dL_law_1536 ?_
    refine kK.rei (y := nI (i + 3)) (nI_add i 3) ?_
    refine k_sld B hX hbl hbA (vp_in_nI (show i + 3 < N by omega) (by omega)) dL_law_1537 ?_
    refine kK.rei (y := xs (i + 3)) (by rw [nI_clamp (by omega)]) ?_
    refine cl_L_172 B (c_X10_fromAnew hl hs h10) hfm dL_law_1538 (by first | exact Nat.le_of_ble_eq_true rfl | omega | (simp only [kR, Value.category, kCat_q, List.map, List.sum_cons, List.sum_nil]; omega)) (by first | exact Nat.le_of_ble_eq_true rfl | omega | (simp only [kR, Value.category, kCat_q, List.map, List.sum_cons, List.sum_nil]; omega)) (by first | exact Nat.le_of_ble_eq_true rfl | omega | (simp only [kR, Value.category, kCat_q, List.map, List.sum_cons, List.sum_nil]; omega)) (by first | exact Nat.le_of_ble_eq_true rfl | omega | (simp only [kR, Value.category, kCat_q, List.map, List.sum_cons, List.sum_nil]; omega)) (by first | exact Nat.le_of_ble_eq_true rfl | omega | (simp only [kR, Value.category, kCat_q, List.map, List.sum_cons, List.sum_nil]; omega)) (fun _ hx => hx.elim) (fun v1538 s1538 hp1538 => ?_)
    rcases hp1538 with ⟨⟨hg2, e3, h10c⟩ | ⟨E2, hg2, e3, h10c⟩, hfo⟩
    · rw [hg] at hg2; cases hg2
    · obtain rfl : E = E2 := Option.some.inj (hg.symm.trans hg2)
      obtain ⟨mv1, kn1, Lk1, hm⟩ := id h10c
      rw [e3]
      refine kK.rev (y := .int 0) rfl ?_
      refine k_istore B dL_law_1541 (by decide) ?_
      try refine kK.set1 (by first | exact True.intro | rfl | exact kCat_q _) ?_
      refine k_aload_n B dL_law_1543 rfl (by first | exact kRf_r _ | exact kRf_q _ | exact kRf_n) ?_
      refine cl_L_101 B (c_X10_thrown hl hm.m) hm.o dL_law_1544 (by first | exact Nat.le_of_ble_eq_true rfl | omega | (simp only [kR, Value.category, kCat_q, List.map, List.sum_cons, List.sum_nil]; omega)) (by first | exact Nat.le_of_ble_eq_true rfl | omega | (simp only [kR, Value.category, kCat_q, List.map, List.sum_cons, List.sum_nil]; omega)) (by first | exact Nat.le_of_ble_eq_true rfl | omega | (simp only [kR, Value.category, kCat_q, List.map, List.sum_cons, List.sum_nil]; omega)) (by first | exact Nat.le_of_ble_eq_true rfl | omega | (simp only [kR, Value.category, kCat_q, List.map, List.sum_cons, List.sum_nil]; omega)) (by first | exact Nat.le_of_ble_eq_true rfl | omega | (simp only [kR, Value.category, kCat_q, List.map, List.sum_cons, List.sum_nil]; omega)) (fun _ hx => hx.elim) (fun v1544 s1544 hp1544 => ?_)
      obtain ⟨rfl, e5⟩ := hp1544
      rw [e5]
      refine kK.rev (y := .int (tCd 1 1 1 E)) rfl ?_
      refine k_iload B dL_law_1547 rfl ?_
      refine k_icmp_eq B 1554 dL_law_1549 (by decide) (fun c1549 => ?_) (fun c1549 => ?_)
      · skip
        refine k_iload B dL_law_1554 rfl ?_
        refine k_if_ne B 1571 dL_law_1556 (by decide) (fun c1556 => ?_) (fun c1556 => ?_)
        · skip
          refine k_goto B 1697 dL_law_1571 (by decide) ?_
          refine kK.sub (L2 := [some (.ref b), some (.ref aO), some (.ref aM), some (.ref aL), some (.ref aD), some (.int (nI i)), none, none, none]) ⟨Or.inr rfl, Or.inr rfl, Or.inr rfl, Or.inr rfl, Or.inr rfl, Or.inr rfl, Or.inl rfl, Or.inl rfl, Or.inl rfl, trivial⟩ ?_
          exact nxt _ _ _ ⟨z, J, F, _, hs, hj, h9.keepO h10 hfo, h10c, ⟨f0, keepL h10 hfo hL (Or.inl rfl)⟩, ⟨g0, keepL h10 hfo hD (Or.inr rfl)⟩, hc, by show k + (2 + faC z (xs (i + 1)) (xs (i + 2)) (xs (i + 3)) J F) + 0 + 0 ≤ 200 + 31 * sNow z + 7 * (st + 1) + cnt F; rw [show faC z (xs (i + 1)) (xs (i + 2)) (xs (i + 3)) J F = 0 from if_neg (by rw [hg]; exact fun q => by cases q)]; omega, by show n + (12 + 3 * faC z (xs (i + 1)) (xs (i + 2)) (xs (i + 3)) J F) + 0 + 0 ≤ 40000 + 164 * sNow z + 38 * (st + 1) + 3 * cnt F; rw [show faC z (xs (i + 1)) (xs (i + 2)) (xs (i + 3)) J F = 0 from if_neg (by rw [hg]; exact fun q => by cases q)]; omega⟩
        · exact absurd c1556 (tCd_ne (by decide) (by decide) (by decide))
      · exact absurd rfl c1549
set_option maxHeartbeats 1000000 in
set_option maxRecDepth 100000 in
theorem law_whence (B : kB p l s m args meth c D A 9 cL_law RL) (hl : l.stackTraces = false) (hX : va_X b N xs s s.heap) (hbl : b < s.heap.size) (hbA : ¬ A b) (hrc : 20000 ≤ room_1.cells) (hrs : 200000 ≤ room_1.slots) (hN : N ≤ 2048) (hi : i + 4 ≤ N) (hst : st ≤ 512) (hI : lI D aO aM aL aD ma st k n σ) (nxt : ∀ (σ2 : kS) (k2 n2 : Nat), lI D aO aM aL aD ma (st + 1) k2 n2 σ2 → kK p l e room_1 s m args below meth c D A 9 Q σ2 k2 n2 1697 [some (.ref b), some (.ref aO), some (.ref aM), some (.ref aL), some (.ref aD), some (.int (nI i)), none, none, none] []) : kK p l e room_1 s m args below meth c D A 9 Q σ k n 1574 [some (.ref b), some (.ref aO), some (.ref aM), some (.ref aL), some (.ref aD), some (.int (nI i)), none, none, none] [] := by
  obtain ⟨z, J, F, t, hs, hj, h9, h10, ⟨f0, hL⟩, ⟨g0, hD⟩, hc, hk, hn⟩ := hI
  have hn3 := hs.1.1
  obtain ⟨fs9, hf9⟩ := h9.fs
  obtain ⟨fs10, hf10⟩ := h10.o
  refine k_aload_n B dL_law_1574 rfl (by first | exact kRf_r _ | exact kRf_q _ | exact kRf_n) ?_
  refine k_aload_n B dL_law_1575 rfl (by first | exact kRf_r _ | exact kRf_q _ | exact kRf_n) ?_
  refine k_iload B dL_law_1576 rfl ?_
  refine k_iconst B (v := 1) dL_law_1578 (by decide) ?_
  refine k_iadd B dL_law_1579 ?_
  refine kK.rei (y := nI (i + 1)) (nI_add i 1) ?_
  refine k_sld B hX hbl hbA (vp_in_nI (show i + 1 < N by omega) (by omega)) dL_law_1580 ?_
  refine kK.rei (y := xs (i + 1)) (by rw [nI_clamp (by omega)]) ?_
  refine k_aload_n B dL_law_1581 rfl (by first | exact kRf_r _ | exact kRf_q _ | exact kRf_n) ?_
  refine k_iload B dL_law_1582 rfl ?_
  refine k_iconst B (v := 2) dL_law_1584 (by decide) ?_
  refine k_iadd B dL_law_1585 ?_
  refine kK.rei (y := nI (i + 2)) (nI_add i 2) ?_
  refine k_sld B hX hbl hbA (vp_in_nI (show i + 2 < N by omega) (by omega)) dL_law_1586 ?_
  refine kK.rei (y := xs (i + 2)) (by rw [nI_clamp (by omega)]) ?_
  refine k_aload_n B dL_law_1587 rfl (by first | exact kRf_r _ | exact kRf_q _ | exact kRf_n) ?_
  refine cl_L_173 B (c_L_whence hl hs h9 hL) dL_law_1588 (by first | exact Nat.le_of_ble_eq_true rfl | omega | (simp only [kR, Value.category, kCat_q, List.map, List.sum_cons, List.sum_nil]; omega)) (by first | exact Nat.le_of_ble_eq_true rfl | omega | (simp only [kR, Value.category, kCat_q, List.map, List.sum_cons, List.sum_nil]; omega)) (by first | exact Nat.le_of_ble_eq_true rfl | omega | (simp only [kR, Value.category, kCat_q, List.map, List.sum_cons, List.sum_nil]; omega)) (by first | exact Nat.le_of_ble_eq_true rfl | omega | (simp only [kR, Value.category, kCat_q, List.map, List.sum_cons, List.sum_nil]; omega)) (by first | exact Nat.le_of_ble_eq_true rfl | omega | (simp only [kR, Value.category, kCat_q, List.map, List.sum_cons, List.sum_nil]; omega)) (fun _ hx => hx.elim) (fun v1588 s1588 hp1588 => ?_)
  rcases hp1588 with ⟨hg, e1, h9b, ⟨f1, hL1, hx1⟩, hfx⟩ | ⟨E, hg, e1, e2⟩
  · rw [e1]
    refine kK.rev (y := .int 0) rfl ?_
    have h10b := h10.keepX hfx hL (Or.inl rfl)
    have hD1b := hfx.d hL hD
    obtain ⟨fsm, hfm⟩ := h10b.o
    refine k_istore B dL_law_1591 (by decide) ?_
    try refine kK.set1 (by first | exact True.intro | rfl | exact kCat_q _) ?_
    refine k_aload_n B dL_law_1593 rfl (by first | exact kRf_r _ | exact kRf_q _ | exact kRf_n) ?_
    refine k_aload_n B dL_law_1594 rfl (by first | exact kRf_r _ | exact kRf_q _ | exact kRf_n) ?_
    refine k_iload B dL_law_1595 rfl ?_
    refine k_iconst B (v := 1) dL_law_1597 (by decide) ?_
    refine k_iadd B dL_law_1598 ?_
    refine kK.rei (y := nI (i + 1)) (nI_add i 1) ?_
    refine k_sld B hX hbl hbA (vp_in_nI (show i + 1 < N by omega) (by omega)) dL_law_1599 ?_
    refine kK.rei (y := xs (i + 1)) (by rw [nI_clamp (by omega)]) ?_
    refine k_aload_n B dL_law_1600 rfl (by first | exact kRf_r _ | exact kRf_q _ | exact kRf_n) ?_
    refine k_iload B dL_law_1601 rfl ?_
    refine k_iconst B (v := 2) dL_law_1603 (by decide) ?_
    refine k_iadd B dL_law_1604 ?_
    refine kK.rei (y := nI (i + 2)) (nI_add i 2) ?_
    refine k_sld B hX hbl hbA (vp_in_nI (show i + 2 < N by omega) (by omega)) dL_law_1605 ?_
    refine kK.rei (y := xs (i + 2)) (by rw [nI_clamp (by omega)]) ?_
    refine cl_L_175 B (c_X10_whence hl hs h10b) hfm dL_law_1606 (by first | exact Nat.le_of_ble_eq_true rfl | omega | (simp only [kR, Value.category, kCat_q, List.map, List.sum_cons, List.sum_nil]; omega)) (by first | exact Nat.le_of_ble_eq_true rfl | omega | (simp only [kR, Value.category, kCat_q, List.map, List.sum_cons, List.sum_nil]; omega)) (by first | exact Nat.le_of_ble_eq_true rfl | omega | (simp only [kR, Value.category, kCat_q, List.map, List.sum_cons, List.sum_nil]; omega)) (by first | exact Nat.le_of_ble_eq_true rfl | omega | (simp only [kR, Value.category, kCat_q, List.map, List.sum_cons, List.sum_nil]; omega)) (by first | exact Nat.le_of_ble_eq_true rfl | omega | (simp only [kR, Value.category, kCat_q, List.map, List.sum_cons, List.sum_nil]; omega)) (fun _ hx => hx.elim) (fun v1606 s1606 hp1606 => ?_)
    rcases hp1606 with ⟨⟨hg2, e3, h10c⟩ | ⟨E2, hg2, e3, h10c⟩, hfo⟩
    · rw [e3]
      refine kK.rev (y := .int (rWhence z (xs (i + 1)) (xs (i + 2)))) rfl ?_
      obtain ⟨mv1, kn1, Lk1, hm⟩ := id h10c
      refine k_istore B dL_law_1609 (by decide) ?_
      try refine kK.set1 (by first | exact True.intro | rfl | exact kCat_q _) ?_
      refine k_aload_n B dL_law_1611 rfl (by first | exact kRf_r _ | exact kRf_q _ | exact kRf_n) ?_
      refine cl_L_101 B (c_X10_thrown hl hm.m) hm.o dL_law_1612 (by first | exact Nat.le_of_ble_eq_true rfl | omega | (simp only [kR, Value.category, kCat_q, List.map, List.sum_cons, List.sum_nil]; omega)) (by first | exact Nat.le_of_ble_eq_true rfl | omega | (simp only [kR, Value.category, kCat_q, List.map, List.sum_cons, List.sum_nil]; omega)) (by first | exact Nat.le_of_ble_eq_true rfl | omega | (simp only [kR, Value.category, kCat_q, List.map, List.sum_cons, List.sum_nil]; omega)) (by first | exact Nat.le_of_ble_eq_true rfl | omega | (simp only [kR, Value.category, kCat_q, List.map, List.sum_cons, List.sum_nil]; omega)) (by first | exact Nat.le_of_ble_eq_true rfl | omega | (simp only [kR, Value.category, kCat_q, List.map, List.sum_cons, List.sum_nil]; omega)) (fun _ hx => hx.elim) (fun v1612 s1612 hp1612 => ?_)
      obtain ⟨rfl, e5⟩ := hp1612
      rw [e5]
      refine kK.rev (y := .int 0) rfl ?_
      refine k_iload B dL_law_1615 rfl ?_
      refine k_icmp_eq B 1622 dL_law_1617 (by decide) (fun c1617 => ?_) (fun c1617 => ?_)
      · skip
        refine k_iload B dL_law_1622 rfl ?_
        refine k_if_ne B 1639 dL_law_1624 (by decide) (fun c1624 => ?_) (fun c1624 => ?_)
        · exact absurd rfl c1624
        · skip
          have hL2 := keepL h10b hfo hL1 (Or.inl rfl)
          have hD2 := keepL h10b hfo hD1b (Or.inr rfl)
          refine k_aload_n B dL_law_1627 rfl (by first | exact kRf_r _ | exact kRf_q _ | exact kRf_n) ?_
          refine k_iconst B (v := 0) dL_law_1628 (by decide) ?_
          refine k_lald B dL_law_1629 hL2 (vp_in_nI (n := 0) (N := 1) (by decide) (by decide)) ?_
          refine kK.rel (y := (rWhence z (xs (i + 1)) (xs (i + 2))).toInt64) hx1 ?_
          refine k_iload B dL_law_1630 rfl ?_
          refine k_i2l B dL_law_1632 ?_
          refine k_lcmp B dL_law_1633 ?_
          refine k_if_eq B 1639 dL_law_1634 (by decide) (fun c1634 => ?_) (fun c1634 => ?_)
          · skip
            refine k_goto B 1697 dL_law_1639 (by decide) ?_
            refine kK.sub (L2 := [some (.ref b), some (.ref aO), some (.ref aM), some (.ref aL), some (.ref aD), some (.int (nI i)), none, none, none]) ⟨Or.inr rfl, Or.inr rfl, Or.inr rfl, Or.inr rfl, Or.inr rfl, Or.inr rfl, Or.inl rfl, Or.inl rfl, Or.inl rfl, trivial⟩ ?_
            exact nxt _ _ _ ⟨z, J, F, 0, hs, hj, h9b.keepO h10b hfo, h10c, ⟨f1, hL2⟩, ⟨g0, hD2⟩, hc, by show k + 2 + 0 + 0 ≤ 200 + 31 * sNow z + 7 * (st + 1) + cnt F; omega, by show n + 12 + 0 + 0 ≤ 40000 + 164 * sNow z + 38 * (st + 1) + 3 * cnt F; omega⟩
          · exact absurd ((lg_cmp_eq _ _).mpr rfl) c1634
      · exact absurd rfl c1617
    · rw [hg] at hg2; cases hg2
  · rw [e1, e2]
    refine kK.rev (y := .int (tCd 1 1 1 E)) rfl ?_
    obtain ⟨fsm, hfm⟩ := h10.o
    refine k_istore B dL_law_1591 (by decide) ?_
    try refine kK.set1 (by first | exact True.intro | rfl | exact kCat_q _) ?_
    refine k_aload_n B dL_law_1593 rfl (by first | exact kRf_r _ | exact kRf_q _ | exact kRf_n) ?_
    refine k_aload_n B dL_law_1594 rfl (by first | exact kRf_r _ | exact kRf_q _ | exact kRf_n) ?_
    refine k_iload B dL_law_1595 rfl ?_
    refine k_iconst B (v := 1) dL_law_1597 (by decide) ?_
    refine k_iadd B dL_law_1598 ?_
    refine kK.rei (y := nI (i + 1)) (nI_add i 1) ?_
    refine k_sld B hX hbl hbA (vp_in_nI (show i + 1 < N by omega) (by omega)) dL_law_1599 ?_
    refine kK.rei (y := xs (i + 1)) (by rw [nI_clamp (by omega)]) ?_
    refine k_aload_n B dL_law_1600 rfl (by first | exact kRf_r _ | exact kRf_q _ | exact kRf_n) ?_
    refine k_iload B dL_law_1601 rfl ?_
    refine k_iconst B (v := 2) dL_law_1603 (by decide) ?_
    refine k_iadd B dL_law_1604 ?_
    refine kK.rei (y := nI (i + 2)) (nI_add i 2) ?_
    refine k_sld B hX hbl hbA (vp_in_nI (show i + 2 < N by omega) (by omega)) dL_law_1605 ?_
    refine kK.rei (y := xs (i + 2)) (by rw [nI_clamp (by omega)]) ?_
    refine cl_L_175 B (c_X10_whence hl hs h10) hfm dL_law_1606 (by first | exact Nat.le_of_ble_eq_true rfl | omega | (simp only [kR, Value.category, kCat_q, List.map, List.sum_cons, List.sum_nil]; omega)) (by first | exact Nat.le_of_ble_eq_true rfl | omega | (simp only [kR, Value.category, kCat_q, List.map, List.sum_cons, List.sum_nil]; omega)) (by first | exact Nat.le_of_ble_eq_true rfl | omega | (simp only [kR, Value.category, kCat_q, List.map, List.sum_cons, List.sum_nil]; omega)) (by first | exact Nat.le_of_ble_eq_true rfl | omega | (simp only [kR, Value.category, kCat_q, List.map, List.sum_cons, List.sum_nil]; omega)) (by first | exact Nat.le_of_ble_eq_true rfl | omega | (simp only [kR, Value.category, kCat_q, List.map, List.sum_cons, List.sum_nil]; omega)) (fun _ hx => hx.elim) (fun v1606 s1606 hp1606 => ?_)
    rcases hp1606 with ⟨⟨hg2, e3, h10c⟩ | ⟨E2, hg2, e3, h10c⟩, hfo⟩
    · rw [hg] at hg2; cases hg2
    · obtain rfl : E = E2 := Option.some.inj (hg.symm.trans hg2)
      obtain ⟨mv1, kn1, Lk1, hm⟩ := id h10c
      rw [e3]
      refine kK.rev (y := .int 0) rfl ?_
      refine k_istore B dL_law_1609 (by decide) ?_
      try refine kK.set1 (by first | exact True.intro | rfl | exact kCat_q _) ?_
      refine k_aload_n B dL_law_1611 rfl (by first | exact kRf_r _ | exact kRf_q _ | exact kRf_n) ?_
      refine cl_L_101 B (c_X10_thrown hl hm.m) hm.o dL_law_1612 (by first | exact Nat.le_of_ble_eq_true rfl | omega | (simp only [kR, Value.category, kCat_q, List.map, List.sum_cons, List.sum_nil]; omega)) (by first | exact Nat.le_of_ble_eq_true rfl | omega | (simp only [kR, Value.category, kCat_q, List.map, List.sum_cons, List.sum_nil]; omega)) (by first | exact Nat.le_of_ble_eq_true rfl | omega | (simp only [kR, Value.category, kCat_q, List.map, List.sum_cons, List.sum_nil]; omega)) (by first | exact Nat.le_of_ble_eq_true rfl | omega | (simp only [kR, Value.category, kCat_q, List.map, List.sum_cons, List.sum_nil]; omega)) (by first | exact Nat.le_of_ble_eq_true rfl | omega | (simp only [kR, Value.category, kCat_q, List.map, List.sum_cons, List.sum_nil]; omega)) (fun _ hx => hx.elim) (fun v1612 s1612 hp1612 => ?_)
      obtain ⟨rfl, e5⟩ := hp1612
      rw [e5]
      refine kK.rev (y := .int (tCd 1 1 1 E)) rfl ?_
      refine k_iload B dL_law_1615 rfl ?_
      refine k_icmp_eq B 1622 dL_law_1617 (by decide) (fun c1617 => ?_) (fun c1617 => ?_)
      · skip
        refine k_iload B dL_law_1622 rfl ?_
        refine k_if_ne B 1639 dL_law_1624 (by decide) (fun c1624 => ?_) (fun c1624 => ?_)
        · skip
          refine k_goto B 1697 dL_law_1639 (by decide) ?_
          refine kK.sub (L2 := [some (.ref b), some (.ref aO), some (.ref aM), some (.ref aL), some (.ref aD), some (.int (nI i)), none, none, none]) ⟨Or.inr rfl, Or.inr rfl, Or.inr rfl, Or.inr rfl, Or.inr rfl, Or.inr rfl, Or.inl rfl, Or.inl rfl, Or.inl rfl, trivial⟩ ?_
          exact nxt _ _ _ ⟨z, J, F, _, hs, hj, h9.keepO h10 hfo, h10c, ⟨f0, keepL h10 hfo hL (Or.inl rfl)⟩, ⟨g0, keepL h10 hfo hD (Or.inr rfl)⟩, hc, by show k + 2 + 0 + 0 ≤ 200 + 31 * sNow z + 7 * (st + 1) + cnt F; omega, by show n + 12 + 0 + 0 ≤ 40000 + 164 * sNow z + 38 * (st + 1) + 3 * cnt F; omega⟩
        · exact absurd c1624 (tCd_ne (by decide) (by decide) (by decide))
      · exact absurd rfl c1617
set_option maxHeartbeats 1000000 in
set_option maxRecDepth 100000 in
theorem law_sum (B : kB p l s m args meth c D A 9 cL_law RL) (hl : l.stackTraces = false) (hX : va_X b N xs s s.heap) (hbl : b < s.heap.size) (hbA : ¬ A b) (hrc : 20000 ≤ room_1.cells) (hrs : 200000 ≤ room_1.slots) (hN : N ≤ 2048) (hi : i + 4 ≤ N) (hst : st ≤ 512) (hI : lI D aO aM aL aD ma st k n σ) (nxt : ∀ (σ2 : kS) (k2 n2 : Nat), lI D aO aM aL aD ma (st + 1) k2 n2 σ2 → kK p l e room_1 s m args below meth c D A 9 Q σ2 k2 n2 1697 [some (.ref b), some (.ref aO), some (.ref aM), some (.ref aL), some (.ref aD), some (.int (nI i)), none, none, none] []) : kK p l e room_1 s m args below meth c D A 9 Q σ k n 1642 [some (.ref b), some (.ref aO), some (.ref aM), some (.ref aL), some (.ref aD), some (.int (nI i)), none, none, none] [] := by
  obtain ⟨z, J, F, t, hs, hj, h9, h10, ⟨f0, hL⟩, ⟨g0, hD⟩, hc, hk, hn⟩ := hI
  have hn3 := hs.1.1
  obtain ⟨fs9, hf9⟩ := h9.fs
  obtain ⟨fs10, hf10⟩ := h10.o
  refine k_aload_n B dL_law_1642 rfl (by first | exact kRf_r _ | exact kRf_q _ | exact kRf_n) ?_
  refine k_aload_n B dL_law_1643 rfl (by first | exact kRf_r _ | exact kRf_q _ | exact kRf_n) ?_
  refine k_iload B dL_law_1644 rfl ?_
  refine k_iconst B (v := 1) dL_law_1646 (by decide) ?_
  refine k_iadd B dL_law_1647 ?_
  refine kK.rei (y := nI (i + 1)) (nI_add i 1) ?_
  refine k_sld B hX hbl hbA (vp_in_nI (show i + 1 < N by omega) (by omega)) dL_law_1648 ?_
  refine kK.rei (y := xs (i + 1)) (by rw [nI_clamp (by omega)]) ?_
  refine k_aload_n B dL_law_1649 rfl (by first | exact kRf_r _ | exact kRf_q _ | exact kRf_n) ?_
  refine cl_L_176 B (c_L_sum hl hs h9 hL) dL_law_1650 (by first | exact Nat.le_of_ble_eq_true rfl | omega | (simp only [kR, Value.category, kCat_q, List.map, List.sum_cons, List.sum_nil]; omega)) (by first | exact Nat.le_of_ble_eq_true rfl | omega | (simp only [kR, Value.category, kCat_q, List.map, List.sum_cons, List.sum_nil]; omega)) (by first | exact Nat.le_of_ble_eq_true rfl | omega | (simp only [kR, Value.category, kCat_q, List.map, List.sum_cons, List.sum_nil]; omega)) (by first | exact Nat.le_of_ble_eq_true rfl | omega | (simp only [kR, Value.category, kCat_q, List.map, List.sum_cons, List.sum_nil]; omega)) (by first | exact Nat.le_of_ble_eq_true rfl | omega | (simp only [kR, Value.category, kCat_q, List.map, List.sum_cons, List.sum_nil]; omega)) (fun _ hx => hx.elim) (fun v1650 s1650 hp1650 => ?_)
  rcases hp1650 with ⟨hg, e1, h9b, ⟨f1, hL1, hx1⟩, hfx⟩ | ⟨E, hg, e1, e2⟩
  · rw [e1]
    refine kK.rev (y := .int 0) rfl ?_
    have h10b := h10.keepX hfx hL (Or.inl rfl)
    have hD1b := hfx.d hL hD
    obtain ⟨fsm, hfm⟩ := h10b.o
    refine k_istore B dL_law_1653 (by decide) ?_
    try refine kK.set1 (by first | exact True.intro | rfl | exact kCat_q _) ?_
    refine k_aload_n B dL_law_1655 rfl (by first | exact kRf_r _ | exact kRf_q _ | exact kRf_n) ?_
    refine k_aload_n B dL_law_1656 rfl (by first | exact kRf_r _ | exact kRf_q _ | exact kRf_n) ?_
    refine k_iload B dL_law_1657 rfl ?_
    refine k_iconst B (v := 1) dL_law_1659 (by decide) ?_
    refine k_iadd B dL_law_1660 ?_
    refine kK.rei (y := nI (i + 1)) (nI_add i 1) ?_
    refine k_sld B hX hbl hbA (vp_in_nI (show i + 1 < N by omega) (by omega)) dL_law_1661 ?_
    refine kK.rei (y := xs (i + 1)) (by rw [nI_clamp (by omega)]) ?_
    refine cl_L_178 B (c_X10_sum hl hs h10b) hfm dL_law_1662 (by first | exact Nat.le_of_ble_eq_true rfl | omega | (simp only [kR, Value.category, kCat_q, List.map, List.sum_cons, List.sum_nil]; omega)) (by first | exact Nat.le_of_ble_eq_true rfl | omega | (simp only [kR, Value.category, kCat_q, List.map, List.sum_cons, List.sum_nil]; omega)) (by first | exact Nat.le_of_ble_eq_true rfl | omega | (simp only [kR, Value.category, kCat_q, List.map, List.sum_cons, List.sum_nil]; omega)) (by first | exact Nat.le_of_ble_eq_true rfl | omega | (simp only [kR, Value.category, kCat_q, List.map, List.sum_cons, List.sum_nil]; omega)) (by first | exact Nat.le_of_ble_eq_true rfl | omega | (simp only [kR, Value.category, kCat_q, List.map, List.sum_cons, List.sum_nil]; omega)) (fun _ hx => hx.elim) (fun v1662 s1662 hp1662 => ?_)
    rcases hp1662 with ⟨⟨hg2, e3, h10c⟩ | ⟨E2, hg2, e3, h10c⟩, hfo⟩
    · rw [e3]
      refine kK.rev (y := .long (rSum z (xs (i + 1)))) rfl ?_
      obtain ⟨mv1, kn1, Lk1, hm⟩ := id h10c
      refine k_lstore B dL_law_1665 (by decide) ?_
      refine k_aload_n B dL_law_1667 rfl (by first | exact kRf_r _ | exact kRf_q _ | exact kRf_n) ?_
      refine cl_L_101 B (c_X10_thrown hl hm.m) hm.o dL_law_1668 (by first | exact Nat.le_of_ble_eq_true rfl | omega | (simp only [kR, Value.category, kCat_q, List.map, List.sum_cons, List.sum_nil]; omega)) (by first | exact Nat.le_of_ble_eq_true rfl | omega | (simp only [kR, Value.category, kCat_q, List.map, List.sum_cons, List.sum_nil]; omega)) (by first | exact Nat.le_of_ble_eq_true rfl | omega | (simp only [kR, Value.category, kCat_q, List.map, List.sum_cons, List.sum_nil]; omega)) (by first | exact Nat.le_of_ble_eq_true rfl | omega | (simp only [kR, Value.category, kCat_q, List.map, List.sum_cons, List.sum_nil]; omega)) (by first | exact Nat.le_of_ble_eq_true rfl | omega | (simp only [kR, Value.category, kCat_q, List.map, List.sum_cons, List.sum_nil]; omega)) (fun _ hx => hx.elim) (fun v1668 s1668 hp1668 => ?_)
      obtain ⟨rfl, e5⟩ := hp1668
      rw [e5]
      refine kK.rev (y := .int 0) rfl ?_
      refine k_iload B dL_law_1671 rfl ?_
      refine k_icmp_eq B 1678 dL_law_1673 (by decide) (fun c1673 => ?_) (fun c1673 => ?_)
      · skip
        refine k_iload B dL_law_1678 rfl ?_
        refine k_if_ne B 1694 dL_law_1680 (by decide) (fun c1680 => ?_) (fun c1680 => ?_)
        · exact absurd rfl c1680
        · skip
          have hL2 := keepL h10b hfo hL1 (Or.inl rfl)
          have hD2 := keepL h10b hfo hD1b (Or.inr rfl)
          refine k_aload_n B dL_law_1683 rfl (by first | exact kRf_r _ | exact kRf_q _ | exact kRf_n) ?_
          refine k_iconst B (v := 0) dL_law_1684 (by decide) ?_
          refine k_lald B dL_law_1685 hL2 (vp_in_nI (n := 0) (N := 1) (by decide) (by decide)) ?_
          refine kK.rel (y := rSum z (xs (i + 1))) hx1 ?_
          refine k_lload B dL_law_1686 rfl ?_
          refine k_lcmp B dL_law_1688 ?_
          refine k_if_eq B 1694 dL_law_1689 (by decide) (fun c1689 => ?_) (fun c1689 => ?_)
          · skip
            refine k_goto B 1697 dL_law_1694 (by decide) ?_
            refine kK.sub (L2 := [some (.ref b), some (.ref aO), some (.ref aM), some (.ref aL), some (.ref aD), some (.int (nI i)), none, none, none]) ⟨Or.inr rfl, Or.inr rfl, Or.inr rfl, Or.inr rfl, Or.inr rfl, Or.inr rfl, Or.inl rfl, Or.inl rfl, Or.inl rfl, trivial⟩ ?_
            exact nxt _ _ _ ⟨z, J, F, 0, hs, hj, h9b.keepO h10b hfo, h10c, ⟨f1, hL2⟩, ⟨g0, hD2⟩, hc, by show k + 1 + 0 + 0 ≤ 200 + 31 * sNow z + 7 * (st + 1) + cnt F; omega, by show n + 6 + 0 + 0 ≤ 40000 + 164 * sNow z + 38 * (st + 1) + 3 * cnt F; omega⟩
          · exact absurd ((lg_cmp_eq _ _).mpr rfl) c1689
      · exact absurd rfl c1673
    · rw [hg] at hg2; cases hg2
  · rw [e1, e2]
    refine kK.rev (y := .int (tCd 1 1 1 E)) rfl ?_
    obtain ⟨fsm, hfm⟩ := h10.o
    refine k_istore B dL_law_1653 (by decide) ?_
    try refine kK.set1 (by first | exact True.intro | rfl | exact kCat_q _) ?_
    refine k_aload_n B dL_law_1655 rfl (by first | exact kRf_r _ | exact kRf_q _ | exact kRf_n) ?_
    refine k_aload_n B dL_law_1656 rfl (by first | exact kRf_r _ | exact kRf_q _ | exact kRf_n) ?_
    refine k_iload B dL_law_1657 rfl ?_
    refine k_iconst B (v := 1) dL_law_1659 (by decide) ?_
    refine k_iadd B dL_law_1660 ?_
    refine kK.rei (y := nI (i + 1)) (nI_add i 1) ?_
    refine k_sld B hX hbl hbA (vp_in_nI (show i + 1 < N by omega) (by omega)) dL_law_1661 ?_
    refine kK.rei (y := xs (i + 1)) (by rw [nI_clamp (by omega)]) ?_
    refine cl_L_178 B (c_X10_sum hl hs h10) hfm dL_law_1662 (by first | exact Nat.le_of_ble_eq_true rfl | omega | (simp only [kR, Value.category, kCat_q, List.map, List.sum_cons, List.sum_nil]; omega)) (by first | exact Nat.le_of_ble_eq_true rfl | omega | (simp only [kR, Value.category, kCat_q, List.map, List.sum_cons, List.sum_nil]; omega)) (by first | exact Nat.le_of_ble_eq_true rfl | omega | (simp only [kR, Value.category, kCat_q, List.map, List.sum_cons, List.sum_nil]; omega)) (by first | exact Nat.le_of_ble_eq_true rfl | omega | (simp only [kR, Value.category, kCat_q, List.map, List.sum_cons, List.sum_nil]; omega)) (by first | exact Nat.le_of_ble_eq_true rfl | omega | (simp only [kR, Value.category, kCat_q, List.map, List.sum_cons, List.sum_nil]; omega)) (fun _ hx => hx.elim) (fun v1662 s1662 hp1662 => ?_)
    rcases hp1662 with ⟨⟨hg2, e3, h10c⟩ | ⟨E2, hg2, e3, h10c⟩, hfo⟩
    · rw [hg] at hg2; cases hg2
    · obtain rfl : E = E2 := Option.some.inj (hg.symm.trans hg2)
      obtain ⟨mv1, kn1, Lk1, hm⟩ := id h10c
      rw [e3]
      refine kK.rev (y := .long 0) rfl ?_
      refine k_lstore B dL_law_1665 (by decide) ?_
      refine k_aload_n B dL_law_1667 rfl (by first | exact kRf_r _ | exact kRf_q _ | exact kRf_n) ?_
      refine cl_L_101 B (c_X10_thrown hl hm.m) hm.o dL_law_1668 (by first | exact Nat.le_of_ble_eq_true rfl | omega | (simp only [kR, Value.category, kCat_q, List.map, List.sum_cons, List.sum_nil]; omega)) (by first | exact Nat.le_of_ble_eq_true rfl | omega | (simp only [kR, Value.category, kCat_q, List.map, List.sum_cons, List.sum_nil]; omega)) (by first | exact Nat.le_of_ble_eq_true rfl | omega | (simp only [kR, Value.category, kCat_q, List.map, List.sum_cons, List.sum_nil]; omega)) (by first | exact Nat.le_of_ble_eq_true rfl | omega | (simp only [kR, Value.category, kCat_q, List.map, List.sum_cons, List.sum_nil]; omega)) (by first | exact Nat.le_of_ble_eq_true rfl | omega | (simp only [kR, Value.category, kCat_q, List.map, List.sum_cons, List.sum_nil]; omega)) (fun _ hx => hx.elim) (fun v1668 s1668 hp1668 => ?_)
      obtain ⟨rfl, e5⟩ := hp1668
      rw [e5]
      refine kK.rev (y := .int (tCd 1 1 1 E)) rfl ?_
      refine k_iload B dL_law_1671 rfl ?_
      refine k_icmp_eq B 1678 dL_law_1673 (by decide) (fun c1673 => ?_) (fun c1673 => ?_)
      · skip
        refine k_iload B dL_law_1678 rfl ?_
        refine k_if_ne B 1694 dL_law_1680 (by decide) (fun c1680 => ?_) (fun c1680 => ?_)
        · skip
          refine k_goto B 1697 dL_law_1694 (by decide) ?_
          refine kK.sub (L2 := [some (.ref b), some (.ref aO), some (.ref aM), some (.ref aL), some (.ref aD), some (.int (nI i)), none, none, none]) ⟨Or.inr rfl, Or.inr rfl, Or.inr rfl, Or.inr rfl, Or.inr rfl, Or.inr rfl, Or.inl rfl, Or.inl rfl, Or.inl rfl, trivial⟩ ?_
          exact nxt _ _ _ ⟨z, J, F, _, hs, hj, h9.keepO h10 hfo, h10c, ⟨f0, keepL h10 hfo hL (Or.inl rfl)⟩, ⟨g0, keepL h10 hfo hD (Or.inr rfl)⟩, hc, by show k + 1 + 0 + 0 ≤ 200 + 31 * sNow z + 7 * (st + 1) + cnt F; omega, by show n + 6 + 0 + 0 ≤ 40000 + 164 * sNow z + 38 * (st + 1) + 3 * cnt F; omega⟩
        · exact absurd c1680 (tCd_ne (by decide) (by decide) (by decide))
      · exact absurd rfl c1673
end Law5
