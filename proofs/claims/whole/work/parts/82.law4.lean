section Law4
variable {p : Program} {l : Launch} {e : Env} {s : State} {m : MethodId} {args : Array Value} {below : List Frame} {meth : Method} {c : Code} {D : va_G} {A : Nat → Prop} {Q : State → Prop} {σ : kS} {aO aM aL aD b N i st k n : Nat} {ma : Nat → Nat} {xs : Nat → Int32}
set_option maxHeartbeats 1000000 in
set_option maxRecDepth 100000 in
theorem law_wellOf (B : kB p l s m args meth c D A 9 cL_law RL) (hl : l.stackTraces = false) (hX : va_X b N xs s s.heap) (hbl : b < s.heap.size) (hbA : ¬ A b) (hrc : 20000 ≤ room_1.cells) (hrs : 200000 ≤ room_1.slots) (hN : N ≤ 2048) (hi : i + 4 ≤ N) (hst : st ≤ 512) (hI : lI D aO aM aL aD ma st k n σ) (nxt : ∀ (σ2 : kS) (k2 n2 : Nat), lI D aO aM aL aD ma (st + 1) k2 n2 σ2 → kK p l e room_1 s m args below meth c D A 9 Q σ2 k2 n2 1697 [some (.ref b), some (.ref aO), some (.ref aM), some (.ref aL), some (.ref aD), some (.int (nI i)), none, none, none] []) : kK p l e room_1 s m args below meth c D A 9 Q σ k n 1144 [some (.ref b), some (.ref aO), some (.ref aM), some (.ref aL), some (.ref aD), some (.int (nI i)), none, none, none] [] := by
  obtain ⟨z, J, F, t, hs, hj, h9, h10, ⟨f0, hL⟩, ⟨g0, hD⟩, hc, hk, hn⟩ := hI
  have hn3 := hs.1.1
  obtain ⟨fs9, hf9⟩ := h9.fs
  obtain ⟨fs10, hf10⟩ := h10.o
  refine k_aload_n B dL_law_1144 rfl (by first | exact kRf_r _ | exact kRf_q _ | exact kRf_n) ?_
  refine k_aload_n B dL_law_1145 rfl (by first | exact kRf_r _ | exact kRf_q _ | exact kRf_n) ?_
  refine k_iload B dL_law_1146 rfl ?_
  refine k_iconst B (v := 1) dL_law_1148 (by decide) ?_
  refine k_iadd B dL_law_1149 ?_
  refine kK.rei (y := nI (i + 1)) (nI_add i 1) ?_
  refine k_sld B hX hbl hbA (vp_in_nI (show i + 1 < N by omega) (by omega)) dL_law_1150 ?_
  refine kK.rei (y := xs (i + 1)) (by rw [nI_clamp (by omega)]) ?_
  refine k_aload_n B dL_law_1151 rfl (by first | exact kRf_r _ | exact kRf_q _ | exact kRf_n) ?_
  refine k_iload B dL_law_1152 rfl ?_
  refine k_iconst B (v := 2) dL_law_1154 (by decide) ?_
  refine k_iadd B dL_law_1155 ?_
  refine kK.rei (y := nI (i + 2)) (nI_add i 2) ?_
  refine k_sld B hX hbl hbA (vp_in_nI (show i + 2 < N by omega) (by omega)) dL_law_1156 ?_
  refine kK.rei (y := xs (i + 2)) (by rw [nI_clamp (by omega)]) ?_
  refine k_aload_n B dL_law_1157 rfl (by first | exact kRf_r _ | exact kRf_q _ | exact kRf_n) ?_
  refine cl_L_153 B (c_L_wellOf hl hs h9 hL) dL_law_1158 (by first | exact Nat.le_of_ble_eq_true rfl | omega | (simp only [kR, Value.category, kCat_q, List.map, List.sum_cons, List.sum_nil]; omega)) (by first | exact Nat.le_of_ble_eq_true rfl | omega | (simp only [kR, Value.category, kCat_q, List.map, List.sum_cons, List.sum_nil]; omega)) (by first | exact Nat.le_of_ble_eq_true rfl | omega | (simp only [kR, Value.category, kCat_q, List.map, List.sum_cons, List.sum_nil]; omega)) (by first | exact Nat.le_of_ble_eq_true rfl | omega | (simp only [kR, Value.category, kCat_q, List.map, List.sum_cons, List.sum_nil]; omega)) (by first | exact Nat.le_of_ble_eq_true rfl | omega | (simp only [kR, Value.category, kCat_q, List.map, List.sum_cons, List.sum_nil]; omega)) (fun _ hx => hx.elim) (fun v1158 s1158 hp1158 => ?_)
  rcases hp1158 with ⟨hg, e1, h9b, ⟨f1, hL1, hx1⟩, hfx⟩ | ⟨E, hg, e1, e2⟩
  · rw [e1]
    refine kK.rev (y := .int 0) rfl ?_
    have h10b := h10.keepX hfx hL (Or.inl rfl)
    have hD1b := hfx.d hL hD
    obtain ⟨fsm, hfm⟩ := h10b.o
    refine k_istore B dL_law_1161 (by decide) ?_
    try refine kK.set1 (by first | exact True.intro | rfl | exact kCat_q _) ?_
    refine k_aload_n B dL_law_1163 rfl (by first | exact kRf_r _ | exact kRf_q _ | exact kRf_n) ?_
    refine k_aload_n B dL_law_1164 rfl (by first | exact kRf_r _ | exact kRf_q _ | exact kRf_n) ?_
    refine k_iload B dL_law_1165 rfl ?_
    refine k_iconst B (v := 1) dL_law_1167 (by decide) ?_
    refine k_iadd B dL_law_1168 ?_
    refine kK.rei (y := nI (i + 1)) (nI_add i 1) ?_
    refine k_sld B hX hbl hbA (vp_in_nI (show i + 1 < N by omega) (by omega)) dL_law_1169 ?_
    refine kK.rei (y := xs (i + 1)) (by rw [nI_clamp (by omega)]) ?_
    refine k_aload_n B dL_law_1170 rfl (by first | exact kRf_r _ | exact kRf_q _ | exact kRf_n) ?_
    refine k_iload B dL_law_1171 rfl ?_
    refine k_iconst B (v := 2) dL_law_1173 (by decide) ?_
    refine k_iadd B dL_law_1174 ?_
    refine kK.rei (y := nI (i + 2)) (nI_add i 2) ?_
    refine k_sld B hX hbl hbA (vp_in_nI (show i + 2 < N by omega) (by omega)) dL_law_1175 ?_
    refine kK.rei (y := xs (i + 2)) (by rw [nI_clamp (by omega)]) ?_
    refine cl_L_155 B (c_X10_wellOf hl hs h10b) hfm dL_law_1176 (by first | exact Nat.le_of_ble_eq_true rfl | omega | (simp only [kR, Value.category, kCat_q, List.map, List.sum_cons, List.sum_nil]; omega)) (by first | exact Nat.le_of_ble_eq_true rfl | omega | (simp only [kR, Value.category, kCat_q, List.map, List.sum_cons, List.sum_nil]; omega)) (by first | exact Nat.le_of_ble_eq_true rfl | omega | (simp only [kR, Value.category, kCat_q, List.map, List.sum_cons, List.sum_nil]; omega)) (by first | exact Nat.le_of_ble_eq_true rfl | omega | (simp only [kR, Value.category, kCat_q, List.map, List.sum_cons, List.sum_nil]; omega)) (by first | exact Nat.le_of_ble_eq_true rfl | omega | (simp only [kR, Value.category, kCat_q, List.map, List.sum_cons, List.sum_nil]; omega)) (fun _ hx => hx.elim) (fun v1176 s1176 hp1176 => ?_)
    rcases hp1176 with ⟨⟨hg2, e3, h10c⟩ | ⟨E2, hg2, e3, h10c⟩, hfo⟩
    · rw [e3]
      refine kK.rev (y := .int (rWellOf z (xs (i + 1)) (xs (i + 2)))) rfl ?_
      obtain ⟨mv1, kn1, Lk1, hm⟩ := id h10c
      refine k_istore B dL_law_1179 (by decide) ?_
      try refine kK.set1 (by first | exact True.intro | rfl | exact kCat_q _) ?_
      refine k_aload_n B dL_law_1181 rfl (by first | exact kRf_r _ | exact kRf_q _ | exact kRf_n) ?_
      refine cl_L_101 B (c_X10_thrown hl hm.m) hm.o dL_law_1182 (by first | exact Nat.le_of_ble_eq_true rfl | omega | (simp only [kR, Value.category, kCat_q, List.map, List.sum_cons, List.sum_nil]; omega)) (by first | exact Nat.le_of_ble_eq_true rfl | omega | (simp only [kR, Value.category, kCat_q, List.map, List.sum_cons, List.sum_nil]; omega)) (by first | exact Nat.le_of_ble_eq_true rfl | omega | (simp only [kR, Value.category, kCat_q, List.map, List.sum_cons, List.sum_nil]; omega)) (by first | exact Nat.le_of_ble_eq_true rfl | omega | (simp only [kR, Value.category, kCat_q, List.map, List.sum_cons, List.sum_nil]; omega)) (by first | exact Nat.le_of_ble_eq_true rfl | omega | (simp only [kR, Value.category, kCat_q, List.map, List.sum_cons, List.sum_nil]; omega)) (fun _ hx => hx.elim) (fun v1182 s1182 hp1182 => ?_)
      obtain ⟨rfl, e5⟩ := hp1182
      rw [e5]
      refine kK.rev (y := .int 0) rfl ?_
      refine k_iload B dL_law_1185 rfl ?_
      refine k_icmp_eq B 1192 dL_law_1187 (by decide) (fun c1187 => ?_) (fun c1187 => ?_)
      · skip
        refine k_iload B dL_law_1192 rfl ?_
        refine k_if_ne B 1209 dL_law_1194 (by decide) (fun c1194 => ?_) (fun c1194 => ?_)
        · exact absurd rfl c1194
        · skip
          have hL2 := keepL h10b hfo hL1 (Or.inl rfl)
          have hD2 := keepL h10b hfo hD1b (Or.inr rfl)
          refine k_aload_n B dL_law_1197 rfl (by first | exact kRf_r _ | exact kRf_q _ | exact kRf_n) ?_
          refine k_iconst B (v := 0) dL_law_1198 (by decide) ?_
          refine k_lald B dL_law_1199 hL2 (vp_in_nI (n := 0) (N := 1) (by decide) (by decide)) ?_
          refine kK.rel (y := (rWellOf z (xs (i + 1)) (xs (i + 2))).toInt64) hx1 ?_
          refine k_iload B dL_law_1200 rfl ?_
          refine k_i2l B dL_law_1202 ?_
          refine k_lcmp B dL_law_1203 ?_
          refine k_if_eq B 1209 dL_law_1204 (by decide) (fun c1204 => ?_) (fun c1204 => ?_)
          · skip
            refine k_goto B 1697 dL_law_1209 (by decide) ?_
            refine kK.sub (L2 := [some (.ref b), some (.ref aO), some (.ref aM), some (.ref aL), some (.ref aD), some (.int (nI i)), none, none, none]) ⟨Or.inr rfl, Or.inr rfl, Or.inr rfl, Or.inr rfl, Or.inr rfl, Or.inr rfl, Or.inl rfl, Or.inl rfl, Or.inl rfl, trivial⟩ ?_
            exact nxt _ _ _ ⟨z, J, F, 0, hs, hj, h9b.keepO h10b hfo, h10c, ⟨f1, hL2⟩, ⟨g0, hD2⟩, hc, by show k + 2 + 0 + 0 ≤ 200 + 31 * sNow z + 7 * (st + 1) + cnt F; omega, by show n + 12 + 0 + 0 ≤ 40000 + 164 * sNow z + 38 * (st + 1) + 3 * cnt F; omega⟩
          · exact absurd ((lg_cmp_eq _ _).mpr rfl) c1204
      · exact absurd rfl c1187
    · rw [hg] at hg2; cases hg2
  · rw [e1, e2]
    refine kK.rev (y := .int (tCd 1 2 2 E)) rfl ?_
    obtain ⟨fsm, hfm⟩ := h10.o
    refine k_istore B dL_law_1161 (by decide) ?_
    try refine kK.set1 (by first | exact True.intro | rfl | exact kCat_q _) ?_
    refine k_aload_n B dL_law_1163 rfl (by first | exact kRf_r _ | exact kRf_q _ | exact kRf_n) ?_
    refine k_aload_n B dL_law_1164 rfl (by first | exact kRf_r _ | exact kRf_q _ | exact kRf_n) ?_
    refine k_iload B dL_law_1165 rfl ?_
    refine k_iconst B (v := 1) dL_law_1167 (by decide) ?_
    refine k_iadd B dL_law_1168 ?_
    refine kK.rei (y := nI (i + 1)) (nI_add i 1) ?_
    refine k_sld B hX hbl hbA (vp_in_nI (show i + 1 < N by omega) (by omega)) dL_law_1169 ?_
    refine kK.rei (y := xs (i + 1)) (by rw [nI_clamp (by omega)]) ?_
    refine k_aload_n B dL_law_1170 rfl (by first | exact kRf_r _ | exact kRf_q _ | exact kRf_n) ?_
    refine k_iload B dL_law_1171 rfl ?_
    refine k_iconst B (v := 2) dL_law_1173 (by decide) ?_
    refine k_iadd B dL_law_1174 ?_
    refine kK.rei (y := nI (i + 2)) (nI_add i 2) ?_
    refine k_sld B hX hbl hbA (vp_in_nI (show i + 2 < N by omega) (by omega)) dL_law_1175 ?_
    refine kK.rei (y := xs (i + 2)) (by rw [nI_clamp (by omega)]) ?_
    refine cl_L_155 B (c_X10_wellOf hl hs h10) hfm dL_law_1176 (by first | exact Nat.le_of_ble_eq_true rfl | omega | (simp only [kR, Value.category, kCat_q, List.map, List.sum_cons, List.sum_nil]; omega)) (by first | exact Nat.le_of_ble_eq_true rfl | omega | (simp only [kR, Value.category, kCat_q, List.map, List.sum_cons, List.sum_nil]; omega)) (by first | exact Nat.le_of_ble_eq_true rfl | omega | (simp only [kR, Value.category, kCat_q, List.map, List.sum_cons, List.sum_nil]; omega)) (by first | exact Nat.le_of_ble_eq_true rfl | omega | (simp only [kR, Value.category, kCat_q, List.map, List.sum_cons, List.sum_nil]; omega)) (by first | exact Nat.le_of_ble_eq_true rfl | omega | (simp only [kR, Value.category, kCat_q, List.map, List.sum_cons, List.sum_nil]; omega)) (fun _ hx => hx.elim) (fun v1176 s1176 hp1176 => ?_)
    rcases hp1176 with ⟨⟨hg2, e3, h10c⟩ | ⟨E2, hg2, e3, h10c⟩, hfo⟩
    · rw [hg] at hg2; cases hg2
    · obtain rfl : E = E2 := Option.some.inj (hg.symm.trans hg2)
      obtain ⟨mv1, kn1, Lk1, hm⟩ := id h10c
      rw [e3]
      refine kK.rev (y := .int 0) rfl ?_
      refine k_istore B dL_law_1179 (by decide) ?_
      try refine kK.set1 (by first | exact True.intro | rfl | exact kCat_q _) ?_
      refine k_aload_n B dL_law_1181 rfl (by first | exact kRf_r _ | exact kRf_q _ | exact kRf_n) ?_
      refine cl_L_101 B (c_X10_thrown hl hm.m) hm.o dL_law_1182 (by first | exact Nat.le_of_ble_eq_true rfl | omega | (simp only [kR, Value.category, kCat_q, List.map, List.sum_cons, List.sum_nil]; omega)) (by first | exact Nat.le_of_ble_eq_true rfl | omega | (simp only [kR, Value.category, kCat_q, List.map, List.sum_cons, List.sum_nil]; omega)) (by first | exact Nat.le_of_ble_eq_true rfl | omega | (simp only [kR, Value.category, kCat_q, List.map, List.sum_cons, List.sum_nil]; omega)) (by first | exact Nat.le_of_ble_eq_true rfl | omega | (simp only [kR, Value.category, kCat_q, List.map, List.sum_cons, List.sum_nil]; omega)) (by first | exact Nat.le_of_ble_eq_true rfl | omega | (simp only [kR, Value.category, kCat_q, List.map, List.sum_cons, List.sum_nil]; omega)) (fun _ hx => hx.elim) (fun v1182 s1182 hp1182 => ?_)
      obtain ⟨rfl, e5⟩ := hp1182
      rw [e5]
      refine kK.rev (y := .int (tCd 1 2 2 E)) rfl ?_
      refine k_iload B dL_law_1185 rfl ?_
      refine k_icmp_eq B 1192 dL_law_1187 (by decide) (fun c1187 => ?_) (fun c1187 => ?_)
      · skip
        refine k_iload B dL_law_1192 rfl ?_
        refine k_if_ne B 1209 dL_law_1194 (by decide) (fun c1194 => ?_) (fun c1194 => ?_)
        · skip
          refine k_goto B 1697 dL_law_1209 (by decide) ?_
          refine kK.sub (L2 := [some (.ref b), some (.ref aO), some (.ref aM), some (.ref aL), some (.ref aD), some (.int (nI i)), none, none, none]) ⟨Or.inr rfl, Or.inr rfl, Or.inr rfl, Or.inr rfl, Or.inr rfl, Or.inr rfl, Or.inl rfl, Or.inl rfl, Or.inl rfl, trivial⟩ ?_
          exact nxt _ _ _ ⟨z, J, F, _, hs, hj, h9.keepO h10 hfo, h10c, ⟨f0, keepL h10 hfo hL (Or.inl rfl)⟩, ⟨g0, keepL h10 hfo hD (Or.inr rfl)⟩, hc, by show k + 2 + 0 + 0 ≤ 200 + 31 * sNow z + 7 * (st + 1) + cnt F; omega, by show n + 12 + 0 + 0 ≤ 40000 + 164 * sNow z + 38 * (st + 1) + 3 * cnt F; omega⟩
        · exact absurd c1194 (tCd_ne (by decide) (by decide) (by decide))
      · exact absurd rfl c1187
set_option maxHeartbeats 1000000 in
set_option maxRecDepth 100000 in
theorem law_lotOf (B : kB p l s m args meth c D A 9 cL_law RL) (hl : l.stackTraces = false) (hX : va_X b N xs s s.heap) (hbl : b < s.heap.size) (hbA : ¬ A b) (hrc : 20000 ≤ room_1.cells) (hrs : 200000 ≤ room_1.slots) (hN : N ≤ 2048) (hi : i + 4 ≤ N) (hst : st ≤ 512) (hI : lI D aO aM aL aD ma st k n σ) (nxt : ∀ (σ2 : kS) (k2 n2 : Nat), lI D aO aM aL aD ma (st + 1) k2 n2 σ2 → kK p l e room_1 s m args below meth c D A 9 Q σ2 k2 n2 1697 [some (.ref b), some (.ref aO), some (.ref aM), some (.ref aL), some (.ref aD), some (.int (nI i)), none, none, none] []) : kK p l e room_1 s m args below meth c D A 9 Q σ k n 1212 [some (.ref b), some (.ref aO), some (.ref aM), some (.ref aL), some (.ref aD), some (.int (nI i)), none, none, none] [] := by
  obtain ⟨z, J, F, t, hs, hj, h9, h10, ⟨f0, hL⟩, ⟨g0, hD⟩, hc, hk, hn⟩ := hI
  have hn3 := hs.1.1
  obtain ⟨fs9, hf9⟩ := h9.fs
  obtain ⟨fs10, hf10⟩ := h10.o
  refine k_aload_n B dL_law_1212 rfl (by first | exact kRf_r _ | exact kRf_q _ | exact kRf_n) ?_
  refine k_aload_n B dL_law_1213 rfl (by first | exact kRf_r _ | exact kRf_q _ | exact kRf_n) ?_
  refine k_iload B dL_law_1214 rfl ?_
  refine k_iconst B (v := 1) dL_law_1216 (by decide) ?_
  refine k_iadd B dL_law_1217 ?_
  refine kK.rei (y := nI (i + 1)) (nI_add i 1) ?_
  refine k_sld B hX hbl hbA (vp_in_nI (show i + 1 < N by omega) (by omega)) dL_law_1218 ?_
  refine kK.rei (y := xs (i + 1)) (by rw [nI_clamp (by omega)]) ?_
  refine k_aload_n B dL_law_1219 rfl (by first | exact kRf_r _ | exact kRf_q _ | exact kRf_n) ?_
  refine k_iload B dL_law_1220 rfl ?_
  refine k_iconst B (v := 2) dL_law_1222 (by decide) ?_
  refine k_iadd B dL_law_1223 ?_
  refine kK.rei (y := nI (i + 2)) (nI_add i 2) ?_
  refine k_sld B hX hbl hbA (vp_in_nI (show i + 2 < N by omega) (by omega)) dL_law_1224 ?_
  refine kK.rei (y := xs (i + 2)) (by rw [nI_clamp (by omega)]) ?_
  refine k_aload_n B dL_law_1225 rfl (by first | exact kRf_r _ | exact kRf_q _ | exact kRf_n) ?_
  refine cl_L_156 B (c_L_lotOf hl hs h9 hL) dL_law_1226 (by first | exact Nat.le_of_ble_eq_true rfl | omega | (simp only [kR, Value.category, kCat_q, List.map, List.sum_cons, List.sum_nil]; omega)) (by first | exact Nat.le_of_ble_eq_true rfl | omega | (simp only [kR, Value.category, kCat_q, List.map, List.sum_cons, List.sum_nil]; omega)) (by first | exact Nat.le_of_ble_eq_true rfl | omega | (simp only [kR, Value.category, kCat_q, List.map, List.sum_cons, List.sum_nil]; omega)) (by first | exact Nat.le_of_ble_eq_true rfl | omega | (simp only [kR, Value.category, kCat_q, List.map, List.sum_cons, List.sum_nil]; omega)) (by first | exact Nat.le_of_ble_eq_true rfl | omega | (simp only [kR, Value.category, kCat_q, List.map, List.sum_cons, List.sum_nil]; omega)) (fun _ hx => hx.elim) (fun v1226 s1226 hp1226 => ?_)
  rcases hp1226 with ⟨hg, e1, h9b, ⟨f1, hL1, hx1⟩, hfx⟩ | ⟨E, hg, e1, e2⟩
  · rw [e1]
    refine kK.rev (y := .int 0) rfl ?_
    have h10b := h10.keepX hfx hL (Or.inl rfl)
    have hD1b := hfx.d hL hD
    obtain ⟨fsm, hfm⟩ := h10b.o
    refine k_istore B dL_law_1229 (by decide) ?_
    try refine kK.set1 (by first | exact True.intro | rfl | exact kCat_q _) ?_
    refine k_aload_n B dL_law_1231 rfl (by first | exact kRf_r _ | exact kRf_q _ | exact kRf_n) ?_
    refine k_aload_n B dL_law_1232 rfl (by first | exact kRf_r _ | exact kRf_q _ | exact kRf_n) ?_
    refine k_iload B dL_law_1233 rfl ?_
    refine k_iconst B (v := 1) dL_law_1235 (by decide) ?_
    refine k_iadd B dL_law_1236 ?_
    refine kK.rei (y := nI (i + 1)) (nI_add i 1) ?_
    refine k_sld B hX hbl hbA (vp_in_nI (show i + 1 < N by omega) (by omega)) dL_law_1237 ?_
    refine kK.rei (y := xs (i + 1)) (by rw [nI_clamp (by omega)]) ?_
    refine k_aload_n B dL_law_1238 rfl (by first | exact kRf_r _ | exact kRf_q _ | exact kRf_n) ?_
    refine k_iload B dL_law_1239 rfl ?_
    refine k_iconst B (v := 2) dL_law_1241 (by decide) ?_
    refine k_iadd B dL_law_1242 ?_
    refine kK.rei (y := nI (i + 2)) (nI_add i 2) ?_
    refine k_sld B hX hbl hbA (vp_in_nI (show i + 2 < N by omega) (by omega)) dL_law_1243 ?_
    refine kK.rei (y := xs (i + 2)) (by rw [nI_clamp (by omega)]) ?_
    refine cl_L_158 B (c_X10_lotOf hl hs h10b) hfm dL_law_1244 (by first | exact Nat.le_of_ble_eq_true rfl | omega | (simp only [kR, Value.category, kCat_q, List.map, List.sum_cons, List.sum_nil]; omega)) (by first | exact Nat.le_of_ble_eq_true rfl | omega | (simp only [kR, Value.category, kCat_q, List.map, List.sum_cons, List.sum_nil]; omega)) (by first | exact Nat.le_of_ble_eq_true rfl | omega | (simp only [kR, Value.category, kCat_q, List.map, List.sum_cons, List.sum_nil]; omega)) (by first | exact Nat.le_of_ble_eq_true rfl | omega | (simp only [kR, Value.category, kCat_q, List.map, List.sum_cons, List.sum_nil]; omega)) (by first | exact Nat.le_of_ble_eq_true rfl | omega | (simp only [kR, Value.category, kCat_q, List.map, List.sum_cons, List.sum_nil]; omega)) (fun _ hx => hx.elim) (fun v1244 s1244 hp1244 => ?_)
    rcases hp1244 with ⟨⟨hg2, e3, h10c⟩ | ⟨E2, hg2, e3, h10c⟩, hfo⟩
    · rw [e3]
      refine kK.rev (y := .int (rLotOf z (xs (i + 1)) (xs (i + 2)))) rfl ?_
      obtain ⟨mv1, kn1, Lk1, hm⟩ := id h10c
      refine k_istore B dL_law_1247 (by decide) ?_
      try refine kK.set1 (by first | exact True.intro | rfl | exact kCat_q _) ?_
      refine k_aload_n B dL_law_1249 rfl (by first | exact kRf_r _ | exact kRf_q _ | exact kRf_n) ?_
      refine cl_L_101 B (c_X10_thrown hl hm.m) hm.o dL_law_1250 (by first | exact Nat.le_of_ble_eq_true rfl | omega | (simp only [kR, Value.category, kCat_q, List.map, List.sum_cons, List.sum_nil]; omega)) (by first | exact Nat.le_of_ble_eq_true rfl | omega | (simp only [kR, Value.category, kCat_q, List.map, List.sum_cons, List.sum_nil]; omega)) (by first | exact Nat.le_of_ble_eq_true rfl | omega | (simp only [kR, Value.category, kCat_q, List.map, List.sum_cons, List.sum_nil]; omega)) (by first | exact Nat.le_of_ble_eq_true rfl | omega | (simp only [kR, Value.category, kCat_q, List.map, List.sum_cons, List.sum_nil]; omega)) (by first | exact Nat.le_of_ble_eq_true rfl | omega | (simp only [kR, Value.category, kCat_q, List.map, List.sum_cons, List.sum_nil]; omega)) (fun _ hx => hx.elim) (fun v1250 s1250 hp1250 => ?_)
      obtain ⟨rfl, e5⟩ := hp1250
      rw [e5]
      refine kK.rev (y := .int 0) rfl ?_
      refine k_iload B dL_law_1253 rfl ?_
      refine k_icmp_eq B 1260 dL_law_1255 (by decide) (fun c1255 => ?_) (fun c1255 => ?_)
      · skip
        refine k_iload B dL_law_1260 rfl ?_
        refine k_if_ne B 1277 dL_law_1262 (by decide) (fun c1262 => ?_) (fun c1262 => ?_)
        · exact absurd rfl c1262
        · skip
          have hL2 := keepL h10b hfo hL1 (Or.inl rfl)
          have hD2 := keepL h10b hfo hD1b (Or.inr rfl)
          refine k_aload_n B dL_law_1265 rfl (by first | exact kRf_r _ | exact kRf_q _ | exact kRf_n) ?_
          refine k_iconst B (v := 0) dL_law_1266 (by decide) ?_
          refine k_lald B dL_law_1267 hL2 (vp_in_nI (n := 0) (N := 1) (by decide) (by decide)) ?_
          refine kK.rel (y := (rLotOf z (xs (i + 1)) (xs (i + 2))).toInt64) hx1 ?_
          refine k_iload B dL_law_1268 rfl ?_
          refine k_i2l B dL_law_1270 ?_
          refine k_lcmp B dL_law_1271 ?_
          refine k_if_eq B 1277 dL_law_1272 (by decide) (fun c1272 => ?_) (fun c1272 => ?_)
          · skip
            refine k_goto B 1697 dL_law_1277 (by decide) ?_
            refine kK.sub (L2 := [some (.ref b), some (.ref aO), some (.ref aM), some (.ref aL), some (.ref aD), some (.int (nI i)), none, none, none]) ⟨Or.inr rfl, Or.inr rfl, Or.inr rfl, Or.inr rfl, Or.inr rfl, Or.inr rfl, Or.inl rfl, Or.inl rfl, Or.inl rfl, trivial⟩ ?_
            exact nxt _ _ _ ⟨z, J, F, 0, hs, hj, h9b.keepO h10b hfo, h10c, ⟨f1, hL2⟩, ⟨g0, hD2⟩, hc, by show k + 2 + 0 + 0 ≤ 200 + 31 * sNow z + 7 * (st + 1) + cnt F; omega, by show n + 12 + 0 + 0 ≤ 40000 + 164 * sNow z + 38 * (st + 1) + 3 * cnt F; omega⟩
          · exact absurd ((lg_cmp_eq _ _).mpr rfl) c1272
      · exact absurd rfl c1255
    · rw [hg] at hg2; cases hg2
  · rw [e1, e2]
    refine kK.rev (y := .int (tCd 1 2 2 E)) rfl ?_
    obtain ⟨fsm, hfm⟩ := h10.o
    refine k_istore B dL_law_1229 (by decide) ?_
    try refine kK.set1 (by first | exact True.intro | rfl | exact kCat_q _) ?_
    refine k_aload_n B dL_law_1231 rfl (by first | exact kRf_r _ | exact kRf_q _ | exact kRf_n) ?_
    refine k_aload_n B dL_law_1232 rfl (by first | exact kRf_r _ | exact kRf_q _ | exact kRf_n) ?_
    refine k_iload B dL_law_1233 rfl ?_
    refine k_iconst B (v := 1) dL_law_1235 (by decide) ?_
    refine k_iadd B dL_law_1236 ?_
    refine kK.rei (y := nI (i + 1)) (nI_add i 1) ?_
    refine k_sld B hX hbl hbA (vp_in_nI (show i + 1 < N by omega) (by omega)) dL_law_1237 ?_
    refine kK.rei (y := xs (i + 1)) (by rw [nI_clamp (by omega)]) ?_
    refine k_aload_n B dL_law_1238 rfl (by first | exact kRf_r _ | exact kRf_q _ | exact kRf_n) ?_
    refine k_iload B dL_law_1239 rfl ?_
    refine k_iconst B (v := 2) dL_law_1241 (by decide) ?_
    refine k_iadd B dL_law_1242 ?_
    refine kK.rei (y := nI (i + 2)) (nI_add i 2) ?_
    refine k_sld B hX hbl hbA (vp_in_nI (show i + 2 < N by omega) (by omega)) dL_law_1243 ?_
    refine kK.rei (y := xs (i + 2)) (by rw [nI_clamp (by omega)]) ?_
    refine cl_L_158 B (c_X10_lotOf hl hs h10) hfm dL_law_1244 (by first | exact Nat.le_of_ble_eq_true rfl | omega | (simp only [kR, Value.category, kCat_q, List.map, List.sum_cons, List.sum_nil]; omega)) (by first | exact Nat.le_of_ble_eq_true rfl | omega | (simp only [kR, Value.category, kCat_q, List.map, List.sum_cons, List.sum_nil]; omega)) (by first | exact Nat.le_of_ble_eq_true rfl | omega | (simp only [kR, Value.category, kCat_q, List.map, List.sum_cons, List.sum_nil]; omega)) (by first | exact Nat.le_of_ble_eq_true rfl | omega | (simp only [kR, Value.category, kCat_q, List.map, List.sum_cons, List.sum_nil]; omega)) (by first | exact Nat.le_of_ble_eq_true rfl | omega | (simp only [kR, Value.category, kCat_q, List.map, List.sum_cons, List.sum_nil]; omega)) (fun _ hx => hx.elim) (fun v1244 s1244 hp1244 => ?_)
    rcases hp1244 with ⟨⟨hg2, e3, h10c⟩ | ⟨E2, hg2, e3, h10c⟩, hfo⟩
    · rw [hg] at hg2; cases hg2
    · obtain rfl : E = E2 := Option.some.inj (hg.symm.trans hg2)
      obtain ⟨mv1, kn1, Lk1, hm⟩ := id h10c
      rw [e3]
      refine kK.rev (y := .int 0) rfl ?_
      refine k_istore B dL_law_1247 (by decide) ?_
      try refine kK.set1 (by first | exact True.intro | rfl | exact kCat_q _) ?_
      refine k_aload_n B dL_law_1249 rfl (by first | exact kRf_r _ | exact kRf_q _ | exact kRf_n) ?_
      refine cl_L_101 B (c_X10_thrown hl hm.m) hm.o dL_law_1250 (by first | exact Nat.le_of_ble_eq_true rfl | omega | (simp only [kR, Value.category, kCat_q, List.map, List.sum_cons, List.sum_nil]; omega)) (by first | exact Nat.le_of_ble_eq_true rfl | omega | (simp only [kR, Value.category, kCat_q, List.map, List.sum_cons, List.sum_nil]; omega)) (by first | exact Nat.le_of_ble_eq_true rfl | omega | (simp only [kR, Value.category, kCat_q, List.map, List.sum_cons, List.sum_nil]; omega)) (by first | exact Nat.le_of_ble_eq_true rfl | omega | (simp only [kR, Value.category, kCat_q, List.map, List.sum_cons, List.sum_nil]; omega)) (by first | exact Nat.le_of_ble_eq_true rfl | omega | (simp only [kR, Value.category, kCat_q, List.map, List.sum_cons, List.sum_nil]; omega)) (fun _ hx => hx.elim) (fun v1250 s1250 hp1250 => ?_)
      obtain ⟨rfl, e5⟩ := hp1250
      rw [e5]
      refine kK.rev (y := .int (tCd 1 2 2 E)) rfl ?_
      refine k_iload B dL_law_1253 rfl ?_
      refine k_icmp_eq B 1260 dL_law_1255 (by decide) (fun c1255 => ?_) (fun c1255 => ?_)
      · skip
        refine k_iload B dL_law_1260 rfl ?_
        refine k_if_ne B 1277 dL_law_1262 (by decide) (fun c1262 => ?_) (fun c1262 => ?_)
        · skip
          refine k_goto B 1697 dL_law_1277 (by decide) ?_
          refine kK.sub (L2 := [some (.ref b), some (.ref aO), some (.ref aM), some (.ref aL), some (.ref aD), some (.int (nI i)), none, none, none]) ⟨Or.inr rfl, Or.inr rfl, Or.inr rfl, Or.inr rfl, Or.inr rfl, Or.inr rfl, Or.inl rfl, Or.inl rfl, Or.inl rfl, trivial⟩ ?_
          exact nxt _ _ _ ⟨z, J, F, _, hs, hj, h9.keepO h10 hfo, h10c, ⟨f0, keepL h10 hfo hL (Or.inl rfl)⟩, ⟨g0, keepL h10 hfo hD (Or.inr rfl)⟩, hc, by show k + 2 + 0 + 0 ≤ 200 + 31 * sNow z + 7 * (st + 1) + cnt F; omega, by show n + 12 + 0 + 0 ≤ 40000 + 164 * sNow z + 38 * (st + 1) + 3 * cnt F; omega⟩
        · exact absurd c1262 (tCd_ne (by decide) (by decide) (by decide))
      · exact absurd rfl c1255
set_option maxHeartbeats 1000000 in
set_option maxRecDepth 100000 in
theorem law_age (B : kB p l s m args meth c D A 9 cL_law RL) (hl : l.stackTraces = false) (hX : va_X b N xs s s.heap) (hbl : b < s.heap.size) (hbA : ¬ A b) (hrc : 20000 ≤ room_1.cells) (hrs : 200000 ≤ room_1.slots) (hN : N ≤ 2048) (hi : i + 4 ≤ N) (hst : st ≤ 512) (hI : lI D aO aM aL aD ma st k n σ) (nxt : ∀ (σ2 : kS) (k2 n2 : Nat), lI D aO aM aL aD ma (st + 1) k2 n2 σ2 → kK p l e room_1 s m args below meth c D A 9 Q σ2 k2 n2 1697 [some (.ref b), some (.ref aO), some (.ref aM), some (.ref aL), some (.ref aD), some (.int (nI i)), none, none, none] []) : kK p l e room_1 s m args below meth c D A 9 Q σ k n 1280 [some (.ref b), some (.ref aO), some (.ref aM), some (.ref aL), some (.ref aD), some (.int (nI i)), none, none, none] [] := by
  obtain ⟨z, J, F, t, hs, hj, h9, h10, ⟨f0, hL⟩, ⟨g0, hD⟩, hc, hk, hn⟩ := hI
  have hn3 := hs.1.1
  obtain ⟨fs9, hf9⟩ := h9.fs
  obtain ⟨fs10, hf10⟩ := h10.o
  refine k_aload_n B dL_law_1280 rfl (by first | exact kRf_r _ | exact kRf_q _ | exact kRf_n) ?_
  refine k_aload_n B dL_law_1281 rfl (by first | exact kRf_r _ | exact kRf_q _ | exact kRf_n) ?_
  refine k_iload B dL_law_1282 rfl ?_
  refine k_iconst B (v := 1) dL_law_1284 (by decide) ?_
  refine k_iadd B dL_law_1285 ?_
  refine kK.rei (y := nI (i + 1)) (nI_add i 1) ?_
  refine k_sld B hX hbl hbA (vp_in_nI (show i + 1 < N by omega) (by omega)) dL_law_1286 ?_
  refine kK.rei (y := xs (i + 1)) (by rw [nI_clamp (by omega)]) ?_
  refine k_aload B dL_law_1287 rfl (by first | exact kRf_r _ | exact kRf_q _ | exact kRf_n) ?_
  refine cl_L_159 B (c_L_age hl hs h9 (age_nn hs) hD) dL_law_1289 (by first | exact Nat.le_of_ble_eq_true rfl | omega | (simp only [kR, Value.category, kCat_q, List.map, List.sum_cons, List.sum_nil]; omega)) (by first | exact Nat.le_of_ble_eq_true rfl | omega | (simp only [kR, Value.category, kCat_q, List.map, List.sum_cons, List.sum_nil]; omega)) (by first | exact Nat.le_of_ble_eq_true rfl | omega | (simp only [kR, Value.category, kCat_q, List.map, List.sum_cons, List.sum_nil]; omega)) (by first | exact Nat.le_of_ble_eq_true rfl | omega | (simp only [kR, Value.category, kCat_q, List.map, List.sum_cons, List.sum_nil]; omega)) (by first | exact Nat.le_of_ble_eq_true rfl | omega | (simp only [kR, Value.category, kCat_q, List.map, List.sum_cons, List.sum_nil]; omega)) (fun _ hx => hx.elim) (fun v1289 s1289 hp1289 => ?_)
  rcases hp1289 with ⟨hg, e1, h9b, ⟨f1, hL1, hx1⟩, hfx⟩ | ⟨E, hg, e1, e2⟩
  · rw [e1]
    refine kK.rev (y := .int 0) rfl ?_
    have h10b := h10.keepX hfx hD (Or.inr rfl)
    have hL1b := hfx.l hL hD
    obtain ⟨fsm, hfm⟩ := h10b.o
    refine k_istore B dL_law_1292 (by decide) ?_
    try refine kK.set1 (by first | exact True.intro | rfl | exact kCat_q _) ?_
    refine k_aload_n B dL_law_1294 rfl (by first | exact kRf_r _ | exact kRf_q _ | exact kRf_n) ?_
    refine k_aload_n B dL_law_1295 rfl (by first | exact kRf_r _ | exact kRf_q _ | exact kRf_n) ?_
    refine k_iload B dL_law_1296 rfl ?_
    refine k_iconst B (v := 1) dL_law_1298 (by decide) ?_
    refine k_iadd B dL_law_1299 ?_
    refine kK.rei (y := nI (i + 1)) (nI_add i 1) ?_
    refine k_sld B hX hbl hbA (vp_in_nI (show i + 1 < N by omega) (by omega)) dL_law_1300 ?_
    refine kK.rei (y := xs (i + 1)) (by rw [nI_clamp (by omega)]) ?_
    refine cl_L_162 B (c_X10_age hl hs h10b) hfm dL_law_1301 (by first | exact Nat.le_of_ble_eq_true rfl | omega | (simp only [kR, Value.category, kCat_q, List.map, List.sum_cons, List.sum_nil]; omega)) (by first | exact Nat.le_of_ble_eq_true rfl | omega | (simp only [kR, Value.category, kCat_q, List.map, List.sum_cons, List.sum_nil]; omega)) (by first | exact Nat.le_of_ble_eq_true rfl | omega | (simp only [kR, Value.category, kCat_q, List.map, List.sum_cons, List.sum_nil]; omega)) (by first | exact Nat.le_of_ble_eq_true rfl | omega | (simp only [kR, Value.category, kCat_q, List.map, List.sum_cons, List.sum_nil]; omega)) (by first | exact Nat.le_of_ble_eq_true rfl | omega | (simp only [kR, Value.category, kCat_q, List.map, List.sum_cons, List.sum_nil]; omega)) (fun _ hx => hx.elim) (fun v1301 s1301 hp1301 => ?_)
    rcases hp1301 with ⟨⟨hg2, e3, h10c⟩ | ⟨E2, hg2, e3, h10c⟩, hfo⟩
    · rw [e3]
      refine kK.rev (y := .float (ageF z (cN (xs (i + 1))))) rfl ?_
      obtain ⟨mv1, kn1, Lk1, hm⟩ := id h10c
      refine k_fstore B dL_law_1304 (by decide) ?_
      try refine kK.set1 (by first | exact True.intro | rfl | exact kCat_q _) ?_
      refine k_aload_n B dL_law_1306 rfl (by first | exact kRf_r _ | exact kRf_q _ | exact kRf_n) ?_
      refine cl_L_101 B (c_X10_thrown hl hm.m) hm.o dL_law_1307 (by first | exact Nat.le_of_ble_eq_true rfl | omega | (simp only [kR, Value.category, kCat_q, List.map, List.sum_cons, List.sum_nil]; omega)) (by first | exact Nat.le_of_ble_eq_true rfl | omega | (simp only [kR, Value.category, kCat_q, List.map, List.sum_cons, List.sum_nil]; omega)) (by first | exact Nat.le_of_ble_eq_true rfl | omega | (simp only [kR, Value.category, kCat_q, List.map, List.sum_cons, List.sum_nil]; omega)) (by first | exact Nat.le_of_ble_eq_true rfl | omega | (simp only [kR, Value.category, kCat_q, List.map, List.sum_cons, List.sum_nil]; omega)) (by first | exact Nat.le_of_ble_eq_true rfl | omega | (simp only [kR, Value.category, kCat_q, List.map, List.sum_cons, List.sum_nil]; omega)) (fun _ hx => hx.elim) (fun v1307 s1307 hp1307 => ?_)
      obtain ⟨rfl, e5⟩ := hp1307
      rw [e5]
      refine kK.rev (y := .int 0) rfl ?_
      refine k_iload B dL_law_1310 rfl ?_
      refine k_icmp_eq B 1317 dL_law_1312 (by decide) (fun c1312 => ?_) (fun c1312 => ?_)
      · skip
        refine k_iload B dL_law_1317 rfl ?_
        refine k_if_ne B 1355 dL_law_1319 (by decide) (fun c1319 => ?_) (fun c1319 => ?_)
        · exact absurd rfl c1319
        · skip
          have hD2 := keepL h10b hfo hL1 (Or.inr rfl)
          have hL2 := keepL h10b hfo hL1b (Or.inl rfl)
          obtain ⟨i9, hi9, ei9⟩ := ix_of (n := sLn z) (by have := hs.2.2.2.1.1; omega) (gIx_i (show gIx (xs (i + 1)) (nI (sLn z)) none = none from hg)).1
          have hnn := age_nn hs (cN (xs (i + 1))) (by rw [ei9, cN_nI (by have := hs.2.2.2.1.1; omega)]; exact hi9)
          refine k_aload B dL_law_1322 rfl (by first | exact kRf_r _ | exact kRf_q _ | exact kRf_n) ?_
          refine k_iconst B (v := 0) dL_law_1324 (by decide) ?_
          refine k_dald B dL_law_1325 hD2 (vp_in_nI (n := 0) (N := 1) (by decide) (by decide)) ?_
          refine kK.rev (y := .double (FP.f2d (ageF z (cN (xs (i + 1)))))) (congrArg Value.double hx1) ?_
          refine k_fload B dL_law_1326 rfl ?_
          refine k_f2d B dL_law_1328 (nn_f2d hnn) ?_
          refine k_dcmp B dL_law_1329 ?_
          refine k_if_eq B 1355 dL_law_1330 (by decide) (fun c1330 => ?_) (fun c1330 => ?_)
          · skip
            refine k_goto B 1697 dL_law_1355 (by decide) ?_
            refine kK.sub (L2 := [some (.ref b), some (.ref aO), some (.ref aM), some (.ref aL), some (.ref aD), some (.int (nI i)), none, none, none]) ⟨Or.inr rfl, Or.inr rfl, Or.inr rfl, Or.inr rfl, Or.inr rfl, Or.inr rfl, Or.inl rfl, Or.inl rfl, Or.inl rfl, trivial⟩ ?_
            exact nxt _ _ _ ⟨z, J, F, 0, hs, hj, h9b.keepO h10b hfo, h10c, ⟨f0, hL2⟩, ⟨f1, hD2⟩, hc, by show k + 1 + 0 + 0 ≤ 200 + 31 * sNow z + 7 * (st + 1) + cnt F; omega, by show n + 6 + 0 + 0 ≤ 40000 + 164 * sNow z + 38 * (st + 1) + 3 * cnt F; omega⟩
          · exact absurd (dcmpS (nn_d hnn)) c1330
      · exact absurd rfl c1312
    · rw [hg] at hg2; cases hg2
  · rw [e1, e2]
    refine kK.rev (y := .int (tCd 1 1 1 E)) rfl ?_
    obtain ⟨fsm, hfm⟩ := h10.o
    refine k_istore B dL_law_1292 (by decide) ?_
    try refine kK.set1 (by first | exact True.intro | rfl | exact kCat_q _) ?_
    refine k_aload_n B dL_law_1294 rfl (by first | exact kRf_r _ | exact kRf_q _ | exact kRf_n) ?_
    refine k_aload_n B dL_law_1295 rfl (by first | exact kRf_r _ | exact kRf_q _ | exact kRf_n) ?_
    refine k_iload B dL_law_1296 rfl ?_
    refine k_iconst B (v := 1) dL_law_1298 (by decide) ?_
    refine k_iadd B dL_law_1299 ?_
    refine kK.rei (y := nI (i + 1)) (nI_add i 1) ?_
    refine k_sld B hX hbl hbA (vp_in_nI (show i + 1 < N by omega) (by omega)) dL_law_1300 ?_
    refine kK.rei (y := xs (i + 1)) (by rw [nI_clamp (by omega)]) ?_
    refine cl_L_162 B (c_X10_age hl hs h10) hfm dL_law_1301 (by first | exact Nat.le_of_ble_eq_true rfl | omega | (simp only [kR, Value.category, kCat_q, List.map, List.sum_cons, List.sum_nil]; omega)) (by first | exact Nat.le_of_ble_eq_true rfl | omega | (simp only [kR, Value.category, kCat_q, List.map, List.sum_cons, List.sum_nil]; omega)) (by first | exact Nat.le_of_ble_eq_true rfl | omega | (simp only [kR, Value.category, kCat_q, List.map, List.sum_cons, List.sum_nil]; omega)) (by first | exact Nat.le_of_ble_eq_true rfl | omega | (simp only [kR, Value.category, kCat_q, List.map, List.sum_cons, List.sum_nil]; omega)) (by first | exact Nat.le_of_ble_eq_true rfl | omega | (simp only [kR, Value.category, kCat_q, List.map, List.sum_cons, List.sum_nil]; omega)) (fun _ hx => hx.elim) (fun v1301 s1301 hp1301 => ?_)
    rcases hp1301 with ⟨⟨hg2, e3, h10c⟩ | ⟨E2, hg2, e3, h10c⟩, hfo⟩
    · rw [hg] at hg2; cases hg2
    · obtain rfl : E = E2 := Option.some.inj (hg.symm.trans hg2)
      obtain ⟨mv1, kn1, Lk1, hm⟩ := id h10c
      rw [e3]
      refine kK.rev (y := .float FP.fconst0) rfl ?_
      refine k_fstore B dL_law_1304 (by decide) ?_
      try refine kK.set1 (by first | exact True.intro | rfl | exact kCat_q _) ?_
      refine k_aload_n B dL_law_1306 rfl (by first | exact kRf_r _ | exact kRf_q _ | exact kRf_n) ?_
      refine cl_L_101 B (c_X10_thrown hl hm.m) hm.o dL_law_1307 (by first | exact Nat.le_of_ble_eq_true rfl | omega | (simp only [kR, Value.category, kCat_q, List.map, List.sum_cons, List.sum_nil]; omega)) (by first | exact Nat.le_of_ble_eq_true rfl | omega | (simp only [kR, Value.category, kCat_q, List.map, List.sum_cons, List.sum_nil]; omega)) (by first | exact Nat.le_of_ble_eq_true rfl | omega | (simp only [kR, Value.category, kCat_q, List.map, List.sum_cons, List.sum_nil]; omega)) (by first | exact Nat.le_of_ble_eq_true rfl | omega | (simp only [kR, Value.category, kCat_q, List.map, List.sum_cons, List.sum_nil]; omega)) (by first | exact Nat.le_of_ble_eq_true rfl | omega | (simp only [kR, Value.category, kCat_q, List.map, List.sum_cons, List.sum_nil]; omega)) (fun _ hx => hx.elim) (fun v1307 s1307 hp1307 => ?_)
      obtain ⟨rfl, e5⟩ := hp1307
      rw [e5]
      refine kK.rev (y := .int (tCd 1 1 1 E)) rfl ?_
      refine k_iload B dL_law_1310 rfl ?_
      refine k_icmp_eq B 1317 dL_law_1312 (by decide) (fun c1312 => ?_) (fun c1312 => ?_)
      · skip
        refine k_iload B dL_law_1317 rfl ?_
        refine k_if_ne B 1355 dL_law_1319 (by decide) (fun c1319 => ?_) (fun c1319 => ?_)
        · skip
          refine k_goto B 1697 dL_law_1355 (by decide) ?_
          refine kK.sub (L2 := [some (.ref b), some (.ref aO), some (.ref aM), some (.ref aL), some (.ref aD), some (.int (nI i)), none, none, none]) ⟨Or.inr rfl, Or.inr rfl, Or.inr rfl, Or.inr rfl, Or.inr rfl, Or.inr rfl, Or.inl rfl, Or.inl rfl, Or.inl rfl, trivial⟩ ?_
          exact nxt _ _ _ ⟨z, J, F, _, hs, hj, h9.keepO h10 hfo, h10c, ⟨f0, keepL h10 hfo hL (Or.inl rfl)⟩, ⟨g0, keepL h10 hfo hD (Or.inr rfl)⟩, hc, by show k + 1 + 0 + 0 ≤ 200 + 31 * sNow z + 7 * (st + 1) + cnt F; omega, by show n + 6 + 0 + 0 ≤ 40000 + 164 * sNow z + 38 * (st + 1) + 3 * cnt F; omega⟩
        · exact absurd c1319 (tCd_ne (by decide) (by decide) (by decide))
      · exact absurd rfl c1312
set_option maxHeartbeats 1000000 in
set_option maxRecDepth 100000 in
theorem law_best (B : kB p l s m args meth c D A 9 cL_law RL) (hl : l.stackTraces = false) (hX : va_X b N xs s s.heap) (hbl : b < s.heap.size) (hbA : ¬ A b) (hrc : 20000 ≤ room_1.cells) (hrs : 200000 ≤ room_1.slots) (hN : N ≤ 2048) (hi : i + 4 ≤ N) (hst : st ≤ 512) (hI : lI D aO aM aL aD ma st k n σ) (nxt : ∀ (σ2 : kS) (k2 n2 : Nat), lI D aO aM aL aD ma (st + 1) k2 n2 σ2 → kK p l e room_1 s m args below meth c D A 9 Q σ2 k2 n2 1697 [some (.ref b), some (.ref aO), some (.ref aM), some (.ref aL), some (.ref aD), some (.int (nI i)), none, none, none] []) : kK p l e room_1 s m args below meth c D A 9 Q σ k n 1358 [some (.ref b), some (.ref aO), some (.ref aM), some (.ref aL), some (.ref aD), some (.int (nI i)), none, none, none] [] := by
  obtain ⟨z, J, F, t, hs, hj, h9, h10, ⟨f0, hL⟩, ⟨g0, hD⟩, hc, hk, hn⟩ := hI
  have hn3 := hs.1.1
  obtain ⟨fs9, hf9⟩ := h9.fs
  obtain ⟨fs10, hf10⟩ := h10.o
  refine k_aload_n B dL_law_1358 rfl (by first | exact kRf_r _ | exact kRf_q _ | exact kRf_n) ?_
  refine k_aload_n B dL_law_1359 rfl (by first | exact kRf_r _ | exact kRf_q _ | exact kRf_n) ?_
  refine k_iload B dL_law_1360 rfl ?_
  refine k_iconst B (v := 1) dL_law_1362 (by decide) ?_
  refine k_iadd B dL_law_1363 ?_
  refine kK.rei (y := nI (i + 1)) (nI_add i 1) ?_
  refine k_sld B hX hbl hbA (vp_in_nI (show i + 1 < N by omega) (by omega)) dL_law_1364 ?_
  refine kK.rei (y := xs (i + 1)) (by rw [nI_clamp (by omega)]) ?_
  refine k_aload_n B dL_law_1365 rfl (by first | exact kRf_r _ | exact kRf_q _ | exact kRf_n) ?_
  refine cl_L_163 B (c_L_best hl hs h9 hL) dL_law_1366 (by first | exact Nat.le_of_ble_eq_true rfl | omega | (simp only [kR, Value.category, kCat_q, List.map, List.sum_cons, List.sum_nil]; omega)) (by first | exact Nat.le_of_ble_eq_true rfl | omega | (simp only [kR, Value.category, kCat_q, List.map, List.sum_cons, List.sum_nil]; omega)) (by first | exact Nat.le_of_ble_eq_true rfl | omega | (simp only [kR, Value.category, kCat_q, List.map, List.sum_cons, List.sum_nil]; omega)) (by first | exact Nat.le_of_ble_eq_true rfl | omega | (simp only [kR, Value.category, kCat_q, List.map, List.sum_cons, List.sum_nil]; omega)) (by first | exact Nat.le_of_ble_eq_true rfl | omega | (simp only [kR, Value.category, kCat_q, List.map, List.sum_cons, List.sum_nil]; omega)) (fun _ hx => hx.elim) (fun v1366 s1366 hp1366 => ?_)
  rcases hp1366 with ⟨hg, e1, h9b, ⟨f1, hL1, hx1⟩, hfx⟩ | ⟨E, hg, e1, e2⟩
  · rw [e1]
    refine kK.rev (y := .int 0) rfl ?_
    have h10b := h10.keepX hfx hL (Or.inl rfl)
    have hD1b := hfx.d hL hD
    obtain ⟨fsm, hfm⟩ := h10b.o
    refine k_istore B dL_law_1369 (by decide) ?_
    try refine kK.set1 (by first | exact True.intro | rfl | exact kCat_q _) ?_
    refine k_aload_n B dL_law_1371 rfl (by first | exact kRf_r _ | exact kRf_q _ | exact kRf_n) ?_
    refine k_aload_n B dL_law_1372 rfl (by first | exact kRf_r _ | exact kRf_q _ | exact kRf_n) ?_
    refine k_iload B dL_law_1373 rfl ?_
    refine k_iconst B (v := 1) dL_law_1375 (by decide) ?_
    refine k_iadd B dL_law_1376 ?_
    refine kK.rei (y := nI (i + 1)) (nI_add i 1) ?_
    refine k_sld B hX hbl hbA (vp_in_nI (show i + 1 < N by omega) (by omega)) dL_law_1377 ?_
    refine kK.rei (y := xs (i + 1)) (by rw [nI_clamp (by omega)]) ?_
    refine cl_L_165 B (c_X10_best hl hs h10b) hfm dL_law_1378 (by first | exact Nat.le_of_ble_eq_true rfl | omega | (simp only [kR, Value.category, kCat_q, List.map, List.sum_cons, List.sum_nil]; omega)) (by first | exact Nat.le_of_ble_eq_true rfl | omega | (simp only [kR, Value.category, kCat_q, List.map, List.sum_cons, List.sum_nil]; omega)) (by first | exact Nat.le_of_ble_eq_true rfl | omega | (simp only [kR, Value.category, kCat_q, List.map, List.sum_cons, List.sum_nil]; omega)) (by first | exact Nat.le_of_ble_eq_true rfl | omega | (simp only [kR, Value.category, kCat_q, List.map, List.sum_cons, List.sum_nil]; omega)) (by first | exact Nat.le_of_ble_eq_true rfl | omega | (simp only [kR, Value.category, kCat_q, List.map, List.sum_cons, List.sum_nil]; omega)) (fun _ hx => hx.elim) (fun v1378 s1378 hp1378 => ?_)
    rcases hp1378 with ⟨⟨hg2, e3, h10c⟩ | ⟨E2, hg2, e3, h10c⟩, hfo⟩
    · rw [e3]
      refine kK.rev (y := .int (rBest z (xs (i + 1)))) rfl ?_
      obtain ⟨mv1, kn1, Lk1, hm⟩ := id h10c
      refine k_istore B dL_law_1381 (by decide) ?_
      try refine kK.set1 (by first | exact True.intro | rfl | exact kCat_q _) ?_
      refine k_aload_n B dL_law_1383 rfl (by first | exact kRf_r _ | exact kRf_q _ | exact kRf_n) ?_
      refine cl_L_101 B (c_X10_thrown hl hm.m) hm.o dL_law_1384 (by first | exact Nat.le_of_ble_eq_true rfl | omega | (simp only [kR, Value.category, kCat_q, List.map, List.sum_cons, List.sum_nil]; omega)) (by first | exact Nat.le_of_ble_eq_true rfl | omega | (simp only [kR, Value.category, kCat_q, List.map, List.sum_cons, List.sum_nil]; omega)) (by first | exact Nat.le_of_ble_eq_true rfl | omega | (simp only [kR, Value.category, kCat_q, List.map, List.sum_cons, List.sum_nil]; omega)) (by first | exact Nat.le_of_ble_eq_true rfl | omega | (simp only [kR, Value.category, kCat_q, List.map, List.sum_cons, List.sum_nil]; omega)) (by first | exact Nat.le_of_ble_eq_true rfl | omega | (simp only [kR, Value.category, kCat_q, List.map, List.sum_cons, List.sum_nil]; omega)) (fun _ hx => hx.elim) (fun v1384 s1384 hp1384 => ?_)
      obtain ⟨rfl, e5⟩ := hp1384
      rw [e5]
      refine kK.rev (y := .int 0) rfl ?_
      refine k_iload B dL_law_1387 rfl ?_
      refine k_icmp_eq B 1394 dL_law_1389 (by decide) (fun c1389 => ?_) (fun c1389 => ?_)
      · skip
        refine k_iload B dL_law_1394 rfl ?_
        refine k_if_ne B 1411 dL_law_1396 (by decide) (fun c1396 => ?_) (fun c1396 => ?_)
        · exact absurd rfl c1396
        · skip
          have hL2 := keepL h10b hfo hL1 (Or.inl rfl)
          have hD2 := keepL h10b hfo hD1b (Or.inr rfl)
          refine k_aload_n B dL_law_1399 rfl (by first | exact kRf_r _ | exact kRf_q _ | exact kRf_n) ?_
          refine k_iconst B (v := 0) dL_law_1400 (by decide) ?_
          refine k_lald B dL_law_1401 hL2 (vp_in_nI (n := 0) (N := 1) (by decide) (by decide)) ?_
          refine kK.rel (y := (rBest z (xs (i + 1))).toInt64) hx1 ?_
          refine k_iload B dL_law_1402 rfl ?_
          refine k_i2l B dL_law_1404 ?_
          refine k_lcmp B dL_law_1405 ?_
          refine k_if_eq B 1411 dL_law_1406 (by decide) (fun c1406 => ?_) (fun c1406 => ?_)
          · skip
            refine k_goto B 1697 dL_law_1411 (by decide) ?_
            refine kK.sub (L2 := [some (.ref b), some (.ref aO), some (.ref aM), some (.ref aL), some (.ref aD), some (.int (nI i)), none, none, none]) ⟨Or.inr rfl, Or.inr rfl, Or.inr rfl, Or.inr rfl, Or.inr rfl, Or.inr rfl, Or.inl rfl, Or.inl rfl, Or.inl rfl, trivial⟩ ?_
            exact nxt _ _ _ ⟨z, J, F, 0, hs, hj, h9b.keepO h10b hfo, h10c, ⟨f1, hL2⟩, ⟨g0, hD2⟩, hc, by show k + 1 + 0 + 0 ≤ 200 + 31 * sNow z + 7 * (st + 1) + cnt F; omega, by show n + 6 + 0 + 0 ≤ 40000 + 164 * sNow z + 38 * (st + 1) + 3 * cnt F; omega⟩
          · exact absurd ((lg_cmp_eq _ _).mpr rfl) c1406
      · exact absurd rfl c1389
    · rw [hg] at hg2; cases hg2
  · rw [e1, e2]
    refine kK.rev (y := .int (tCd 1 1 1 E)) rfl ?_
    obtain ⟨fsm, hfm⟩ := h10.o
    refine k_istore B dL_law_1369 (by decide) ?_
    try refine kK.set1 (by first | exact True.intro | rfl | exact kCat_q _) ?_
    refine k_aload_n B dL_law_1371 rfl (by first | exact kRf_r _ | exact kRf_q _ | exact kRf_n) ?_
    refine k_aload_n B dL_law_1372 rfl (by first | exact kRf_r _ | exact kRf_q _ | exact kRf_n) ?_
    refine k_iload B dL_law_1373 rfl ?_
    refine k_iconst B (v := 1) dL_law_1375 (by decide) ?_
    refine k_iadd B dL_law_1376 ?_
    refine kK.rei (y := nI (i + 1)) (nI_add i 1) ?_
    refine k_sld B hX hbl hbA (vp_in_nI (show i + 1 < N by omega) (by omega)) dL_law_1377 ?_
    refine kK.rei (y := xs (i + 1)) (by rw [nI_clamp (by omega)]) ?_
    refine cl_L_165 B (c_X10_best hl hs h10) hfm dL_law_1378 (by first | exact Nat.le_of_ble_eq_true rfl | omega | (simp only [kR, Value.category, kCat_q, List.map, List.sum_cons, List.sum_nil]; omega)) (by first | exact Nat.le_of_ble_eq_true rfl | omega | (simp only [kR, Value.category, kCat_q, List.map, List.sum_cons, List.sum_nil]; omega)) (by first | exact Nat.le_of_ble_eq_true rfl | omega | (simp only [kR, Value.category, kCat_q, List.map, List.sum_cons, List.sum_nil]; omega)) (by first | exact Nat.le_of_ble_eq_true rfl | omega | (simp only [kR, Value.category, kCat_q, List.map, List.sum_cons, List.sum_nil]; omega)) (by first | exact Nat.le_of_ble_eq_true rfl | omega | (simp only [kR, Value.category, kCat_q, List.map, List.sum_cons, List.sum_nil]; omega)) (fun _ hx => hx.elim) (fun v1378 s1378 hp1378 => ?_)
    rcases hp1378 with ⟨⟨hg2, e3, h10c⟩ | ⟨E2, hg2, e3, h10c⟩, hfo⟩
    · rw [hg] at hg2; cases hg2
    · obtain rfl : E = E2 := Option.some.inj (hg.symm.trans hg2)
      obtain ⟨mv1, kn1, Lk1, hm⟩ := id h10c
      rw [e3]
      refine kK.rev (y := .int 0) rfl ?_
      refine k_istore B dL_law_1381 (by decide) ?_
      try refine kK.set1 (by first | exact True.intro | rfl | exact kCat_q _) ?_
      refine k_aload_n B dL_law_1383 rfl (by first | exact kRf_r _ | exact kRf_q _ | exact kRf_n) ?_
      refine cl_L_101 B (c_X10_thrown hl hm.m) hm.o dL_law_1384 (by first | exact Nat.le_of_ble_eq_true rfl | omega | (simp only [kR, Value.category, kCat_q, List.map, List.sum_cons, List.sum_nil]; omega)) (by first | exact Nat.le_of_ble_eq_true rfl | omega | (simp only [kR, Value.category, kCat_q, List.map, List.sum_cons, List.sum_nil]; omega)) (by first | exact Nat.le_of_ble_eq_true rfl | omega | (simp only [kR, Value.category, kCat_q, List.map, List.sum_cons, List.sum_nil]; omega)) (by first | exact Nat.le_of_ble_eq_true rfl | omega | (simp only [kR, Value.category, kCat_q, List.map, List.sum_cons, List.sum_nil]; omega)) (by first | exact Nat.le_of_ble_eq_true rfl | omega | (simp only [kR, Value.category, kCat_q, List.map, List.sum_cons, List.sum_nil]; omega)) (fun _ hx => hx.elim) (fun v1384 s1384 hp1384 => ?_)
      obtain ⟨rfl, e5⟩ := hp1384
      rw [e5]
      refine kK.rev (y := .int (tCd 1 1 1 E)) rfl ?_
      refine k_iload B dL_law_1387 rfl ?_
      refine k_icmp_eq B 1394 dL_law_1389 (by decide) (fun c1389 => ?_) (fun c1389 => ?_)
      · skip
        refine k_iload B dL_law_1394 rfl ?_
        refine k_if_ne B 1411 dL_law_1396 (by decide) (fun c1396 => ?_) (fun c1396 => ?_)
        · skip
          refine k_goto B 1697 dL_law_1411 (by decide) ?_
          refine kK.sub (L2 := [some (.ref b), some (.ref aO), some (.ref aM), some (.ref aL), some (.ref aD), some (.int (nI i)), none, none, none]) ⟨Or.inr rfl, Or.inr rfl, Or.inr rfl, Or.inr rfl, Or.inr rfl, Or.inr rfl, Or.inl rfl, Or.inl rfl, Or.inl rfl, trivial⟩ ?_
          exact nxt _ _ _ ⟨z, J, F, _, hs, hj, h9.keepO h10 hfo, h10c, ⟨f0, keepL h10 hfo hL (Or.inl rfl)⟩, ⟨g0, keepL h10 hfo hD (Or.inr rfl)⟩, hc, by show k + 1 + 0 + 0 ≤ 200 + 31 * sNow z + 7 * (st + 1) + cnt F; omega, by show n + 6 + 0 + 0 ≤ 40000 + 164 * sNow z + 38 * (st + 1) + 3 * cnt F; omega⟩
        · exact absurd c1396 (tCd_ne (by decide) (by decide) (by decide))
      · exact absurd rfl c1389
end Law4
