section Law0
variable {p : Program} {l : Launch} {e : Env} {s : State} {m : MethodId} {args : Array Value} {below : List Frame} {meth : Method} {c : Code} {D : va_G} {A : Nat → Prop} {Q : State → Prop} {σ : kS} {aO aM aL aD b N i st k n : Nat} {ma : Nat → Nat} {xs : Nat → Int32}
set_option maxHeartbeats 1000000 in
set_option maxRecDepth 100000 in
theorem law_rock (B : kB p l s m args meth c D A 9 cL_law RL) (hl : l.stackTraces = false) (hX : va_X b N xs s s.heap) (hbl : b < s.heap.size) (hbA : ¬ A b) (hrc : 20000 ≤ room_1.cells) (hrs : 200000 ≤ room_1.slots) (hN : N ≤ 2048) (hi : i + 4 ≤ N) (hst : st ≤ 512) (hI : lI D aO aM aL aD ma st k n σ) (nxt : ∀ (σ2 : kS) (k2 n2 : Nat), lI D aO aM aL aD ma (st + 1) k2 n2 σ2 → kK p l e room_1 s m args below meth c D A 9 Q σ2 k2 n2 1697 [some (.ref b), some (.ref aO), some (.ref aM), some (.ref aL), some (.ref aD), some (.int (nI i)), none, none, none] []) : kK p l e room_1 s m args below meth c D A 9 Q σ k n 156 [some (.ref b), some (.ref aO), some (.ref aM), some (.ref aL), some (.ref aD), some (.int (nI i)), none, none, none] [] := by
  obtain ⟨z, J, F, t, hs, hj, h9, h10, ⟨f0, hL⟩, ⟨g0, hD⟩, hc, hk, hn⟩ := hI
  have hn3 := hs.1.1
  obtain ⟨fs9, hf9⟩ := h9.fs
  obtain ⟨fs10, hf10⟩ := h10.o
  refine k_aload_n B dL_law_156 rfl (by first | exact kRf_r _ | exact kRf_q _ | exact kRf_n) ?_
  refine k_aload_n B dL_law_157 rfl (by first | exact kRf_r _ | exact kRf_q _ | exact kRf_n) ?_
  refine k_iload B dL_law_158 rfl ?_
  refine k_iconst B (v := 1) dL_law_160 (by decide) ?_
  refine k_iadd B dL_law_161 ?_
  refine kK.rei (y := nI (i + 1)) (nI_add i 1) ?_
  refine k_sld B hX hbl hbA (vp_in_nI (show i + 1 < N by omega) (by omega)) dL_law_162 ?_
  refine kK.rei (y := xs (i + 1)) (by rw [nI_clamp (by omega)]) ?_
  refine k_aload_n B dL_law_163 rfl (by first | exact kRf_r _ | exact kRf_q _ | exact kRf_n) ?_
  refine k_iload B dL_law_164 rfl ?_
  refine k_iconst B (v := 2) dL_law_166 (by decide) ?_
  refine k_iadd B dL_law_167 ?_
  refine kK.rei (y := nI (i + 2)) (nI_add i 2) ?_
  refine k_sld B hX hbl hbA (vp_in_nI (show i + 2 < N by omega) (by omega)) dL_law_168 ?_
  refine kK.rei (y := xs (i + 2)) (by rw [nI_clamp (by omega)]) ?_
  refine k_aload_n B dL_law_169 rfl (by first | exact kRf_r _ | exact kRf_q _ | exact kRf_n) ?_
  refine cl_L_95 B (c_L_rock hl hs h9 hL) dL_law_170 (by first | exact Nat.le_of_ble_eq_true rfl | omega | (simp only [kR, Value.category, kCat_q, List.map, List.sum_cons, List.sum_nil]; omega)) (by first | exact Nat.le_of_ble_eq_true rfl | omega | (simp only [kR, Value.category, kCat_q, List.map, List.sum_cons, List.sum_nil]; omega)) (by first | exact Nat.le_of_ble_eq_true rfl | omega | (simp only [kR, Value.category, kCat_q, List.map, List.sum_cons, List.sum_nil]; omega)) (by first | exact Nat.le_of_ble_eq_true rfl | omega | (simp only [kR, Value.category, kCat_q, List.map, List.sum_cons, List.sum_nil]; omega)) (by first | exact Nat.le_of_ble_eq_true rfl | omega | (simp only [kR, Value.category, kCat_q, List.map, List.sum_cons, List.sum_nil]; omega)) (fun _ hx => hx.elim) (fun v170 s170 hp170 => ?_)
  rcases hp170 with ⟨hg, e1, h9b, ⟨f1, hL1, hx1⟩, hfx⟩ | ⟨E, hg, e1, e2⟩
  · rw [e1]
    refine kK.rev (y := .int 0) rfl ?_
    have h10b := h10.keepX hfx hL (Or.inl rfl)
    have hD1b := hfx.d hL hD
    obtain ⟨fsm, hfm⟩ := h10b.o
    refine k_istore B dL_law_173 (by decide) ?_
    try refine kK.set1 (by first | exact True.intro | rfl | exact kCat_q _) ?_
    refine k_aload_n B dL_law_175 rfl (by first | exact kRf_r _ | exact kRf_q _ | exact kRf_n) ?_
    refine k_aload_n B dL_law_176 rfl (by first | exact kRf_r _ | exact kRf_q _ | exact kRf_n) ?_
    refine k_iload B dL_law_177 rfl ?_
    refine k_iconst B (v := 1) dL_law_179 (by decide) ?_
    refine k_iadd B dL_law_180 ?_
    refine kK.rei (y := nI (i + 1)) (nI_add i 1) ?_
    refine k_sld B hX hbl hbA (vp_in_nI (show i + 1 < N by omega) (by omega)) dL_law_181 ?_
    refine kK.rei (y := xs (i + 1)) (by rw [nI_clamp (by omega)]) ?_
    refine k_aload_n B dL_law_182 rfl (by first | exact kRf_r _ | exact kRf_q _ | exact kRf_n) ?_
    refine k_iload B dL_law_183 rfl ?_
    refine k_iconst B (v := 2) dL_law_185 (by decide) ?_
    refine k_iadd B dL_law_186 ?_
    refine kK.rei (y := nI (i + 2)) (nI_add i 2) ?_
    refine k_sld B hX hbl hbA (vp_in_nI (show i + 2 < N by omega) (by omega)) dL_law_187 ?_
    refine kK.rei (y := xs (i + 2)) (by rw [nI_clamp (by omega)]) ?_
    refine cl_L_100 B (c_X10_rock hl h10b) hfm dL_law_188 (by first | exact Nat.le_of_ble_eq_true rfl | omega | (simp only [kR, Value.category, kCat_q, List.map, List.sum_cons, List.sum_nil]; omega)) (by first | exact Nat.le_of_ble_eq_true rfl | omega | (simp only [kR, Value.category, kCat_q, List.map, List.sum_cons, List.sum_nil]; omega)) (by first | exact Nat.le_of_ble_eq_true rfl | omega | (simp only [kR, Value.category, kCat_q, List.map, List.sum_cons, List.sum_nil]; omega)) (by first | exact Nat.le_of_ble_eq_true rfl | omega | (simp only [kR, Value.category, kCat_q, List.map, List.sum_cons, List.sum_nil]; omega)) (by first | exact Nat.le_of_ble_eq_true rfl | omega | (simp only [kR, Value.category, kCat_q, List.map, List.sum_cons, List.sum_nil]; omega)) (fun _ hx => hx.elim) (fun v188 s188 hp188 => ?_)
    rcases hp188 with ⟨⟨hg2, e3, h10c⟩ | ⟨E2, hg2, e3, h10c⟩, hfo⟩
    · rw [e3]
      refine kK.rev (y := .int (rRock z (xs (i + 1)))) rfl ?_
      obtain ⟨mv1, kn1, Lk1, hm⟩ := id h10c
      refine k_istore B dL_law_191 (by decide) ?_
      try refine kK.set1 (by first | exact True.intro | rfl | exact kCat_q _) ?_
      refine k_aload_n B dL_law_193 rfl (by first | exact kRf_r _ | exact kRf_q _ | exact kRf_n) ?_
      refine cl_L_101 B (c_X10_thrown hl hm.m) hm.o dL_law_194 (by first | exact Nat.le_of_ble_eq_true rfl | omega | (simp only [kR, Value.category, kCat_q, List.map, List.sum_cons, List.sum_nil]; omega)) (by first | exact Nat.le_of_ble_eq_true rfl | omega | (simp only [kR, Value.category, kCat_q, List.map, List.sum_cons, List.sum_nil]; omega)) (by first | exact Nat.le_of_ble_eq_true rfl | omega | (simp only [kR, Value.category, kCat_q, List.map, List.sum_cons, List.sum_nil]; omega)) (by first | exact Nat.le_of_ble_eq_true rfl | omega | (simp only [kR, Value.category, kCat_q, List.map, List.sum_cons, List.sum_nil]; omega)) (by first | exact Nat.le_of_ble_eq_true rfl | omega | (simp only [kR, Value.category, kCat_q, List.map, List.sum_cons, List.sum_nil]; omega)) (fun _ hx => hx.elim) (fun v194 s194 hp194 => ?_)
      obtain ⟨rfl, e5⟩ := hp194
      rw [e5]
      refine kK.rev (y := .int 0) rfl ?_
      refine k_iload B dL_law_197 rfl ?_
      refine k_icmp_eq B 204 dL_law_199 (by decide) (fun c199 => ?_) (fun c199 => ?_)
      · skip
        refine k_iload B dL_law_204 rfl ?_
        refine k_if_ne B 221 dL_law_206 (by decide) (fun c206 => ?_) (fun c206 => ?_)
        · exact absurd rfl c206
        · skip
          have hL2 := keepL h10b hfo hL1 (Or.inl rfl)
          have hD2 := keepL h10b hfo hD1b (Or.inr rfl)
          refine k_aload_n B dL_law_209 rfl (by first | exact kRf_r _ | exact kRf_q _ | exact kRf_n) ?_
          refine k_iconst B (v := 0) dL_law_210 (by decide) ?_
          refine k_lald B dL_law_211 hL2 (vp_in_nI (n := 0) (N := 1) (by decide) (by decide)) ?_
          refine kK.rel (y := (rRock z (xs (i + 1))).toInt64) hx1 ?_
          refine k_iload B dL_law_212 rfl ?_
          refine k_i2l B dL_law_214 ?_
          refine k_lcmp B dL_law_215 ?_
          refine k_if_eq B 221 dL_law_216 (by decide) (fun c216 => ?_) (fun c216 => ?_)
          · skip
            refine k_goto B 1697 dL_law_221 (by decide) ?_
            refine kK.sub (L2 := [some (.ref b), some (.ref aO), some (.ref aM), some (.ref aL), some (.ref aD), some (.int (nI i)), none, none, none]) ⟨Or.inr rfl, Or.inr rfl, Or.inr rfl, Or.inr rfl, Or.inr rfl, Or.inr rfl, Or.inl rfl, Or.inl rfl, Or.inl rfl, trivial⟩ ?_
            exact nxt _ _ _ ⟨nRock z (xs (i + 1)) (xs (i + 2)), J, F, 0, (ok_rock hs hg), (jR_same hj rfl rfl rfl), h9b.keepO h10b hfo, h10c, ⟨f1, hL2⟩, ⟨g0, hD2⟩, hc, by show k + 2 + 0 + 0 ≤ 200 + 31 * sNow z + 7 * (st + 1) + cnt F; omega, by show n + 12 + 0 + 0 ≤ 40000 + 164 * sNow z + 38 * (st + 1) + 3 * cnt F; omega⟩
          · exact absurd ((lg_cmp_eq _ _).mpr rfl) c216
      · exact absurd rfl c199
    · rw [hg] at hg2; cases hg2
  · rw [e1, e2]
    refine kK.rev (y := .int (tCd 1 2 3 E)) rfl ?_
    obtain ⟨fsm, hfm⟩ := h10.o
    refine k_istore B dL_law_173 (by decide) ?_
    try refine kK.set1 (by first | exact True.intro | rfl | exact kCat_q _) ?_
    refine k_aload_n B dL_law_175 rfl (by first | exact kRf_r _ | exact kRf_q _ | exact kRf_n) ?_
    refine k_aload_n B dL_law_176 rfl (by first | exact kRf_r _ | exact kRf_q _ | exact kRf_n) ?_
    refine k_iload B dL_law_177 rfl ?_
    refine k_iconst B (v := 1) dL_law_179 (by decide) ?_
    refine k_iadd B dL_law_180 ?_
    refine kK.rei (y := nI (i + 1)) (nI_add i 1) ?_
    refine k_sld B hX hbl hbA (vp_in_nI (show i + 1 < N by omega) (by omega)) dL_law_181 ?_
    refine kK.rei (y := xs (i + 1)) (by rw [nI_clamp (by omega)]) ?_
    refine k_aload_n B dL_law_182 rfl (by first | exact kRf_r _ | exact kRf_q _ | exact kRf_n) ?_
    refine k_iload B dL_law_183 rfl ?_
    refine k_iconst B (v := 2) dL_law_185 (by decide) ?_
    refine k_iadd B dL_law_186 ?_
    refine kK.rei (y := nI (i + 2)) (nI_add i 2) ?_
    refine k_sld B hX hbl hbA (vp_in_nI (show i + 2 < N by omega) (by omega)) dL_law_187 ?_
    refine kK.rei (y := xs (i + 2)) (by rw [nI_clamp (by omega)]) ?_
    refine cl_L_100 B (c_X10_rock hl h10) hfm dL_law_188 (by first | exact Nat.le_of_ble_eq_true rfl | omega | (simp only [kR, Value.category, kCat_q, List.map, List.sum_cons, List.sum_nil]; omega)) (by first | exact Nat.le_of_ble_eq_true rfl | omega | (simp only [kR, Value.category, kCat_q, List.map, List.sum_cons, List.sum_nil]; omega)) (by first | exact Nat.le_of_ble_eq_true rfl | omega | (simp only [kR, Value.category, kCat_q, List.map, List.sum_cons, List.sum_nil]; omega)) (by first | exact Nat.le_of_ble_eq_true rfl | omega | (simp only [kR, Value.category, kCat_q, List.map, List.sum_cons, List.sum_nil]; omega)) (by first | exact Nat.le_of_ble_eq_true rfl | omega | (simp only [kR, Value.category, kCat_q, List.map, List.sum_cons, List.sum_nil]; omega)) (fun _ hx => hx.elim) (fun v188 s188 hp188 => ?_)
    rcases hp188 with ⟨⟨hg2, e3, h10c⟩ | ⟨E2, hg2, e3, h10c⟩, hfo⟩
    · rw [hg] at hg2; cases hg2
    · obtain rfl : E = E2 := Option.some.inj (hg.symm.trans hg2)
      obtain ⟨mv1, kn1, Lk1, hm⟩ := id h10c
      rw [e3]
      refine kK.rev (y := .int 0) rfl ?_
      refine k_istore B dL_law_191 (by decide) ?_
      try refine kK.set1 (by first | exact True.intro | rfl | exact kCat_q _) ?_
      refine k_aload_n B dL_law_193 rfl (by first | exact kRf_r _ | exact kRf_q _ | exact kRf_n) ?_
      refine cl_L_101 B (c_X10_thrown hl hm.m) hm.o dL_law_194 (by first | exact Nat.le_of_ble_eq_true rfl | omega | (simp only [kR, Value.category, kCat_q, List.map, List.sum_cons, List.sum_nil]; omega)) (by first | exact Nat.le_of_ble_eq_true rfl | omega | (simp only [kR, Value.category, kCat_q, List.map, List.sum_cons, List.sum_nil]; omega)) (by first | exact Nat.le_of_ble_eq_true rfl | omega | (simp only [kR, Value.category, kCat_q, List.map, List.sum_cons, List.sum_nil]; omega)) (by first | exact Nat.le_of_ble_eq_true rfl | omega | (simp only [kR, Value.category, kCat_q, List.map, List.sum_cons, List.sum_nil]; omega)) (by first | exact Nat.le_of_ble_eq_true rfl | omega | (simp only [kR, Value.category, kCat_q, List.map, List.sum_cons, List.sum_nil]; omega)) (fun _ hx => hx.elim) (fun v194 s194 hp194 => ?_)
      obtain ⟨rfl, e5⟩ := hp194
      rw [e5]
      refine kK.rev (y := .int (tCd 1 2 3 E)) rfl ?_
      refine k_iload B dL_law_197 rfl ?_
      refine k_icmp_eq B 204 dL_law_199 (by decide) (fun c199 => ?_) (fun c199 => ?_)
      · skip
        refine k_iload B dL_law_204 rfl ?_
        refine k_if_ne B 221 dL_law_206 (by decide) (fun c206 => ?_) (fun c206 => ?_)
        · skip
          refine k_goto B 1697 dL_law_221 (by decide) ?_
          refine kK.sub (L2 := [some (.ref b), some (.ref aO), some (.ref aM), some (.ref aL), some (.ref aD), some (.int (nI i)), none, none, none]) ⟨Or.inr rfl, Or.inr rfl, Or.inr rfl, Or.inr rfl, Or.inr rfl, Or.inr rfl, Or.inl rfl, Or.inl rfl, Or.inl rfl, trivial⟩ ?_
          exact nxt _ _ _ ⟨z, J, F, _, hs, hj, h9.keepO h10 hfo, h10c, ⟨f0, keepL h10 hfo hL (Or.inl rfl)⟩, ⟨g0, keepL h10 hfo hD (Or.inr rfl)⟩, hc, by show k + 2 + 0 + 0 ≤ 200 + 31 * sNow z + 7 * (st + 1) + cnt F; omega, by show n + 12 + 0 + 0 ≤ 40000 + 164 * sNow z + 38 * (st + 1) + 3 * cnt F; omega⟩
        · exact absurd c206 (tCd_ne (by decide) (by decide) (by decide))
      · exact absurd rfl c199
set_option maxHeartbeats 1000000 in
set_option maxRecDepth 100000 in
theorem law_land (B : kB p l s m args meth c D A 9 cL_law RL) (hl : l.stackTraces = false) (hX : va_X b N xs s s.heap) (hbl : b < s.heap.size) (hbA : ¬ A b) (hrc : 20000 ≤ room_1.cells) (hrs : 200000 ≤ room_1.slots) (hN : N ≤ 2048) (hi : i + 4 ≤ N) (hst : st ≤ 512) (hI : lI D aO aM aL aD ma st k n σ) (nxt : ∀ (σ2 : kS) (k2 n2 : Nat), lI D aO aM aL aD ma (st + 1) k2 n2 σ2 → kK p l e room_1 s m args below meth c D A 9 Q σ2 k2 n2 1697 [some (.ref b), some (.ref aO), some (.ref aM), some (.ref aL), some (.ref aD), some (.int (nI i)), none, none, none] []) : kK p l e room_1 s m args below meth c D A 9 Q σ k n 224 [some (.ref b), some (.ref aO), some (.ref aM), some (.ref aL), some (.ref aD), some (.int (nI i)), none, none, none] [] := by
  obtain ⟨z, J, F, t, hs, hj, h9, h10, ⟨f0, hL⟩, ⟨g0, hD⟩, hc, hk, hn⟩ := hI
  have hn3 := hs.1.1
  obtain ⟨fs9, hf9⟩ := h9.fs
  obtain ⟨fs10, hf10⟩ := h10.o
  refine k_aload_n B dL_law_224 rfl (by first | exact kRf_r _ | exact kRf_q _ | exact kRf_n) ?_
  refine k_aload_n B dL_law_225 rfl (by first | exact kRf_r _ | exact kRf_q _ | exact kRf_n) ?_
  refine k_iload B dL_law_226 rfl ?_
  refine k_iconst B (v := 1) dL_law_228 (by decide) ?_
  refine k_iadd B dL_law_229 ?_
  refine kK.rei (y := nI (i + 1)) (nI_add i 1) ?_
  refine k_sld B hX hbl hbA (vp_in_nI (show i + 1 < N by omega) (by omega)) dL_law_230 ?_
  refine kK.rei (y := xs (i + 1)) (by rw [nI_clamp (by omega)]) ?_
  refine k_aload_n B dL_law_231 rfl (by first | exact kRf_r _ | exact kRf_q _ | exact kRf_n) ?_
  refine k_iload B dL_law_232 rfl ?_
  refine k_iconst B (v := 2) dL_law_234 (by decide) ?_
  refine k_iadd B dL_law_235 ?_
  refine kK.rei (y := nI (i + 2)) (nI_add i 2) ?_
  refine k_sld B hX hbl hbA (vp_in_nI (show i + 2 < N by omega) (by omega)) dL_law_236 ?_
  refine kK.rei (y := xs (i + 2)) (by rw [nI_clamp (by omega)]) ?_
  refine k_aload_n B dL_law_237 rfl (by first | exact kRf_r _ | exact kRf_q _ | exact kRf_n) ?_
  refine cl_L_105 B (c_L_land hl hs h9 hL) dL_law_238 (by first | exact Nat.le_of_ble_eq_true rfl | omega | (simp only [kR, Value.category, kCat_q, List.map, List.sum_cons, List.sum_nil]; omega)) (by first | exact Nat.le_of_ble_eq_true rfl | omega | (simp only [kR, Value.category, kCat_q, List.map, List.sum_cons, List.sum_nil]; omega)) (by first | exact Nat.le_of_ble_eq_true rfl | omega | (simp only [kR, Value.category, kCat_q, List.map, List.sum_cons, List.sum_nil]; omega)) (by first | exact Nat.le_of_ble_eq_true rfl | omega | (simp only [kR, Value.category, kCat_q, List.map, List.sum_cons, List.sum_nil]; omega)) (by first | exact Nat.le_of_ble_eq_true rfl | omega | (simp only [kR, Value.category, kCat_q, List.map, List.sum_cons, List.sum_nil]; omega)) (fun _ hx => hx.elim) (fun v238 s238 hp238 => ?_)
  rcases hp238 with ⟨hg, e1, h9b, ⟨f1, hL1, hx1⟩, hfx⟩ | ⟨E, hg, e1, e2⟩
  · rw [e1]
    refine kK.rev (y := .int 0) rfl ?_
    have h10b := h10.keepX hfx hL (Or.inl rfl)
    have hD1b := hfx.d hL hD
    obtain ⟨fsm, hfm⟩ := h10b.o
    refine k_istore B dL_law_241 (by decide) ?_
    try refine kK.set1 (by first | exact True.intro | rfl | exact kCat_q _) ?_
    refine k_aload_n B dL_law_243 rfl (by first | exact kRf_r _ | exact kRf_q _ | exact kRf_n) ?_
    refine k_aload_n B dL_law_244 rfl (by first | exact kRf_r _ | exact kRf_q _ | exact kRf_n) ?_
    refine k_iload B dL_law_245 rfl ?_
    refine k_iconst B (v := 1) dL_law_247 (by decide) ?_
    refine k_iadd B dL_law_248 ?_
    refine kK.rei (y := nI (i + 1)) (nI_add i 1) ?_
    refine k_sld B hX hbl hbA (vp_in_nI (show i + 1 < N by omega) (by omega)) dL_law_249 ?_
    refine kK.rei (y := xs (i + 1)) (by rw [nI_clamp (by omega)]) ?_
    refine k_aload_n B dL_law_250 rfl (by first | exact kRf_r _ | exact kRf_q _ | exact kRf_n) ?_
    refine k_iload B dL_law_251 rfl ?_
    refine k_iconst B (v := 2) dL_law_253 (by decide) ?_
    refine k_iadd B dL_law_254 ?_
    refine kK.rei (y := nI (i + 2)) (nI_add i 2) ?_
    refine k_sld B hX hbl hbA (vp_in_nI (show i + 2 < N by omega) (by omega)) dL_law_255 ?_
    refine kK.rei (y := xs (i + 2)) (by rw [nI_clamp (by omega)]) ?_
    refine cl_L_107 B (c_X10_land hl hs h10b) hfm dL_law_256 (by first | exact Nat.le_of_ble_eq_true rfl | omega | (simp only [kR, Value.category, kCat_q, List.map, List.sum_cons, List.sum_nil]; omega)) (by first | exact Nat.le_of_ble_eq_true rfl | omega | (simp only [kR, Value.category, kCat_q, List.map, List.sum_cons, List.sum_nil]; omega)) (by first | exact Nat.le_of_ble_eq_true rfl | omega | (simp only [kR, Value.category, kCat_q, List.map, List.sum_cons, List.sum_nil]; omega)) (by first | exact Nat.le_of_ble_eq_true rfl | omega | (simp only [kR, Value.category, kCat_q, List.map, List.sum_cons, List.sum_nil]; omega)) (by first | exact Nat.le_of_ble_eq_true rfl | omega | (simp only [kR, Value.category, kCat_q, List.map, List.sum_cons, List.sum_nil]; omega)) (fun _ hx => hx.elim) (fun v256 s256 hp256 => ?_)
    rcases hp256 with ⟨⟨hg2, e3, h10c⟩ | ⟨E2, hg2, e3, h10c⟩, hfo⟩
    · rw [e3]
      refine kK.rev (y := .int (rLand z (xs (i + 1)))) rfl ?_
      obtain ⟨mv1, kn1, Lk1, hm⟩ := id h10c
      refine k_istore B dL_law_259 (by decide) ?_
      try refine kK.set1 (by first | exact True.intro | rfl | exact kCat_q _) ?_
      refine k_aload_n B dL_law_261 rfl (by first | exact kRf_r _ | exact kRf_q _ | exact kRf_n) ?_
      refine cl_L_101 B (c_X10_thrown hl hm.m) hm.o dL_law_262 (by first | exact Nat.le_of_ble_eq_true rfl | omega | (simp only [kR, Value.category, kCat_q, List.map, List.sum_cons, List.sum_nil]; omega)) (by first | exact Nat.le_of_ble_eq_true rfl | omega | (simp only [kR, Value.category, kCat_q, List.map, List.sum_cons, List.sum_nil]; omega)) (by first | exact Nat.le_of_ble_eq_true rfl | omega | (simp only [kR, Value.category, kCat_q, List.map, List.sum_cons, List.sum_nil]; omega)) (by first | exact Nat.le_of_ble_eq_true rfl | omega | (simp only [kR, Value.category, kCat_q, List.map, List.sum_cons, List.sum_nil]; omega)) (by first | exact Nat.le_of_ble_eq_true rfl | omega | (simp only [kR, Value.category, kCat_q, List.map, List.sum_cons, List.sum_nil]; omega)) (fun _ hx => hx.elim) (fun v262 s262 hp262 => ?_)
      obtain ⟨rfl, e5⟩ := hp262
      rw [e5]
      refine kK.rev (y := .int 0) rfl ?_
      refine k_iload B dL_law_265 rfl ?_
      refine k_icmp_eq B 272 dL_law_267 (by decide) (fun c267 => ?_) (fun c267 => ?_)
      · skip
        refine k_iload B dL_law_272 rfl ?_
        refine k_if_ne B 289 dL_law_274 (by decide) (fun c274 => ?_) (fun c274 => ?_)
        · exact absurd rfl c274
        · skip
          have hL2 := keepL h10b hfo hL1 (Or.inl rfl)
          have hD2 := keepL h10b hfo hD1b (Or.inr rfl)
          refine k_aload_n B dL_law_277 rfl (by first | exact kRf_r _ | exact kRf_q _ | exact kRf_n) ?_
          refine k_iconst B (v := 0) dL_law_278 (by decide) ?_
          refine k_lald B dL_law_279 hL2 (vp_in_nI (n := 0) (N := 1) (by decide) (by decide)) ?_
          refine kK.rel (y := (rLand z (xs (i + 1))).toInt64) hx1 ?_
          refine k_iload B dL_law_280 rfl ?_
          refine k_i2l B dL_law_282 ?_
          refine k_lcmp B dL_law_283 ?_
          refine k_if_eq B 289 dL_law_284 (by decide) (fun c284 => ?_) (fun c284 => ?_)
          · skip
            refine k_goto B 1697 dL_law_289 (by decide) ?_
            refine kK.sub (L2 := [some (.ref b), some (.ref aO), some (.ref aM), some (.ref aL), some (.ref aD), some (.int (nI i)), none, none, none]) ⟨Or.inr rfl, Or.inr rfl, Or.inr rfl, Or.inr rfl, Or.inr rfl, Or.inr rfl, Or.inl rfl, Or.inl rfl, Or.inl rfl, trivial⟩ ?_
            exact nxt _ _ _ ⟨nLand z (xs (i + 1)) (xs (i + 2)), J, F, 0, (ok_land hs hg), (jR_same hj rfl rfl rfl), h9b.keepO h10b hfo, h10c, ⟨f1, hL2⟩, ⟨g0, hD2⟩, hc, by show k + 3 + 0 + 0 ≤ 200 + 31 * sNow z + 7 * (st + 1) + cnt F; omega, by show n + 18 + 0 + 0 ≤ 40000 + 164 * sNow z + 38 * (st + 1) + 3 * cnt F; omega⟩
          · exact absurd ((lg_cmp_eq _ _).mpr rfl) c284
      · exact absurd rfl c267
    · rw [hg] at hg2; cases hg2
  · rw [e1, e2]
    refine kK.rev (y := .int (tCd 1 2 3 E)) rfl ?_
    obtain ⟨fsm, hfm⟩ := h10.o
    refine k_istore B dL_law_241 (by decide) ?_
    try refine kK.set1 (by first | exact True.intro | rfl | exact kCat_q _) ?_
    refine k_aload_n B dL_law_243 rfl (by first | exact kRf_r _ | exact kRf_q _ | exact kRf_n) ?_
    refine k_aload_n B dL_law_244 rfl (by first | exact kRf_r _ | exact kRf_q _ | exact kRf_n) ?_
    refine k_iload B dL_law_245 rfl ?_
    refine k_iconst B (v := 1) dL_law_247 (by decide) ?_
    refine k_iadd B dL_law_248 ?_
    refine kK.rei (y := nI (i + 1)) (nI_add i 1) ?_
    refine k_sld B hX hbl hbA (vp_in_nI (show i + 1 < N by omega) (by omega)) dL_law_249 ?_
    refine kK.rei (y := xs (i + 1)) (by rw [nI_clamp (by omega)]) ?_
    refine k_aload_n B dL_law_250 rfl (by first | exact kRf_r _ | exact kRf_q _ | exact kRf_n) ?_
    refine k_iload B dL_law_251 rfl ?_
    refine k_iconst B (v := 2) dL_law_253 (by decide) ?_
    refine k_iadd B dL_law_254 ?_
    refine kK.rei (y := nI (i + 2)) (nI_add i 2) ?_
    refine k_sld B hX hbl hbA (vp_in_nI (show i + 2 < N by omega) (by omega)) dL_law_255 ?_
    refine kK.rei (y := xs (i + 2)) (by rw [nI_clamp (by omega)]) ?_
    refine cl_L_107 B (c_X10_land hl hs h10) hfm dL_law_256 (by first | exact Nat.le_of_ble_eq_true rfl | omega | (simp only [kR, Value.category, kCat_q, List.map, List.sum_cons, List.sum_nil]; omega)) (by first | exact Nat.le_of_ble_eq_true rfl | omega | (simp only [kR, Value.category, kCat_q, List.map, List.sum_cons, List.sum_nil]; omega)) (by first | exact Nat.le_of_ble_eq_true rfl | omega | (simp only [kR, Value.category, kCat_q, List.map, List.sum_cons, List.sum_nil]; omega)) (by first | exact Nat.le_of_ble_eq_true rfl | omega | (simp only [kR, Value.category, kCat_q, List.map, List.sum_cons, List.sum_nil]; omega)) (by first | exact Nat.le_of_ble_eq_true rfl | omega | (simp only [kR, Value.category, kCat_q, List.map, List.sum_cons, List.sum_nil]; omega)) (fun _ hx => hx.elim) (fun v256 s256 hp256 => ?_)
    rcases hp256 with ⟨⟨hg2, e3, h10c⟩ | ⟨E2, hg2, e3, h10c⟩, hfo⟩
    · rw [hg] at hg2; cases hg2
    · obtain rfl : E = E2 := Option.some.inj (hg.symm.trans hg2)
      obtain ⟨mv1, kn1, Lk1, hm⟩ := id h10c
      rw [e3]
      refine kK.rev (y := .int 0) rfl ?_
      refine k_istore B dL_law_259 (by decide) ?_
      try refine kK.set1 (by first | exact True.intro | rfl | exact kCat_q _) ?_
      refine k_aload_n B dL_law_261 rfl (by first | exact kRf_r _ | exact kRf_q _ | exact kRf_n) ?_
      refine cl_L_101 B (c_X10_thrown hl hm.m) hm.o dL_law_262 (by first | exact Nat.le_of_ble_eq_true rfl | omega | (simp only [kR, Value.category, kCat_q, List.map, List.sum_cons, List.sum_nil]; omega)) (by first | exact Nat.le_of_ble_eq_true rfl | omega | (simp only [kR, Value.category, kCat_q, List.map, List.sum_cons, List.sum_nil]; omega)) (by first | exact Nat.le_of_ble_eq_true rfl | omega | (simp only [kR, Value.category, kCat_q, List.map, List.sum_cons, List.sum_nil]; omega)) (by first | exact Nat.le_of_ble_eq_true rfl | omega | (simp only [kR, Value.category, kCat_q, List.map, List.sum_cons, List.sum_nil]; omega)) (by first | exact Nat.le_of_ble_eq_true rfl | omega | (simp only [kR, Value.category, kCat_q, List.map, List.sum_cons, List.sum_nil]; omega)) (fun _ hx => hx.elim) (fun v262 s262 hp262 => ?_)
      obtain ⟨rfl, e5⟩ := hp262
      rw [e5]
      refine kK.rev (y := .int (tCd 1 2 3 E)) rfl ?_
      refine k_iload B dL_law_265 rfl ?_
      refine k_icmp_eq B 272 dL_law_267 (by decide) (fun c267 => ?_) (fun c267 => ?_)
      · skip
        refine k_iload B dL_law_272 rfl ?_
        refine k_if_ne B 289 dL_law_274 (by decide) (fun c274 => ?_) (fun c274 => ?_)
        · skip
          refine k_goto B 1697 dL_law_289 (by decide) ?_
          refine kK.sub (L2 := [some (.ref b), some (.ref aO), some (.ref aM), some (.ref aL), some (.ref aD), some (.int (nI i)), none, none, none]) ⟨Or.inr rfl, Or.inr rfl, Or.inr rfl, Or.inr rfl, Or.inr rfl, Or.inr rfl, Or.inl rfl, Or.inl rfl, Or.inl rfl, trivial⟩ ?_
          exact nxt _ _ _ ⟨z, J, F, _, hs, hj, h9.keepO h10 hfo, h10c, ⟨f0, keepL h10 hfo hL (Or.inl rfl)⟩, ⟨g0, keepL h10 hfo hD (Or.inr rfl)⟩, hc, by show k + 3 + 0 + 0 ≤ 200 + 31 * sNow z + 7 * (st + 1) + cnt F; omega, by show n + 18 + 0 + 0 ≤ 40000 + 164 * sNow z + 38 * (st + 1) + 3 * cnt F; omega⟩
        · exact absurd c274 (tCd_ne (by decide) (by decide) (by decide))
      · exact absurd rfl c267
set_option maxHeartbeats 1000000 in
set_option maxRecDepth 100000 in
theorem law_lead (B : kB p l s m args meth c D A 9 cL_law RL) (hl : l.stackTraces = false) (hX : va_X b N xs s s.heap) (hbl : b < s.heap.size) (hbA : ¬ A b) (hrc : 20000 ≤ room_1.cells) (hrs : 200000 ≤ room_1.slots) (hN : N ≤ 2048) (hi : i + 4 ≤ N) (hst : st ≤ 512) (hI : lI D aO aM aL aD ma st k n σ) (nxt : ∀ (σ2 : kS) (k2 n2 : Nat), lI D aO aM aL aD ma (st + 1) k2 n2 σ2 → kK p l e room_1 s m args below meth c D A 9 Q σ2 k2 n2 1697 [some (.ref b), some (.ref aO), some (.ref aM), some (.ref aL), some (.ref aD), some (.int (nI i)), none, none, none] []) : kK p l e room_1 s m args below meth c D A 9 Q σ k n 292 [some (.ref b), some (.ref aO), some (.ref aM), some (.ref aL), some (.ref aD), some (.int (nI i)), none, none, none] [] := by
  obtain ⟨z, J, F, t, hs, hj, h9, h10, ⟨f0, hL⟩, ⟨g0, hD⟩, hc, hk, hn⟩ := hI
  have hn3 := hs.1.1
  obtain ⟨fs9, hf9⟩ := h9.fs
  obtain ⟨fs10, hf10⟩ := h10.o
  refine k_aload_n B dL_law_292 rfl (by first | exact kRf_r _ | exact kRf_q _ | exact kRf_n) ?_
  refine k_aload_n B dL_law_293 rfl (by first | exact kRf_r _ | exact kRf_q _ | exact kRf_n) ?_
  refine k_iload B dL_law_294 rfl ?_
  refine k_iconst B (v := 1) dL_law_296 (by decide) ?_
  refine k_iadd B dL_law_297 ?_
  refine kK.rei (y := nI (i + 1)) (nI_add i 1) ?_
  refine k_sld B hX hbl hbA (vp_in_nI (show i + 1 < N by omega) (by omega)) dL_law_298 ?_
  refine kK.rei (y := xs (i + 1)) (by rw [nI_clamp (by omega)]) ?_
  refine k_aload_n B dL_law_299 rfl (by first | exact kRf_r _ | exact kRf_q _ | exact kRf_n) ?_
  refine k_iload B dL_law_300 rfl ?_
  refine k_iconst B (v := 2) dL_law_302 (by decide) ?_
  refine k_iadd B dL_law_303 ?_
  refine kK.rei (y := nI (i + 2)) (nI_add i 2) ?_
  refine k_sld B hX hbl hbA (vp_in_nI (show i + 2 < N by omega) (by omega)) dL_law_304 ?_
  refine kK.rei (y := xs (i + 2)) (by rw [nI_clamp (by omega)]) ?_
  refine k_aload_n B dL_law_305 rfl (by first | exact kRf_r _ | exact kRf_q _ | exact kRf_n) ?_
  refine cl_L_108 B (c_L_lead hl hs h9 hL) dL_law_306 (by first | exact Nat.le_of_ble_eq_true rfl | omega | (simp only [kR, Value.category, kCat_q, List.map, List.sum_cons, List.sum_nil]; omega)) (by first | exact Nat.le_of_ble_eq_true rfl | omega | (simp only [kR, Value.category, kCat_q, List.map, List.sum_cons, List.sum_nil]; omega)) (by first | exact Nat.le_of_ble_eq_true rfl | omega | (simp only [kR, Value.category, kCat_q, List.map, List.sum_cons, List.sum_nil]; omega)) (by first | exact Nat.le_of_ble_eq_true rfl | omega | (simp only [kR, Value.category, kCat_q, List.map, List.sum_cons, List.sum_nil]; omega)) (by first | exact Nat.le_of_ble_eq_true rfl | omega | (simp only [kR, Value.category, kCat_q, List.map, List.sum_cons, List.sum_nil]; omega)) (fun _ hx => hx.elim) (fun v306 s306 hp306 => ?_)
  rcases hp306 with ⟨hg, e1, h9b, ⟨f1, hL1, hx1⟩, hfx⟩ | ⟨E, hg, e1, e2⟩
  · rw [e1]
    refine kK.rev (y := .int 0) rfl ?_
    have h10b := h10.keepX hfx hL (Or.inl rfl)
    have hD1b := hfx.d hL hD
    obtain ⟨fsm, hfm⟩ := h10b.o
    refine k_istore B dL_law_309 (by decide) ?_
    try refine kK.set1 (by first | exact True.intro | rfl | exact kCat_q _) ?_
    refine k_aload_n B dL_law_311 rfl (by first | exact kRf_r _ | exact kRf_q _ | exact kRf_n) ?_
    refine k_aload_n B dL_law_312 rfl (by first | exact kRf_r _ | exact kRf_q _ | exact kRf_n) ?_
    refine k_iload B dL_law_313 rfl ?_
    refine k_iconst B (v := 1) dL_law_315 (by decide) ?_
    refine k_iadd B dL_law_316 ?_
    refine kK.rei (y := nI (i + 1)) (nI_add i 1) ?_
    refine k_sld B hX hbl hbA (vp_in_nI (show i + 1 < N by omega) (by omega)) dL_law_317 ?_
    refine kK.rei (y := xs (i + 1)) (by rw [nI_clamp (by omega)]) ?_
    refine k_aload_n B dL_law_318 rfl (by first | exact kRf_r _ | exact kRf_q _ | exact kRf_n) ?_
    refine k_iload B dL_law_319 rfl ?_
    refine k_iconst B (v := 2) dL_law_321 (by decide) ?_
    refine k_iadd B dL_law_322 ?_
    refine kK.rei (y := nI (i + 2)) (nI_add i 2) ?_
    refine k_sld B hX hbl hbA (vp_in_nI (show i + 2 < N by omega) (by omega)) dL_law_323 ?_
    refine kK.rei (y := xs (i + 2)) (by rw [nI_clamp (by omega)]) ?_
    refine cl_L_110 B (c_X10_lead hl h10b) hfm dL_law_324 (by first | exact Nat.le_of_ble_eq_true rfl | omega | (simp only [kR, Value.category, kCat_q, List.map, List.sum_cons, List.sum_nil]; omega)) (by first | exact Nat.le_of_ble_eq_true rfl | omega | (simp only [kR, Value.category, kCat_q, List.map, List.sum_cons, List.sum_nil]; omega)) (by first | exact Nat.le_of_ble_eq_true rfl | omega | (simp only [kR, Value.category, kCat_q, List.map, List.sum_cons, List.sum_nil]; omega)) (by first | exact Nat.le_of_ble_eq_true rfl | omega | (simp only [kR, Value.category, kCat_q, List.map, List.sum_cons, List.sum_nil]; omega)) (by first | exact Nat.le_of_ble_eq_true rfl | omega | (simp only [kR, Value.category, kCat_q, List.map, List.sum_cons, List.sum_nil]; omega)) (fun _ hx => hx.elim) (fun v324 s324 hp324 => ?_)
    rcases hp324 with ⟨⟨hg2, e3, h10c⟩ | ⟨E2, hg2, e3, h10c⟩, hfo⟩
    · rw [e3]
      refine kK.rev (y := .int (rLead z (xs (i + 1)))) rfl ?_
      obtain ⟨mv1, kn1, Lk1, hm⟩ := id h10c
      refine k_istore B dL_law_327 (by decide) ?_
      try refine kK.set1 (by first | exact True.intro | rfl | exact kCat_q _) ?_
      refine k_aload_n B dL_law_329 rfl (by first | exact kRf_r _ | exact kRf_q _ | exact kRf_n) ?_
      refine cl_L_101 B (c_X10_thrown hl hm.m) hm.o dL_law_330 (by first | exact Nat.le_of_ble_eq_true rfl | omega | (simp only [kR, Value.category, kCat_q, List.map, List.sum_cons, List.sum_nil]; omega)) (by first | exact Nat.le_of_ble_eq_true rfl | omega | (simp only [kR, Value.category, kCat_q, List.map, List.sum_cons, List.sum_nil]; omega)) (by first | exact Nat.le_of_ble_eq_true rfl | omega | (simp only [kR, Value.category, kCat_q, List.map, List.sum_cons, List.sum_nil]; omega)) (by first | exact Nat.le_of_ble_eq_true rfl | omega | (simp only [kR, Value.category, kCat_q, List.map, List.sum_cons, List.sum_nil]; omega)) (by first | exact Nat.le_of_ble_eq_true rfl | omega | (simp only [kR, Value.category, kCat_q, List.map, List.sum_cons, List.sum_nil]; omega)) (fun _ hx => hx.elim) (fun v330 s330 hp330 => ?_)
      obtain ⟨rfl, e5⟩ := hp330
      rw [e5]
      refine kK.rev (y := .int 0) rfl ?_
      refine k_iload B dL_law_333 rfl ?_
      refine k_icmp_eq B 340 dL_law_335 (by decide) (fun c335 => ?_) (fun c335 => ?_)
      · skip
        refine k_iload B dL_law_340 rfl ?_
        refine k_if_ne B 357 dL_law_342 (by decide) (fun c342 => ?_) (fun c342 => ?_)
        · exact absurd rfl c342
        · skip
          have hL2 := keepL h10b hfo hL1 (Or.inl rfl)
          have hD2 := keepL h10b hfo hD1b (Or.inr rfl)
          refine k_aload_n B dL_law_345 rfl (by first | exact kRf_r _ | exact kRf_q _ | exact kRf_n) ?_
          refine k_iconst B (v := 0) dL_law_346 (by decide) ?_
          refine k_lald B dL_law_347 hL2 (vp_in_nI (n := 0) (N := 1) (by decide) (by decide)) ?_
          refine kK.rel (y := (rLead z (xs (i + 1))).toInt64) hx1 ?_
          refine k_iload B dL_law_348 rfl ?_
          refine k_i2l B dL_law_350 ?_
          refine k_lcmp B dL_law_351 ?_
          refine k_if_eq B 357 dL_law_352 (by decide) (fun c352 => ?_) (fun c352 => ?_)
          · skip
            refine k_goto B 1697 dL_law_357 (by decide) ?_
            refine kK.sub (L2 := [some (.ref b), some (.ref aO), some (.ref aM), some (.ref aL), some (.ref aD), some (.int (nI i)), none, none, none]) ⟨Or.inr rfl, Or.inr rfl, Or.inr rfl, Or.inr rfl, Or.inr rfl, Or.inr rfl, Or.inl rfl, Or.inl rfl, Or.inl rfl, trivial⟩ ?_
            exact nxt _ _ _ ⟨nLead z (xs (i + 1)) (xs (i + 2)), J, F, 0, (ok_lead hs hg), (jR_same hj rfl rfl rfl), h9b.keepO h10b hfo, h10c, ⟨f1, hL2⟩, ⟨g0, hD2⟩, hc, by show k + 3 + 0 + 0 ≤ 200 + 31 * sNow z + 7 * (st + 1) + cnt F; omega, by show n + 18 + 0 + 0 ≤ 40000 + 164 * sNow z + 38 * (st + 1) + 3 * cnt F; omega⟩
          · exact absurd ((lg_cmp_eq _ _).mpr rfl) c352
      · exact absurd rfl c335
    · rw [hg] at hg2; cases hg2
  · rw [e1, e2]
    refine kK.rev (y := .int (tCd 1 2 3 E)) rfl ?_
    obtain ⟨fsm, hfm⟩ := h10.o
    refine k_istore B dL_law_309 (by decide) ?_
    try refine kK.set1 (by first | exact True.intro | rfl | exact kCat_q _) ?_
    refine k_aload_n B dL_law_311 rfl (by first | exact kRf_r _ | exact kRf_q _ | exact kRf_n) ?_
    refine k_aload_n B dL_law_312 rfl (by first | exact kRf_r _ | exact kRf_q _ | exact kRf_n) ?_
    refine k_iload B dL_law_313 rfl ?_
    refine k_iconst B (v := 1) dL_law_315 (by decide) ?_
    refine k_iadd B dL_law_316 ?_
    refine kK.rei (y := nI (i + 1)) (nI_add i 1) ?_
    refine k_sld B hX hbl hbA (vp_in_nI (show i + 1 < N by omega) (by omega)) dL_law_317 ?_
    refine kK.rei (y := xs (i + 1)) (by rw [nI_clamp (by omega)]) ?_
    refine k_aload_n B dL_law_318 rfl (by first | exact kRf_r _ | exact kRf_q _ | exact kRf_n) ?_
    refine k_iload B dL_law_319 rfl ?_
    refine k_iconst B (v := 2) dL_law_321 (by decide) ?_
    refine k_iadd B dL_law_322 ?_
    refine kK.rei (y := nI (i + 2)) (nI_add i 2) ?_
    refine k_sld B hX hbl hbA (vp_in_nI (show i + 2 < N by omega) (by omega)) dL_law_323 ?_
    refine kK.rei (y := xs (i + 2)) (by rw [nI_clamp (by omega)]) ?_
    refine cl_L_110 B (c_X10_lead hl h10) hfm dL_law_324 (by first | exact Nat.le_of_ble_eq_true rfl | omega | (simp only [kR, Value.category, kCat_q, List.map, List.sum_cons, List.sum_nil]; omega)) (by first | exact Nat.le_of_ble_eq_true rfl | omega | (simp only [kR, Value.category, kCat_q, List.map, List.sum_cons, List.sum_nil]; omega)) (by first | exact Nat.le_of_ble_eq_true rfl | omega | (simp only [kR, Value.category, kCat_q, List.map, List.sum_cons, List.sum_nil]; omega)) (by first | exact Nat.le_of_ble_eq_true rfl | omega | (simp only [kR, Value.category, kCat_q, List.map, List.sum_cons, List.sum_nil]; omega)) (by first | exact Nat.le_of_ble_eq_true rfl | omega | (simp only [kR, Value.category, kCat_q, List.map, List.sum_cons, List.sum_nil]; omega)) (fun _ hx => hx.elim) (fun v324 s324 hp324 => ?_)
    rcases hp324 with ⟨⟨hg2, e3, h10c⟩ | ⟨E2, hg2, e3, h10c⟩, hfo⟩
    · rw [hg] at hg2; cases hg2
    · obtain rfl : E = E2 := Option.some.inj (hg.symm.trans hg2)
      obtain ⟨mv1, kn1, Lk1, hm⟩ := id h10c
      rw [e3]
      refine kK.rev (y := .int 0) rfl ?_
      refine k_istore B dL_law_327 (by decide) ?_
      try refine kK.set1 (by first | exact True.intro | rfl | exact kCat_q _) ?_
      refine k_aload_n B dL_law_329 rfl (by first | exact kRf_r _ | exact kRf_q _ | exact kRf_n) ?_
      refine cl_L_101 B (c_X10_thrown hl hm.m) hm.o dL_law_330 (by first | exact Nat.le_of_ble_eq_true rfl | omega | (simp only [kR, Value.category, kCat_q, List.map, List.sum_cons, List.sum_nil]; omega)) (by first | exact Nat.le_of_ble_eq_true rfl | omega | (simp only [kR, Value.category, kCat_q, List.map, List.sum_cons, List.sum_nil]; omega)) (by first | exact Nat.le_of_ble_eq_true rfl | omega | (simp only [kR, Value.category, kCat_q, List.map, List.sum_cons, List.sum_nil]; omega)) (by first | exact Nat.le_of_ble_eq_true rfl | omega | (simp only [kR, Value.category, kCat_q, List.map, List.sum_cons, List.sum_nil]; omega)) (by first | exact Nat.le_of_ble_eq_true rfl | omega | (simp only [kR, Value.category, kCat_q, List.map, List.sum_cons, List.sum_nil]; omega)) (fun _ hx => hx.elim) (fun v330 s330 hp330 => ?_)
      obtain ⟨rfl, e5⟩ := hp330
      rw [e5]
      refine kK.rev (y := .int (tCd 1 2 3 E)) rfl ?_
      refine k_iload B dL_law_333 rfl ?_
      refine k_icmp_eq B 340 dL_law_335 (by decide) (fun c335 => ?_) (fun c335 => ?_)
      · skip
        refine k_iload B dL_law_340 rfl ?_
        refine k_if_ne B 357 dL_law_342 (by decide) (fun c342 => ?_) (fun c342 => ?_)
        · skip
          refine k_goto B 1697 dL_law_357 (by decide) ?_
          refine kK.sub (L2 := [some (.ref b), some (.ref aO), some (.ref aM), some (.ref aL), some (.ref aD), some (.int (nI i)), none, none, none]) ⟨Or.inr rfl, Or.inr rfl, Or.inr rfl, Or.inr rfl, Or.inr rfl, Or.inr rfl, Or.inl rfl, Or.inl rfl, Or.inl rfl, trivial⟩ ?_
          exact nxt _ _ _ ⟨z, J, F, _, hs, hj, h9.keepO h10 hfo, h10c, ⟨f0, keepL h10 hfo hL (Or.inl rfl)⟩, ⟨g0, keepL h10 hfo hD (Or.inr rfl)⟩, hc, by show k + 3 + 0 + 0 ≤ 200 + 31 * sNow z + 7 * (st + 1) + cnt F; omega, by show n + 18 + 0 + 0 ≤ 40000 + 164 * sNow z + 38 * (st + 1) + 3 * cnt F; omega⟩
        · exact absurd c342 (tCd_ne (by decide) (by decide) (by decide))
      · exact absurd rfl c335
set_option maxHeartbeats 1000000 in
set_option maxRecDepth 100000 in
theorem law_spill (B : kB p l s m args meth c D A 9 cL_law RL) (hl : l.stackTraces = false) (hX : va_X b N xs s s.heap) (hbl : b < s.heap.size) (hbA : ¬ A b) (hrc : 20000 ≤ room_1.cells) (hrs : 200000 ≤ room_1.slots) (hN : N ≤ 2048) (hi : i + 4 ≤ N) (hst : st ≤ 512) (hI : lI D aO aM aL aD ma st k n σ) (nxt : ∀ (σ2 : kS) (k2 n2 : Nat), lI D aO aM aL aD ma (st + 1) k2 n2 σ2 → kK p l e room_1 s m args below meth c D A 9 Q σ2 k2 n2 1697 [some (.ref b), some (.ref aO), some (.ref aM), some (.ref aL), some (.ref aD), some (.int (nI i)), none, none, none] []) : kK p l e room_1 s m args below meth c D A 9 Q σ k n 360 [some (.ref b), some (.ref aO), some (.ref aM), some (.ref aL), some (.ref aD), some (.int (nI i)), none, none, none] [] := by
  obtain ⟨z, J, F, t, hs, hj, h9, h10, ⟨f0, hL⟩, ⟨g0, hD⟩, hc, hk, hn⟩ := hI
  have hn3 := hs.1.1
  obtain ⟨fs9, hf9⟩ := h9.fs
  obtain ⟨fs10, hf10⟩ := h10.o
  refine k_aload_n B dL_law_360 rfl (by first | exact kRf_r _ | exact kRf_q _ | exact kRf_n) ?_
  refine k_aload_n B dL_law_361 rfl (by first | exact kRf_r _ | exact kRf_q _ | exact kRf_n) ?_
  refine k_iload B dL_law_362 rfl ?_
  refine k_iconst B (v := 1) dL_law_364 (by decide) ?_
  refine k_iadd B dL_law_365 ?_
  refine kK.rei (y := nI (i + 1)) (nI_add i 1) ?_
  refine k_sld B hX hbl hbA (vp_in_nI (show i + 1 < N by omega) (by omega)) dL_law_366 ?_
  refine kK.rei (y := xs (i + 1)) (by rw [nI_clamp (by omega)]) ?_
  refine k_aload_n B dL_law_367 rfl (by first | exact kRf_r _ | exact kRf_q _ | exact kRf_n) ?_
  refine k_iload B dL_law_368 rfl ?_
  refine k_iconst B (v := 2) dL_law_370 (by decide) ?_
  refine k_iadd B dL_law_371 ?_
  refine kK.rei (y := nI (i + 2)) (nI_add i 2) ?_
  refine k_sld B hX hbl hbA (vp_in_nI (show i + 2 < N by omega) (by omega)) dL_law_372 ?_
  refine kK.rei (y := xs (i + 2)) (by rw [nI_clamp (by omega)]) ?_
  refine k_aload_n B dL_law_373 rfl (by first | exact kRf_r _ | exact kRf_q _ | exact kRf_n) ?_
  refine cl_L_111 B (c_L_spill hl hs h9 hL) dL_law_374 (by first | exact Nat.le_of_ble_eq_true rfl | omega | (simp only [kR, Value.category, kCat_q, List.map, List.sum_cons, List.sum_nil]; omega)) (by first | exact Nat.le_of_ble_eq_true rfl | omega | (simp only [kR, Value.category, kCat_q, List.map, List.sum_cons, List.sum_nil]; omega)) (by first | exact Nat.le_of_ble_eq_true rfl | omega | (simp only [kR, Value.category, kCat_q, List.map, List.sum_cons, List.sum_nil]; omega)) (by first | exact Nat.le_of_ble_eq_true rfl | omega | (simp only [kR, Value.category, kCat_q, List.map, List.sum_cons, List.sum_nil]; omega)) (by first | exact Nat.le_of_ble_eq_true rfl | omega | (simp only [kR, Value.category, kCat_q, List.map, List.sum_cons, List.sum_nil]; omega)) (fun _ hx => hx.elim) (fun v374 s374 hp374 => ?_)
  rcases hp374 with ⟨hg, e1, h9b, ⟨f1, hL1, hx1⟩, hfx⟩ | ⟨E, hg, e1, e2⟩
  · rw [e1]
    refine kK.rev (y := .int 0) rfl ?_
    have h10b := h10.keepX hfx hL (Or.inl rfl)
    have hD1b := hfx.d hL hD
    obtain ⟨fsm, hfm⟩ := h10b.o
    refine k_istore B dL_law_377 (by decide) ?_
    try refine kK.set1 (by first | exact True.intro | rfl | exact kCat_q _) ?_
    refine k_aload_n B dL_law_379 rfl (by first | exact kRf_r _ | exact kRf_q _ | exact kRf_n) ?_
    refine k_aload_n B dL_law_380 rfl (by first | exact kRf_r _ | exact kRf_q _ | exact kRf_n) ?_
    refine k_iload B dL_law_381 rfl ?_
    refine k_iconst B (v := 1) dL_law_383 (by decide) ?_
    refine k_iadd B dL_law_384 ?_
    refine kK.rei (y := nI (i + 1)) (nI_add i 1) ?_
    refine k_sld B hX hbl hbA (vp_in_nI (show i + 1 < N by omega) (by omega)) dL_law_385 ?_
    refine kK.rei (y := xs (i + 1)) (by rw [nI_clamp (by omega)]) ?_
    refine k_aload_n B dL_law_386 rfl (by first | exact kRf_r _ | exact kRf_q _ | exact kRf_n) ?_
    refine k_iload B dL_law_387 rfl ?_
    refine k_iconst B (v := 2) dL_law_389 (by decide) ?_
    refine k_iadd B dL_law_390 ?_
    refine kK.rei (y := nI (i + 2)) (nI_add i 2) ?_
    refine k_sld B hX hbl hbA (vp_in_nI (show i + 2 < N by omega) (by omega)) dL_law_391 ?_
    refine kK.rei (y := xs (i + 2)) (by rw [nI_clamp (by omega)]) ?_
    refine cl_L_113 B (c_X10_spill hl hs h10b) hfm dL_law_392 (by first | exact Nat.le_of_ble_eq_true rfl | omega | (simp only [kR, Value.category, kCat_q, List.map, List.sum_cons, List.sum_nil]; omega)) (by first | exact Nat.le_of_ble_eq_true rfl | omega | (simp only [kR, Value.category, kCat_q, List.map, List.sum_cons, List.sum_nil]; omega)) (by first | exact Nat.le_of_ble_eq_true rfl | omega | (simp only [kR, Value.category, kCat_q, List.map, List.sum_cons, List.sum_nil]; omega)) (by first | exact Nat.le_of_ble_eq_true rfl | omega | (simp only [kR, Value.category, kCat_q, List.map, List.sum_cons, List.sum_nil]; omega)) (by first | exact Nat.le_of_ble_eq_true rfl | omega | (simp only [kR, Value.category, kCat_q, List.map, List.sum_cons, List.sum_nil]; omega)) (fun _ hx => hx.elim) (fun v392 s392 hp392 => ?_)
    rcases hp392 with ⟨⟨hg2, e3, h10c⟩ | ⟨E2, hg2, e3, h10c⟩, hfo⟩
    · rw [e3]
      refine kK.rev (y := .int (rSpill z (xs (i + 1)) (xs (i + 2)))) rfl ?_
      obtain ⟨mv1, kn1, Lk1, hm⟩ := id h10c
      refine k_istore B dL_law_395 (by decide) ?_
      try refine kK.set1 (by first | exact True.intro | rfl | exact kCat_q _) ?_
      refine k_aload_n B dL_law_397 rfl (by first | exact kRf_r _ | exact kRf_q _ | exact kRf_n) ?_
      refine cl_L_101 B (c_X10_thrown hl hm.m) hm.o dL_law_398 (by first | exact Nat.le_of_ble_eq_true rfl | omega | (simp only [kR, Value.category, kCat_q, List.map, List.sum_cons, List.sum_nil]; omega)) (by first | exact Nat.le_of_ble_eq_true rfl | omega | (simp only [kR, Value.category, kCat_q, List.map, List.sum_cons, List.sum_nil]; omega)) (by first | exact Nat.le_of_ble_eq_true rfl | omega | (simp only [kR, Value.category, kCat_q, List.map, List.sum_cons, List.sum_nil]; omega)) (by first | exact Nat.le_of_ble_eq_true rfl | omega | (simp only [kR, Value.category, kCat_q, List.map, List.sum_cons, List.sum_nil]; omega)) (by first | exact Nat.le_of_ble_eq_true rfl | omega | (simp only [kR, Value.category, kCat_q, List.map, List.sum_cons, List.sum_nil]; omega)) (fun _ hx => hx.elim) (fun v398 s398 hp398 => ?_)
      obtain ⟨rfl, e5⟩ := hp398
      rw [e5]
      refine kK.rev (y := .int 0) rfl ?_
      refine k_iload B dL_law_401 rfl ?_
      refine k_icmp_eq B 408 dL_law_403 (by decide) (fun c403 => ?_) (fun c403 => ?_)
      · skip
        refine k_iload B dL_law_408 rfl ?_
        refine k_if_ne B 425 dL_law_410 (by decide) (fun c410 => ?_) (fun c410 => ?_)
        · exact absurd rfl c410
        · skip
          have hL2 := keepL h10b hfo hL1 (Or.inl rfl)
          have hD2 := keepL h10b hfo hD1b (Or.inr rfl)
          refine k_aload_n B dL_law_413 rfl (by first | exact kRf_r _ | exact kRf_q _ | exact kRf_n) ?_
          refine k_iconst B (v := 0) dL_law_414 (by decide) ?_
          refine k_lald B dL_law_415 hL2 (vp_in_nI (n := 0) (N := 1) (by decide) (by decide)) ?_
          refine kK.rel (y := (rSpill z (xs (i + 1)) (xs (i + 2))).toInt64) hx1 ?_
          refine k_iload B dL_law_416 rfl ?_
          refine k_i2l B dL_law_418 ?_
          refine k_lcmp B dL_law_419 ?_
          refine k_if_eq B 425 dL_law_420 (by decide) (fun c420 => ?_) (fun c420 => ?_)
          · skip
            refine k_goto B 1697 dL_law_425 (by decide) ?_
            refine kK.sub (L2 := [some (.ref b), some (.ref aO), some (.ref aM), some (.ref aL), some (.ref aD), some (.int (nI i)), none, none, none]) ⟨Or.inr rfl, Or.inr rfl, Or.inr rfl, Or.inr rfl, Or.inr rfl, Or.inr rfl, Or.inl rfl, Or.inl rfl, Or.inl rfl, trivial⟩ ?_
            exact nxt _ _ _ ⟨nSpill z (xs (i + 1)) (xs (i + 2)), J, F, 0, (ok_spill hs), (jR_same hj rfl rfl rfl), h9b.keepO h10b hfo, h10c, ⟨f1, hL2⟩, ⟨g0, hD2⟩, hc, by show k + 3 + 0 + 0 ≤ 200 + 31 * sNow z + 7 * (st + 1) + cnt F; omega, by show n + 18 + 0 + 0 ≤ 40000 + 164 * sNow z + 38 * (st + 1) + 3 * cnt F; omega⟩
          · exact absurd ((lg_cmp_eq _ _).mpr rfl) c420
      · exact absurd rfl c403
    · rw [hg] at hg2; cases hg2
  · rw [e1, e2]
    refine kK.rev (y := .int (tCd 1 2 2 E)) rfl ?_
    obtain ⟨fsm, hfm⟩ := h10.o
    refine k_istore B dL_law_377 (by decide) ?_
    try refine kK.set1 (by first | exact True.intro | rfl | exact kCat_q _) ?_
    refine k_aload_n B dL_law_379 rfl (by first | exact kRf_r _ | exact kRf_q _ | exact kRf_n) ?_
    refine k_aload_n B dL_law_380 rfl (by first | exact kRf_r _ | exact kRf_q _ | exact kRf_n) ?_
    refine k_iload B dL_law_381 rfl ?_
    refine k_iconst B (v := 1) dL_law_383 (by decide) ?_
    refine k_iadd B dL_law_384 ?_
    refine kK.rei (y := nI (i + 1)) (nI_add i 1) ?_
    refine k_sld B hX hbl hbA (vp_in_nI (show i + 1 < N by omega) (by omega)) dL_law_385 ?_
    refine kK.rei (y := xs (i + 1)) (by rw [nI_clamp (by omega)]) ?_
    refine k_aload_n B dL_law_386 rfl (by first | exact kRf_r _ | exact kRf_q _ | exact kRf_n) ?_
    refine k_iload B dL_law_387 rfl ?_
    refine k_iconst B (v := 2) dL_law_389 (by decide) ?_
    refine k_iadd B dL_law_390 ?_
    refine kK.rei (y := nI (i + 2)) (nI_add i 2) ?_
    refine k_sld B hX hbl hbA (vp_in_nI (show i + 2 < N by omega) (by omega)) dL_law_391 ?_
    refine kK.rei (y := xs (i + 2)) (by rw [nI_clamp (by omega)]) ?_
    refine cl_L_113 B (c_X10_spill hl hs h10) hfm dL_law_392 (by first | exact Nat.le_of_ble_eq_true rfl | omega | (simp only [kR, Value.category, kCat_q, List.map, List.sum_cons, List.sum_nil]; omega)) (by first | exact Nat.le_of_ble_eq_true rfl | omega | (simp only [kR, Value.category, kCat_q, List.map, List.sum_cons, List.sum_nil]; omega)) (by first | exact Nat.le_of_ble_eq_true rfl | omega | (simp only [kR, Value.category, kCat_q, List.map, List.sum_cons, List.sum_nil]; omega)) (by first | exact Nat.le_of_ble_eq_true rfl | omega | (simp only [kR, Value.category, kCat_q, List.map, List.sum_cons, List.sum_nil]; omega)) (by first | exact Nat.le_of_ble_eq_true rfl | omega | (simp only [kR, Value.category, kCat_q, List.map, List.sum_cons, List.sum_nil]; omega)) (fun _ hx => hx.elim) (fun v392 s392 hp392 => ?_)
    rcases hp392 with ⟨⟨hg2, e3, h10c⟩ | ⟨E2, hg2, e3, h10c⟩, hfo⟩
    · rw [hg] at hg2; cases hg2
    · obtain rfl : E = E2 := Option.some.inj (hg.symm.trans hg2)
      obtain ⟨mv1, kn1, Lk1, hm⟩ := id h10c
      rw [e3]
      refine kK.rev (y := .int 0) rfl ?_
      refine k_istore B dL_law_395 (by decide) ?_
      try refine kK.set1 (by first | exact True.intro | rfl | exact kCat_q _) ?_
      refine k_aload_n B dL_law_397 rfl (by first | exact kRf_r _ | exact kRf_q _ | exact kRf_n) ?_
      refine cl_L_101 B (c_X10_thrown hl hm.m) hm.o dL_law_398 (by first | exact Nat.le_of_ble_eq_true rfl | omega | (simp only [kR, Value.category, kCat_q, List.map, List.sum_cons, List.sum_nil]; omega)) (by first | exact Nat.le_of_ble_eq_true rfl | omega | (simp only [kR, Value.category, kCat_q, List.map, List.sum_cons, List.sum_nil]; omega)) (by first | exact Nat.le_of_ble_eq_true rfl | omega | (simp only [kR, Value.category, kCat_q, List.map, List.sum_cons, List.sum_nil]; omega)) (by first | exact Nat.le_of_ble_eq_true rfl | omega | (simp only [kR, Value.category, kCat_q, List.map, List.sum_cons, List.sum_nil]; omega)) (by first | exact Nat.le_of_ble_eq_true rfl | omega | (simp only [kR, Value.category, kCat_q, List.map, List.sum_cons, List.sum_nil]; omega)) (fun _ hx => hx.elim) (fun v398 s398 hp398 => ?_)
      obtain ⟨rfl, e5⟩ := hp398
      rw [e5]
      refine kK.rev (y := .int (tCd 1 2 2 E)) rfl ?_
      refine k_iload B dL_law_401 rfl ?_
      refine k_icmp_eq B 408 dL_law_403 (by decide) (fun c403 => ?_) (fun c403 => ?_)
      · skip
        refine k_iload B dL_law_408 rfl ?_
        refine k_if_ne B 425 dL_law_410 (by decide) (fun c410 => ?_) (fun c410 => ?_)
        · skip
          refine k_goto B 1697 dL_law_425 (by decide) ?_
          refine kK.sub (L2 := [some (.ref b), some (.ref aO), some (.ref aM), some (.ref aL), some (.ref aD), some (.int (nI i)), none, none, none]) ⟨Or.inr rfl, Or.inr rfl, Or.inr rfl, Or.inr rfl, Or.inr rfl, Or.inr rfl, Or.inl rfl, Or.inl rfl, Or.inl rfl, trivial⟩ ?_
          exact nxt _ _ _ ⟨z, J, F, _, hs, hj, h9.keepO h10 hfo, h10c, ⟨f0, keepL h10 hfo hL (Or.inl rfl)⟩, ⟨g0, keepL h10 hfo hD (Or.inr rfl)⟩, hc, by show k + 3 + 0 + 0 ≤ 200 + 31 * sNow z + 7 * (st + 1) + cnt F; omega, by show n + 18 + 0 + 0 ≤ 40000 + 164 * sNow z + 38 * (st + 1) + 3 * cnt F; omega⟩
        · exact absurd c410 (tCd_ne (by decide) (by decide) (by decide))
      · exact absurd rfl c403
end Law0
