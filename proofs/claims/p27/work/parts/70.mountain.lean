/-! ===== a mountain ===== -/
theorem ok_st0 : sOk st0 := by
  refine ⟨⟨by decide, by decide, by decide, by decide, by decide⟩, fun i hi => ⟨fun d hd => ?_, by show 1 ≤ 5; decide, by show 5 ≤ 40; decide, Nat.zero_le _, Nat.zero_le _, Nat.zero_le _⟩, ⟨Nat.zero_le _, fun i hi => absurd hi (Nat.not_lt_zero i)⟩, ⟨Nat.zero_le _, fun i hi => absurd hi (Nat.not_lt_zero i)⟩, fun i hi q hq => (by cases hq), ?_, Nat.zero_le _⟩
  · have hd : (if i = 0 then none else some (i - 1)) = some d := hd
    split at hd
    · cases hd
    · cases hd; omega
  · decide
section Mountain
variable {l : Launch} {D : va_G} {σ : kS} {b9 N9 : Nat} {xs9 : Nat → Int32}
set_option maxHeartbeats 8000000 in
set_option maxRecDepth 100000 in
theorem c_L_mountain (hl : l.stackTraces = false) (hN : N9 ≤ 260) {at9 : Nat} (hat : at9 ≤ 320) : kMx hL_mountain l D b9 N9 xs9 yL_mountain 12 114000 600000 [.ref b9, .int (nI at9)] σ (fun v _ => v = some (.int 1)) (fun _ => False) := by
  refine kM_ofS (L := [some (.ref b9), some (.int (nI at9)), none, none, none, none, none, none, none, none, none, none, none]) (by decide +kernel) hl (List.forall_mem_cons.mpr ⟨rfl, (List.forall_mem_cons.mpr ⟨rfl, (fun _ h => absurd h List.not_mem_nil)⟩)⟩) (Nat.le_of_ble_eq_true rfl) rfl ?_
  intro p e s m args below meth c B hr hex hnm hX hbl hbA
  have B : kB p l s m args meth c D (kA σ s.heap.size) 13 cL_mountain RL := B
  refine nw_L_11 B dL_mountain_0 (by first | exact Nat.le_of_ble_eq_true rfl | omega | (simp only [kR, Value.category, kCat_q, List.map, List.sum_cons, List.sum_nil]; omega)) (by first | exact Nat.le_of_ble_eq_true rfl | omega | (simp only [kR, Value.category, kCat_q, List.map, List.sum_cons, List.sum_nil]; omega)) (fun q0 hq0 => ?_)
  refine k_dup B dL_mountain_3 rfl ?_
  refine cl_L_130 B (c_X9_init hl kUp_eq) dL_mountain_4 (by first | exact Nat.le_of_ble_eq_true rfl | omega | (simp only [kR, Value.category, kCat_q, List.map, List.sum_cons, List.sum_nil]; omega)) (by first | exact Nat.le_of_ble_eq_true rfl | omega | (simp only [kR, Value.category, kCat_q, List.map, List.sum_cons, List.sum_nil]; omega)) (by first | exact Nat.le_of_ble_eq_true rfl | omega | (simp only [kR, Value.category, kCat_q, List.map, List.sum_cons, List.sum_nil]; omega)) (by first | exact Nat.le_of_ble_eq_true rfl | omega | (simp only [kR, Value.category, kCat_q, List.map, List.sum_cons, List.sum_nil]; omega)) (by first | exact Nat.le_of_ble_eq_true rfl | omega | (simp only [kR, Value.category, kCat_q, List.map, List.sum_cons, List.sum_nil]; omega)) (fun _ hx => hx.elim) (fun v4 s4 hp4 => ?_)
  obtain ⟨rfl, h9, f9, -⟩ := hp4
  refine k_astore_n B dL_mountain_7 (by decide) (by first | exact kRf_r _ | exact kRf_q _ | exact kRf_n) ?_
  try refine kK.set1 (by first | exact True.intro | rfl | exact kCat_q _) ?_
  refine k_bipush B (v := 8) dL_mountain_8 (by decide) ?_
  refine k_anewG B 8 dL_mountain_10 (by rfl) (by decide) qw293 (by first | exact Nat.le_of_ble_eq_true rfl | omega | (simp only [kR, Value.category, kCat_q, List.map, List.sum_cons, List.sum_nil]; omega)) (by first | exact Nat.le_of_ble_eq_true rfl | omega | (simp only [kR, Value.category, kCat_q, List.map, List.sum_cons, List.sum_nil]; omega)) (fun q10 s10 hq10 ha10 ho10 => ?_)
  refine k_astore_n B dL_mountain_12 (by decide) (by first | exact kRf_r _ | exact kRf_q _ | exact kRf_n) ?_
  try refine kK.set1 (by first | exact True.intro | rfl | exact kCat_q _) ?_
  refine k_bipush B (v := 10) dL_mountain_13 (by decide) ?_
  refine k_anewG B 10 dL_mountain_15 (by rfl) (by decide) qw293 (by first | exact Nat.le_of_ble_eq_true rfl | omega | (simp only [kR, Value.category, kCat_q, List.map, List.sum_cons, List.sum_nil]; omega)) (by first | exact Nat.le_of_ble_eq_true rfl | omega | (simp only [kR, Value.category, kCat_q, List.map, List.sum_cons, List.sum_nil]; omega)) (fun q15 s15 hq15 ha15 ho15 => ?_)
  refine k_astore B dL_mountain_17 (by decide) (by first | exact kRf_r _ | exact kRf_q _ | exact kRf_n) ?_
  try refine kK.set1 (by first | exact True.intro | rfl | exact kCat_q _) ?_
  refine k_bipush B (v := 18) dL_mountain_19 (by decide) ?_
  refine k_anewG B 18 dL_mountain_21 (by rfl) (by decide) qw293 (by first | exact Nat.le_of_ble_eq_true rfl | omega | (simp only [kR, Value.category, kCat_q, List.map, List.sum_cons, List.sum_nil]; omega)) (by first | exact Nat.le_of_ble_eq_true rfl | omega | (simp only [kR, Value.category, kCat_q, List.map, List.sum_cons, List.sum_nil]; omega)) (fun q21 s21 hq21 ha21 ho21 => ?_)
  refine k_astore B dL_mountain_23 (by decide) (by first | exact kRf_r _ | exact kRf_q _ | exact kRf_n) ?_
  try refine kK.set1 (by first | exact True.intro | rfl | exact kCat_q _) ?_
  refine k_bipush B (v := 40) dL_mountain_25 (by decide) ?_
  refine k_anewG B 40 dL_mountain_27 (by rfl) (by decide) qw293 (by first | exact Nat.le_of_ble_eq_true rfl | omega | (simp only [kR, Value.category, kCat_q, List.map, List.sum_cons, List.sum_nil]; omega)) (by first | exact Nat.le_of_ble_eq_true rfl | omega | (simp only [kR, Value.category, kCat_q, List.map, List.sum_cons, List.sum_nil]; omega)) (fun q27 s27 hq27 ha27 ho27 => ?_)
  refine k_astore B dL_mountain_29 (by decide) (by first | exact kRf_r _ | exact kRf_q _ | exact kRf_n) ?_
  try refine kK.set1 (by first | exact True.intro | rfl | exact kCat_q _) ?_
  have A1 : ar4 D q10 q15 q21 q27 (fun _ => 0) (fun _ => 0) (fun _ => 0) (fun _ => 0) s27 := ⟨ho27 _ _ (ho21 _ _ (ho15 _ _ ha10)), ho27 _ _ (ho21 _ _ ha15), ho27 _ _ ha21, ha27⟩
  have h27 := (((h9.ext ho10).ext ho15).ext ho21).ext ho27
  refine k_iconst B (v := 1) dL_mountain_31 (by decide) ?_
  refine k_istore B dL_mountain_32 (by decide) ?_
  try refine kK.set1 (by first | exact True.intro | rfl | exact kCat_q _) ?_
  refine k_aload_n B dL_mountain_34 rfl (by first | exact kRf_r _ | exact kRf_q _ | exact kRf_n) ?_
  refine k_iconst B (v := 4) dL_mountain_35 (by decide) ?_
  refine k_iconst B (v := 1) dL_mountain_36 (by decide) ?_
  refine k_aupG B 4 dL_mountain_37 A1.1 (by rfl) (by first | omega | decide) (by decide) (fun s37 ha37 ho37 => ?_)
  refine k_iconst B (v := 0) dL_mountain_38 (by decide) ?_
  refine k_istore B dL_mountain_39 (by decide) ?_
  try refine kK.set1 (by first | exact True.intro | rfl | exact kCat_q _) ?_
  have A2 := A1.c ho37 ha37
  have h37 := h27.outI A1.1 ho37
  have hW : lW D q0 q10 q15 q21 q27 st0 [] kF0 s37 := ⟨h37, _, _, _, _, A2, ⟨by decide, by decide, by decide, by decide, by decide, by decide, by decide, by decide⟩, fun k hk => nI_0.symm, fun k hk => absurd hk (Nat.not_lt_zero k), fun k hk => (if_neg (Nat.not_lt_zero k)).symm⟩
  have fin : ∀ (z : kSt) (J : List kJe) (F : kF) (s1 : kS), sOk z → zI z → jR z J → cnt F ≤ 3400 → lW D q0 q10 q15 q21 q27 z J F s1 → kK p l e (kR 12 114000 600000) s m args below meth c D (kA σ s.heap.size) 13 (kQ below args s D σ (fun v _ => v = some (.int 1)) (fun _ => False) 114000 600000) s1 88200 457200 235 [some (.ref b9), some (.int (nI at9)), some (.ref q0), some (.ref q10), some (.ref q15), some (.ref q21), some (.ref q27), some (.int 1), none, none, none, none, none] [] := by
    intro z J F s1 hs hz hJ hc hW
    obtain ⟨h, fc, fp, fw, fh, a, hcA, hpA, hwA, hhA⟩ := hW
    have h40 := hs.2.2.2.1.1
    refine k_iload B dL_mountain_235 rfl ?_
    refine k_if_eq B 275 dL_mountain_237 (by decide) (fun c9 => absurd c9 (by decide)) (fun _ => ?_)
    refine k_aload_n B dL_mountain_240 rfl (by first | exact kRf_r _ | exact kRf_q _ | exact kRf_n) ?_
    refine k_aload_n B dL_mountain_241 rfl (by first | exact kRf_r _ | exact kRf_q _ | exact kRf_n) ?_
    refine k_aload B dL_mountain_242 rfl (by first | exact kRf_r _ | exact kRf_q _ | exact kRf_n) ?_
    refine k_aload B dL_mountain_244 rfl (by first | exact kRf_r _ | exact kRf_q _ | exact kRf_n) ?_
    refine cl_L_151 B (c_L_isSound hl hs h hz hJ hc a.1 hcA a.2.2.1 hwA a.2.2.2 hhA) dL_mountain_246 (by first | exact Nat.le_of_ble_eq_true rfl | omega | (simp only [kR, Value.category, kCat_q, List.map, List.sum_cons, List.sum_nil]; omega)) (by first | exact Nat.le_of_ble_eq_true rfl | omega | (simp only [kR, Value.category, kCat_q, List.map, List.sum_cons, List.sum_nil]; omega)) (by first | exact Nat.le_of_ble_eq_true rfl | omega | (simp only [kR, Value.category, kCat_q, List.map, List.sum_cons, List.sum_nil]; omega)) (by first | exact Nat.le_of_ble_eq_true rfl | omega | (simp only [kR, Value.category, kCat_q, List.map, List.sum_cons, List.sum_nil]; omega)) (by first | exact Nat.le_of_ble_eq_true rfl | omega | (simp only [kR, Value.category, kCat_q, List.map, List.sum_cons, List.sum_nil]; omega)) (fun _ hx => hx.elim) (fun v246 s246 hp246 => ?_)
    obtain ⟨rfl, F2, hc2, h2, f2⟩ := hp246
    have a2 := a.keep f2
    refine kK.rev (y := .int 1) rfl ?_
    by_cases h0 : sLn z = 0
    · refine k_if_eq B 275 dL_mountain_249 (by decide) (fun c9 => absurd c9 (by decide)) (fun _ => ?_)
      refine k_aload_n B dL_mountain_252 rfl (by first | exact kRf_r _ | exact kRf_q _ | exact kRf_n) ?_
      refine k_iconst B (v := 2) dL_mountain_253 (by decide) ?_
      refine k_ald B 2 dL_mountain_254 a2.1 (by rfl) (by first | omega | decide) (by decide) (hcA.2.2.1) ?_
      refine k_if_eq B 271 dL_mountain_255 (by decide) (fun _ => ?_) (fun c9 => (c9 (by rw [h0]; rfl)).elim)
      refine k_iconst B (v := 1) dL_mountain_271 (by decide) ?_
      refine k_goto B 276 dL_mountain_272 (by decide) ?_
      refine k_zret B hr dL_mountain_276 (by rfl) ?_ (by first | exact Nat.le_of_ble_eq_true rfl | omega | (simp only [kR, Value.category, kCat_q, List.map, List.sum_cons, List.sum_nil]; omega)) (by first | exact Nat.le_of_ble_eq_true rfl | omega | (simp only [kR, Value.category, kCat_q, List.map, List.sum_cons, List.sum_nil]; omega))
      rfl
    · refine k_if_eq B 275 dL_mountain_249 (by decide) (fun c9 => absurd c9 (by decide)) (fun _ => ?_)
      refine k_aload_n B dL_mountain_252 rfl (by first | exact kRf_r _ | exact kRf_q _ | exact kRf_n) ?_
      refine k_iconst B (v := 2) dL_mountain_253 (by decide) ?_
      refine k_ald B 2 dL_mountain_254 a2.1 (by rfl) (by first | omega | decide) (by decide) (hcA.2.2.1) ?_
      refine k_if_eq B 271 dL_mountain_255 (by decide) (fun c9 => absurd c9 (nI_ne0 (by omega) (by omega))) (fun _ => ?_)
      refine k_aload_n B dL_mountain_258 rfl (by first | exact kRf_r _ | exact kRf_q _ | exact kRf_n) ?_
      refine k_aload_n B dL_mountain_259 rfl (by first | exact kRf_r _ | exact kRf_q _ | exact kRf_n) ?_
      refine k_iconst B (v := 2) dL_mountain_260 (by decide) ?_
      refine k_ald B 2 dL_mountain_261 a2.1 (by rfl) (by first | omega | decide) (by decide) (hcA.2.2.1) ?_
      refine k_iconst B (v := 1) dL_mountain_262 (by decide) ?_
      refine k_isub B dL_mountain_263 ?_
      refine kK.rei (y := nI (sLn z - 1)) (nI_sub (b := 1) (by omega)) ?_
      refine k_aload_n B dL_mountain_264 rfl (by first | exact kRf_r _ | exact kRf_q _ | exact kRf_n) ?_
      refine cl_L_155 B (c_L_isWhole hl hs h2 hJ hc2 a2.1 hcA.1 (i := sLn z - 1) (by omega)) dL_mountain_265 (by first | exact Nat.le_of_ble_eq_true rfl | omega | (simp only [kR, Value.category, kCat_q, List.map, List.sum_cons, List.sum_nil]; omega)) (by first | exact Nat.le_of_ble_eq_true rfl | omega | (simp only [kR, Value.category, kCat_q, List.map, List.sum_cons, List.sum_nil]; omega)) (by first | exact Nat.le_of_ble_eq_true rfl | omega | (simp only [kR, Value.category, kCat_q, List.map, List.sum_cons, List.sum_nil]; omega)) (by first | exact Nat.le_of_ble_eq_true rfl | omega | (simp only [kR, Value.category, kCat_q, List.map, List.sum_cons, List.sum_nil]; omega)) (by first | exact Nat.le_of_ble_eq_true rfl | omega | (simp only [kR, Value.category, kCat_q, List.map, List.sum_cons, List.sum_nil]; omega)) (fun _ hx => hx.elim) (fun v265 s265 hp265 => ?_)
      have e65 : v265 = some (.int 1) := hp265
      rw [e65]
      refine kK.rev (y := .int 1) rfl ?_
      refine k_if_eq B 275 dL_mountain_268 (by decide) (fun c9 => absurd c9 (by decide)) (fun _ => ?_)
      refine k_iconst B (v := 1) dL_mountain_271 (by decide) ?_
      refine k_goto B 276 dL_mountain_272 (by decide) ?_
      refine k_zret B hr dL_mountain_276 (by rfl) ?_ (by first | exact Nat.le_of_ble_eq_true rfl | omega | (simp only [kR, Value.category, kCat_q, List.map, List.sum_cons, List.sum_nil]; omega)) (by first | exact Nat.le_of_ble_eq_true rfl | omega | (simp only [kR, Value.category, kCat_q, List.map, List.sum_cons, List.sum_nil]; omega))
      rfl
  have loop : ∀ (n9 j : Nat) (z : kSt) (J : List kJe) (F : kF) (s1 : kS), j + n9 = 80 → sOk z → zI z → jR z J → cnt F ≤ 3400 → sNow z ≤ j → lW D q0 q10 q15 q21 q27 z J F s1 → kK p l e (kR 12 114000 600000) s m args below meth c D (kA σ s.heap.size) 13 (kQ below args s D σ (fun v _ => v = some (.int 1)) (fun _ => False) 114000 600000) s1 (100 + 200 * j + 9000 * (j / 10)) (1000 + 1200 * j + 45000 * (j / 10)) 41 [some (.ref b9), some (.int (nI at9)), some (.ref q0), some (.ref q10), some (.ref q15), some (.ref q21), some (.ref q27), some (.int 1), some (.int (nI j)), none, none, none, none] [] := by
    intro n9
    induction n9 with
    | zero =>
      intro j z J F s1 hj hs hz hJ hc hy hW
      have hj80 : j = 80 := by omega
      subst hj80
      refine k_iload B dL_mountain_41 rfl ?_
      refine k_bipush B (v := 80) dL_mountain_43 (by decide) ?_
      refine k_icmp_ge B 235 dL_mountain_45 (by decide) (fun _ => ?_) (fun c9 => (c9 (by decide)).elim)
      refine kK.sub (L2 := [some (.ref b9), some (.int (nI at9)), some (.ref q0), some (.ref q10), some (.ref q15), some (.ref q21), some (.ref q27), some (.int 1), none, none, none, none, none]) ⟨Or.inr rfl, Or.inr rfl, Or.inr rfl, Or.inr rfl, Or.inr rfl, Or.inr rfl, Or.inr rfl, Or.inr rfl, Or.inl rfl, Or.inl rfl, Or.inl rfl, Or.inl rfl, Or.inl rfl, trivial⟩ ?_
      exact kK.widen (by omega) (by omega) (fin z J F s1 hs hz hJ hc hW)
    | succ n9 ih =>
      intro j z J F s1 hj hs hz hJ hc hy hW
      have hj80 : j < 80 := by omega
      have join : ∀ (z2 : kSt) (J2 : List kJe) (s2 : kS) (k n : Nat), sOk z2 → zI z2 → jR z2 J2 → sNow z2 ≤ j + 1 → lW D q0 q10 q15 q21 q27 z2 J2 F s2 → k ≤ 100 + 200 * (j + 1) + 9000 * (j / 10) → n ≤ 1000 + 1200 * (j + 1) + 45000 * (j / 10) → kK p l e (kR 12 114000 600000) s m args below meth c D (kA σ s.heap.size) 13 (kQ below args s D σ (fun v _ => v = some (.int 1)) (fun _ => False) 114000 600000) s2 k n 195 [some (.ref b9), some (.int (nI at9)), some (.ref q0), some (.ref q10), some (.ref q15), some (.ref q21), some (.ref q27), some (.int 1), some (.int (nI j)), none, none, none, none] [] := by
        intro z2 J2 s2 k n hs2 hz2 hJ2 hy2 hW2 hk hn
        by_cases h9 : j % 10 < 9
        · refine k_iload B dL_mountain_195 rfl ?_
          refine k_if_eq B 226 dL_mountain_197 (by decide) (fun c9 => absurd c9 (by decide)) (fun _ => ?_)
          refine k_iload B dL_mountain_200 rfl ?_
          refine k_bipush B (v := 10) dL_mountain_202 (by decide) ?_
          refine k_irem B dL_mountain_204 (by decide) ?_
          refine kK.rei (y := nI (j % 10)) (nI_rem (b := 10) (by omega) (by decide) (by decide)) ?_
          refine k_bipush B (v := 9) dL_mountain_205 (by decide) ?_
          refine k_icmp_lt B 222 dL_mountain_207 (by decide) (fun _ => ?_) (fun c9 => (c9 (nI_lt (b := 9) h9 (by decide))).elim)
          refine k_iconst B (v := 1) dL_mountain_222 (by decide) ?_
          refine k_goto B 227 dL_mountain_223 (by decide) ?_
          refine k_istore B dL_mountain_227 (by decide) ?_
          try refine kK.set1 (by first | exact True.intro | rfl | exact kCat_q _) ?_
          refine k_iincN (y := nI (j + 1)) B dL_mountain_229 rfl (by decide) (nI_1 j) ?_
          try refine kK.set1 (by first | exact True.intro | rfl | exact kCat_q _) ?_
          refine k_goto B 41 dL_mountain_232 (by decide) ?_
          refine kK.sub (L2 := [some (.ref b9), some (.int (nI at9)), some (.ref q0), some (.ref q10), some (.ref q15), some (.ref q21), some (.ref q27), some (.int 1), some (.int (nI (j + 1))), none, none, none, none]) ⟨Or.inr rfl, Or.inr rfl, Or.inr rfl, Or.inr rfl, Or.inr rfl, Or.inr rfl, Or.inr rfl, Or.inr rfl, Or.inr rfl, Or.inl rfl, Or.inl rfl, Or.inl rfl, Or.inl rfl, trivial⟩ ?_
          exact kK.widen (by omega) (by omega) (ih (j + 1) z2 J2 F s2 (by omega) hs2 hz2 hJ2 hc hy2 hW2)
        · obtain ⟨h, fc, fp, fw, fh, a, hcA, hpA, hwA, hhA⟩ := hW2
          refine k_iload B dL_mountain_195 rfl ?_
          refine k_if_eq B 226 dL_mountain_197 (by decide) (fun c9 => absurd c9 (by decide)) (fun _ => ?_)
          refine k_iload B dL_mountain_200 rfl ?_
          refine k_bipush B (v := 10) dL_mountain_202 (by decide) ?_
          refine k_irem B dL_mountain_204 (by decide) ?_
          refine kK.rei (y := nI (j % 10)) (nI_rem (b := 10) (by omega) (by decide) (by decide)) ?_
          refine k_bipush B (v := 9) dL_mountain_205 (by decide) ?_
          refine k_icmp_lt B 222 dL_mountain_207 (by decide) (fun c9 => absurd c9 (nI_nlt (a := j % 10) (b := 9) (by omega) (by omega))) (fun _ => ?_)
          refine k_aload_n B dL_mountain_210 rfl (by first | exact kRf_r _ | exact kRf_q _ | exact kRf_n) ?_
          refine k_aload_n B dL_mountain_211 rfl (by first | exact kRf_r _ | exact kRf_q _ | exact kRf_n) ?_
          refine k_aload B dL_mountain_212 rfl (by first | exact kRf_r _ | exact kRf_q _ | exact kRf_n) ?_
          refine k_aload B dL_mountain_214 rfl (by first | exact kRf_r _ | exact kRf_q _ | exact kRf_n) ?_
          refine cl_L_151 B (c_L_isSound hl hs2 h hz2 hJ2 hc a.1 hcA a.2.2.1 hwA a.2.2.2 hhA) dL_mountain_216 (by first | exact Nat.le_of_ble_eq_true rfl | omega | (simp only [kR, Value.category, kCat_q, List.map, List.sum_cons, List.sum_nil]; omega)) (by first | exact Nat.le_of_ble_eq_true rfl | omega | (simp only [kR, Value.category, kCat_q, List.map, List.sum_cons, List.sum_nil]; omega)) (by first | exact Nat.le_of_ble_eq_true rfl | omega | (simp only [kR, Value.category, kCat_q, List.map, List.sum_cons, List.sum_nil]; omega)) (by first | exact Nat.le_of_ble_eq_true rfl | omega | (simp only [kR, Value.category, kCat_q, List.map, List.sum_cons, List.sum_nil]; omega)) (by first | exact Nat.le_of_ble_eq_true rfl | omega | (simp only [kR, Value.category, kCat_q, List.map, List.sum_cons, List.sum_nil]; omega)) (fun _ hx => hx.elim) (fun v216 s216 hp216 => ?_)
          obtain ⟨rfl, F2, hc2, h2, f2⟩ := hp216
          refine kK.rev (y := .int 1) rfl ?_
          refine k_if_eq B 226 dL_mountain_219 (by decide) (fun c9 => absurd c9 (by decide)) (fun _ => ?_)
          refine k_iconst B (v := 1) dL_mountain_222 (by decide) ?_
          refine k_goto B 227 dL_mountain_223 (by decide) ?_
          refine k_istore B dL_mountain_227 (by decide) ?_
          try refine kK.set1 (by first | exact True.intro | rfl | exact kCat_q _) ?_
          refine k_iincN (y := nI (j + 1)) B dL_mountain_229 rfl (by decide) (nI_1 j) ?_
          try refine kK.set1 (by first | exact True.intro | rfl | exact kCat_q _) ?_
          refine k_goto B 41 dL_mountain_232 (by decide) ?_
          refine kK.sub (L2 := [some (.ref b9), some (.int (nI at9)), some (.ref q0), some (.ref q10), some (.ref q15), some (.ref q21), some (.ref q27), some (.int 1), some (.int (nI (j + 1))), none, none, none, none]) ⟨Or.inr rfl, Or.inr rfl, Or.inr rfl, Or.inr rfl, Or.inr rfl, Or.inr rfl, Or.inr rfl, Or.inr rfl, Or.inr rfl, Or.inl rfl, Or.inl rfl, Or.inl rfl, Or.inl rfl, trivial⟩ ?_
          exact kK.widen (by omega) (by omega) (ih (j + 1) z2 J2 F2 s216 (by omega) hs2 hz2 hJ2 hc2 hy2 ⟨h2, fc, fp, fw, fh, a.keep f2, hcA, hpA, hwA, hhA⟩)
      refine k_iload B dL_mountain_41 rfl ?_
      refine k_bipush B (v := 80) dL_mountain_43 (by decide) ?_
      refine k_icmp_ge B 235 dL_mountain_45 (by decide) (fun c9 => absurd c9 (fun q => nI_ge hj80 (by decide) q)) (fun _ => ?_)
      refine k_iload B dL_mountain_48 rfl ?_
      refine k_if_eq B 235 dL_mountain_50 (by decide) (fun c9 => absurd c9 (by decide)) (fun _ => ?_)
      refine k_aload_n B dL_mountain_53 rfl (by first | exact kRf_r _ | exact kRf_q _ | exact kRf_n) ?_
      refine k_iload_n B dL_mountain_54 rfl ?_
      refine k_iconst B (v := 2) dL_mountain_55 (by decide) ?_
      refine k_iload B dL_mountain_56 rfl ?_
      refine k_imul B dL_mountain_58 ?_
      refine kK.rei (y := nI (2 * j)) (nI_mul 2 j) ?_
      refine k_iadd B dL_mountain_59 ?_
      refine kK.rei (y := nI (at9 + 2 * j)) (nI_add _ _) ?_
      refine k_ldc B qw206 dL_mountain_60 ?_
      refine k_callSs B hX hbl hbA (As := [.ref b9, .int (nI (at9 + 2 * j)), .int 1073741824]) (c_L_draw hl hN (by omega)) dL_mountain_62 rfl qw207 qw208 qw21 qw209 (show yL_draw.cls = RL ∧ yL_draw.cls ≠ "java/lang/invoke/MethodHandle" ∧ yL_draw.cls ≠ "java/lang/invoke/VarHandle" ∧ (parseMethodDescriptor yL_draw.desc).map (fun d => d.parameters.length) = some 3 from by decide +kernel) (by first | exact Nat.le_of_ble_eq_true rfl | omega | (simp only [kR, Value.category, kCat_q, List.map, List.sum_cons, List.sum_nil]; omega)) (by first | exact Nat.le_of_ble_eq_true rfl | omega | (simp only [kR, Value.category, kCat_q, List.map, List.sum_cons, List.sum_nil]; omega)) (by first | exact Nat.le_of_ble_eq_true rfl | omega | (simp only [kR, Value.category, kCat_q, List.map, List.sum_cons, List.sum_nil]; omega)) (by first | exact Nat.le_of_ble_eq_true rfl | omega | (simp only [kR, Value.category, kCat_q, List.map, List.sum_cons, List.sum_nil]; omega)) (by first | exact Nat.le_of_ble_eq_true rfl | omega | (simp only [kR, Value.category, kCat_q, List.map, List.sum_cons, List.sum_nil]; omega)) (fun _ hx => hx.elim) (fun v62 s62 hp62 => ?_)
      obtain ⟨⟨x, hx, rfl⟩, e62⟩ := hp62
      rw [e62]
      refine kK.rev (y := .int (nI x)) rfl ?_
      refine k_istore B dL_mountain_65 (by decide) ?_
      try refine kK.set1 (by first | exact True.intro | rfl | exact kCat_q _) ?_
      refine k_aload_n B dL_mountain_67 rfl (by first | exact kRf_r _ | exact kRf_q _ | exact kRf_n) ?_
      refine k_iload_n B dL_mountain_68 rfl ?_
      refine k_iconst B (v := 2) dL_mountain_69 (by decide) ?_
      refine k_iload B dL_mountain_70 rfl ?_
      refine k_imul B dL_mountain_72 ?_
      refine kK.rei (y := nI (2 * j)) (nI_mul 2 j) ?_
      refine k_iadd B dL_mountain_73 ?_
      refine kK.rei (y := nI (at9 + 2 * j)) (nI_add _ _) ?_
      refine k_iconst B (v := 1) dL_mountain_74 (by decide) ?_
      refine k_iadd B dL_mountain_75 ?_
      refine kK.rei (y := nI (at9 + 2 * j + 1)) (nI_1 _) ?_
      refine k_ldc B qw206 dL_mountain_76 ?_
      refine k_callSs B hX hbl hbA (As := [.ref b9, .int (nI (at9 + 2 * j + 1)), .int 1073741824]) (c_L_draw hl hN (by omega)) dL_mountain_78 rfl qw207 qw208 qw21 qw209 (show yL_draw.cls = RL ∧ yL_draw.cls ≠ "java/lang/invoke/MethodHandle" ∧ yL_draw.cls ≠ "java/lang/invoke/VarHandle" ∧ (parseMethodDescriptor yL_draw.desc).map (fun d => d.parameters.length) = some 3 from by decide +kernel) (by first | exact Nat.le_of_ble_eq_true rfl | omega | (simp only [kR, Value.category, kCat_q, List.map, List.sum_cons, List.sum_nil]; omega)) (by first | exact Nat.le_of_ble_eq_true rfl | omega | (simp only [kR, Value.category, kCat_q, List.map, List.sum_cons, List.sum_nil]; omega)) (by first | exact Nat.le_of_ble_eq_true rfl | omega | (simp only [kR, Value.category, kCat_q, List.map, List.sum_cons, List.sum_nil]; omega)) (by first | exact Nat.le_of_ble_eq_true rfl | omega | (simp only [kR, Value.category, kCat_q, List.map, List.sum_cons, List.sum_nil]; omega)) (by first | exact Nat.le_of_ble_eq_true rfl | omega | (simp only [kR, Value.category, kCat_q, List.map, List.sum_cons, List.sum_nil]; omega)) (fun _ hx => hx.elim) (fun v78 s78 hp78 => ?_)
      obtain ⟨⟨y, hy9, rfl⟩, e78⟩ := hp78
      rw [e78]
      refine kK.rev (y := .int (nI y)) rfl ?_
      obtain ⟨w, hw⟩ : ∃ w, w = x % 16 := ⟨_, rfl⟩
      obtain ⟨u, hu⟩ : ∃ u, u = x / 16 := ⟨_, rfl⟩
      refine k_istore B dL_mountain_81 (by decide) ?_
      try refine kK.set1 (by first | exact True.intro | rfl | exact kCat_q _) ?_
      refine k_iload B dL_mountain_83 rfl ?_
      refine k_bipush B (v := 16) dL_mountain_85 (by decide) ?_
      refine k_irem B dL_mountain_87 (by decide) ?_
      refine kK.rei (y := nI w) (by rw [hw]; exact nI_rem (b := 16) (by omega) (by decide) (by decide)) ?_
      refine k_istore B dL_mountain_88 (by decide) ?_
      try refine kK.set1 (by first | exact True.intro | rfl | exact kCat_q _) ?_
      refine k_iload B dL_mountain_90 rfl ?_
      refine k_bipush B (v := 16) dL_mountain_92 (by decide) ?_
      refine k_idiv B dL_mountain_94 (by decide) ?_
      refine kK.rei (y := nI u) (by rw [hu]; exact pk_div (d := 16) (by omega) (by decide) (by decide)) ?_
      refine k_istore B dL_mountain_95 (by decide) ?_
      try refine kK.set1 (by first | exact True.intro | rfl | exact kCat_q _) ?_
      by_cases hw6 : w < 6
      · have pass : ∀ r : Nat, r < 60 → kK p l e (kR 12 114000 600000) s m args below meth c D (kA σ s.heap.size) 13 (kQ below args s D σ (fun v _ => v = some (.int 1)) (fun _ => False) 114000 600000) s1 (100 + 200 * j + 9000 * (j / 10)) (1000 + 1200 * j + 45000 * (j / 10)) 123 [some (.ref b9), some (.int (nI at9)), some (.ref q0), some (.ref q10), some (.ref q15), some (.ref q21), some (.ref q27), some (.int 1), some (.int (nI j)), none, none, none, none] [.int (nI r), .ref q0] := by
          intro r hr
          refine k_aload_n B dL_mountain_123 rfl (by first | exact kRf_r _ | exact kRf_q _ | exact kRf_n) ?_
          refine k_aload B dL_mountain_124 rfl (by first | exact kRf_r _ | exact kRf_q _ | exact kRf_n) ?_
          refine k_aload B dL_mountain_126 rfl (by first | exact kRf_r _ | exact kRf_q _ | exact kRf_n) ?_
          refine cl_L_136 B (c_L_passes hl hs hz hW (by omega) hr) dL_mountain_128 (by first | exact Nat.le_of_ble_eq_true rfl | omega | (simp only [kR, Value.category, kCat_q, List.map, List.sum_cons, List.sum_nil]; omega)) (by first | exact Nat.le_of_ble_eq_true rfl | omega | (simp only [kR, Value.category, kCat_q, List.map, List.sum_cons, List.sum_nil]; omega)) (by first | exact Nat.le_of_ble_eq_true rfl | omega | (simp only [kR, Value.category, kCat_q, List.map, List.sum_cons, List.sum_nil]; omega)) (by first | exact Nat.le_of_ble_eq_true rfl | omega | (simp only [kR, Value.category, kCat_q, List.map, List.sum_cons, List.sum_nil]; omega)) (by first | exact Nat.le_of_ble_eq_true rfl | omega | (simp only [kR, Value.category, kCat_q, List.map, List.sum_cons, List.sum_nil]; omega)) (fun _ hx => hx.elim) (fun v128 s128 hp128 => ?_)
          obtain ⟨rfl, hW2⟩ := hp128
          refine kK.rev (y := .int 1) rfl ?_
          refine k_istore B dL_mountain_131 (by decide) ?_
          try refine kK.set1 (by first | exact True.intro | rfl | exact kCat_q _) ?_
          refine k_goto B 195 dL_mountain_133 (by decide) ?_
          refine kK.sub (L2 := [some (.ref b9), some (.int (nI at9)), some (.ref q0), some (.ref q10), some (.ref q15), some (.ref q21), some (.ref q27), some (.int 1), some (.int (nI j)), none, none, none, none]) ⟨Or.inr rfl, Or.inr rfl, Or.inr rfl, Or.inr rfl, Or.inr rfl, Or.inr rfl, Or.inr rfl, Or.inr rfl, Or.inr rfl, Or.inl rfl, Or.inl rfl, Or.inl rfl, Or.inl rfl, trivial⟩ ?_
          exact join _ _ _ _ _ (oneS_ok hs (by omega) (by omega)) (zI_one hs hz) (jR_one hs (by omega) hJ) (by rw [oneS_now]; omega) hW2 (by omega) (by omega)
        by_cases h5 : u % 5 = 0
        · refine k_iload B dL_mountain_97 rfl ?_
          refine k_bipush B (v := 6) dL_mountain_99 (by decide) ?_
          refine k_icmp_ge B 136 dL_mountain_101 (by decide) (fun c9 => absurd c9 (fun q => nI_ge (b := 6) hw6 (by decide) q)) (fun _ => ?_)
          refine k_aload_n B dL_mountain_104 rfl (by first | exact kRf_r _ | exact kRf_q _ | exact kRf_n) ?_
          refine k_iload B dL_mountain_105 rfl ?_
          refine k_iconst B (v := 5) dL_mountain_107 (by decide) ?_
          refine k_irem B dL_mountain_108 (by decide) ?_
          refine kK.rei (y := nI (u % 5)) (nI_rem (b := 5) (by omega) (by decide) (by decide)) ?_
          refine k_if_ne B 116 dL_mountain_109 (by decide) (fun c9 => (c9 (by rw [h5]; rfl)).elim) (fun _ => ?_)
          refine k_iconst B (v := 0) dL_mountain_112 (by decide) ?_
          refine kK.rei (y := nI 0) (nI_0.symm) ?_
          refine k_goto B 123 dL_mountain_113 (by decide) ?_
          refine kK.rei (y := nI 0) nI_0.symm ?_
          refine kK.sub (L2 := [some (.ref b9), some (.int (nI at9)), some (.ref q0), some (.ref q10), some (.ref q15), some (.ref q21), some (.ref q27), some (.int 1), some (.int (nI j)), none, none, none, none]) ⟨Or.inr rfl, Or.inr rfl, Or.inr rfl, Or.inr rfl, Or.inr rfl, Or.inr rfl, Or.inr rfl, Or.inr rfl, Or.inr rfl, Or.inl rfl, Or.inl rfl, Or.inl rfl, Or.inl rfl, trivial⟩ ?_
          exact pass 0 (by decide)
        · refine k_iload B dL_mountain_97 rfl ?_
          refine k_bipush B (v := 6) dL_mountain_99 (by decide) ?_
          refine k_icmp_ge B 136 dL_mountain_101 (by decide) (fun c9 => absurd c9 (fun q => nI_ge (b := 6) hw6 (by decide) q)) (fun _ => ?_)
          refine k_aload_n B dL_mountain_104 rfl (by first | exact kRf_r _ | exact kRf_q _ | exact kRf_n) ?_
          refine k_iload B dL_mountain_105 rfl ?_
          refine k_iconst B (v := 5) dL_mountain_107 (by decide) ?_
          refine k_irem B dL_mountain_108 (by decide) ?_
          refine kK.rei (y := nI (u % 5)) (nI_rem (b := 5) (by omega) (by decide) (by decide)) ?_
          refine k_if_ne B 116 dL_mountain_109 (by decide) (fun _ => ?_) (fun c9 => absurd c9 (nI_ne0 (by omega) (by omega)))
          refine k_iload B dL_mountain_116 rfl ?_
          refine k_iconst B (v := 5) dL_mountain_118 (by decide) ?_
          refine k_idiv B dL_mountain_119 (by decide) ?_
          refine kK.rei (y := nI (u / 5)) (pk_div (d := 5) (by omega) (by decide) (by decide)) ?_
          refine k_bipush B (v := 60) dL_mountain_120 (by decide) ?_
          refine k_irem B dL_mountain_122 (by decide) ?_
          refine kK.rei (y := nI (u / 5 % 60)) (nI_rem (b := 60) (by omega) (by decide) (by decide)) ?_
          refine kK.sub (L2 := [some (.ref b9), some (.int (nI at9)), some (.ref q0), some (.ref q10), some (.ref q15), some (.ref q21), some (.ref q27), some (.int 1), some (.int (nI j)), none, none, none, none]) ⟨Or.inr rfl, Or.inr rfl, Or.inr rfl, Or.inr rfl, Or.inr rfl, Or.inr rfl, Or.inr rfl, Or.inr rfl, Or.inr rfl, Or.inl rfl, Or.inl rfl, Or.inl rfl, Or.inl rfl, trivial⟩ ?_
          exact pass _ (by omega)
      · by_cases hw10 : w < 10
        · refine k_iload B dL_mountain_97 rfl ?_
          refine k_bipush B (v := 6) dL_mountain_99 (by decide) ?_
          refine k_icmp_ge B 136 dL_mountain_101 (by decide) (fun _ => ?_) (fun c9 => (c9 (nI_le (a := 6) (by omega) (by omega))).elim)
          refine k_iload B dL_mountain_136 rfl ?_
          refine k_bipush B (v := 10) dL_mountain_138 (by decide) ?_
          refine k_icmp_ge B 161 dL_mountain_140 (by decide) (fun c9 => absurd c9 (fun q => nI_ge (b := 10) hw10 (by decide) q)) (fun _ => ?_)
          refine k_aload_n B dL_mountain_143 rfl (by first | exact kRf_r _ | exact kRf_q _ | exact kRf_n) ?_
          refine k_iload B dL_mountain_144 rfl ?_
          refine k_iload B dL_mountain_146 rfl ?_
          refine k_aload_n B dL_mountain_148 rfl (by first | exact kRf_r _ | exact kRf_q _ | exact kRf_n) ?_
          refine k_aload B dL_mountain_149 rfl (by first | exact kRf_r _ | exact kRf_q _ | exact kRf_n) ?_
          refine k_aload B dL_mountain_151 rfl (by first | exact kRf_r _ | exact kRf_q _ | exact kRf_n) ?_
          refine cl_L_140 B (c_L_others hl hs hz hJ hW (x := u) (y := y) (by omega) (by omega)) dL_mountain_153 (by first | exact Nat.le_of_ble_eq_true rfl | omega | (simp only [kR, Value.category, kCat_q, List.map, List.sum_cons, List.sum_nil]; omega)) (by first | exact Nat.le_of_ble_eq_true rfl | omega | (simp only [kR, Value.category, kCat_q, List.map, List.sum_cons, List.sum_nil]; omega)) (by first | exact Nat.le_of_ble_eq_true rfl | omega | (simp only [kR, Value.category, kCat_q, List.map, List.sum_cons, List.sum_nil]; omega)) (by first | exact Nat.le_of_ble_eq_true rfl | omega | (simp only [kR, Value.category, kCat_q, List.map, List.sum_cons, List.sum_nil]; omega)) (by first | exact Nat.le_of_ble_eq_true rfl | omega | (simp only [kR, Value.category, kCat_q, List.map, List.sum_cons, List.sum_nil]; omega)) (fun _ hx => hx.elim) (fun v153 s153 hp153 => ?_)
          obtain ⟨rfl, z2, J2, hs2, hz2, hJ2, hy2, hW2⟩ := hp153
          refine kK.rev (y := .int 1) rfl ?_
          refine k_istore B dL_mountain_156 (by decide) ?_
          try refine kK.set1 (by first | exact True.intro | rfl | exact kCat_q _) ?_
          refine k_goto B 195 dL_mountain_158 (by decide) ?_
          refine kK.sub (L2 := [some (.ref b9), some (.int (nI at9)), some (.ref q0), some (.ref q10), some (.ref q15), some (.ref q21), some (.ref q27), some (.int 1), some (.int (nI j)), none, none, none, none]) ⟨Or.inr rfl, Or.inr rfl, Or.inr rfl, Or.inr rfl, Or.inr rfl, Or.inr rfl, Or.inr rfl, Or.inr rfl, Or.inr rfl, Or.inl rfl, Or.inl rfl, Or.inl rfl, Or.inl rfl, trivial⟩ ?_
          exact join _ _ _ _ _ hs2 hz2 hJ2 (by omega) hW2 (by omega) (by omega)
        · by_cases hw13 : w < 13
          · refine k_iload B dL_mountain_97 rfl ?_
            refine k_bipush B (v := 6) dL_mountain_99 (by decide) ?_
            refine k_icmp_ge B 136 dL_mountain_101 (by decide) (fun _ => ?_) (fun c9 => (c9 (nI_le (a := 6) (by omega) (by omega))).elim)
            refine k_iload B dL_mountain_136 rfl ?_
            refine k_bipush B (v := 10) dL_mountain_138 (by decide) ?_
            refine k_icmp_ge B 161 dL_mountain_140 (by decide) (fun _ => ?_) (fun c9 => (c9 (nI_le (a := 10) (by omega) (by omega))).elim)
            refine k_iload B dL_mountain_161 rfl ?_
            refine k_bipush B (v := 13) dL_mountain_163 (by decide) ?_
            refine k_icmp_ge B 182 dL_mountain_165 (by decide) (fun c9 => absurd c9 (fun q => nI_ge (b := 13) hw13 (by decide) q)) (fun _ => ?_)
            refine k_aload_n B dL_mountain_168 rfl (by first | exact kRf_r _ | exact kRf_q _ | exact kRf_n) ?_
            refine k_iload B dL_mountain_169 rfl ?_
            refine k_iload B dL_mountain_171 rfl ?_
            refine k_aload_n B dL_mountain_173 rfl (by first | exact kRf_r _ | exact kRf_q _ | exact kRf_n) ?_
            refine k_aload B dL_mountain_174 rfl (by first | exact kRf_r _ | exact kRf_q _ | exact kRf_n) ?_
            refine cl_L_144 B (c_L_bottles hl hs hz hJ hW (x := u) (y := y) (by omega) (by omega)) dL_mountain_176 (by first | exact Nat.le_of_ble_eq_true rfl | omega | (simp only [kR, Value.category, kCat_q, List.map, List.sum_cons, List.sum_nil]; omega)) (by first | exact Nat.le_of_ble_eq_true rfl | omega | (simp only [kR, Value.category, kCat_q, List.map, List.sum_cons, List.sum_nil]; omega)) (by first | exact Nat.le_of_ble_eq_true rfl | omega | (simp only [kR, Value.category, kCat_q, List.map, List.sum_cons, List.sum_nil]; omega)) (by first | exact Nat.le_of_ble_eq_true rfl | omega | (simp only [kR, Value.category, kCat_q, List.map, List.sum_cons, List.sum_nil]; omega)) (by first | exact Nat.le_of_ble_eq_true rfl | omega | (simp only [kR, Value.category, kCat_q, List.map, List.sum_cons, List.sum_nil]; omega)) (fun _ hx => hx.elim) (fun v176 s176 hp176 => ?_)
            obtain ⟨rfl, z2, J2, hs2, hz2, hJ2, hy2, hW2⟩ := hp176
            refine kK.rev (y := .int 1) rfl ?_
            refine k_goto B 193 dL_mountain_179 (by decide) ?_
            refine k_istore B dL_mountain_193 (by decide) ?_
            try refine kK.set1 (by first | exact True.intro | rfl | exact kCat_q _) ?_
            refine kK.sub (L2 := [some (.ref b9), some (.int (nI at9)), some (.ref q0), some (.ref q10), some (.ref q15), some (.ref q21), some (.ref q27), some (.int 1), some (.int (nI j)), none, none, none, none]) ⟨Or.inr rfl, Or.inr rfl, Or.inr rfl, Or.inr rfl, Or.inr rfl, Or.inr rfl, Or.inr rfl, Or.inr rfl, Or.inr rfl, Or.inl rfl, Or.inl rfl, Or.inl rfl, Or.inl rfl, trivial⟩ ?_
            exact join _ _ _ _ _ hs2 hz2 hJ2 (by omega) hW2 (by omega) (by omega)
          · refine k_iload B dL_mountain_97 rfl ?_
            refine k_bipush B (v := 6) dL_mountain_99 (by decide) ?_
            refine k_icmp_ge B 136 dL_mountain_101 (by decide) (fun _ => ?_) (fun c9 => (c9 (nI_le (a := 6) (by omega) (by omega))).elim)
            refine k_iload B dL_mountain_136 rfl ?_
            refine k_bipush B (v := 10) dL_mountain_138 (by decide) ?_
            refine k_icmp_ge B 161 dL_mountain_140 (by decide) (fun _ => ?_) (fun c9 => (c9 (nI_le (a := 10) (by omega) (by omega))).elim)
            refine k_iload B dL_mountain_161 rfl ?_
            refine k_bipush B (v := 13) dL_mountain_163 (by decide) ?_
            refine k_icmp_ge B 182 dL_mountain_165 (by decide) (fun _ => ?_) (fun c9 => (c9 (nI_le (a := 13) (by omega) (by omega))).elim)
            refine k_aload_n B dL_mountain_182 rfl (by first | exact kRf_r _ | exact kRf_q _ | exact kRf_n) ?_
            refine k_iload B dL_mountain_183 rfl ?_
            refine k_iload B dL_mountain_185 rfl ?_
            refine k_aload_n B dL_mountain_187 rfl (by first | exact kRf_r _ | exact kRf_q _ | exact kRf_n) ?_
            refine k_aload B dL_mountain_188 rfl (by first | exact kRf_r _ | exact kRf_q _ | exact kRf_n) ?_
            refine cl_L_148 B (c_L_ofLots hl hs hz hJ hW (x := u) (y := y) (by omega) (by omega)) dL_mountain_190 (by first | exact Nat.le_of_ble_eq_true rfl | omega | (simp only [kR, Value.category, kCat_q, List.map, List.sum_cons, List.sum_nil]; omega)) (by first | exact Nat.le_of_ble_eq_true rfl | omega | (simp only [kR, Value.category, kCat_q, List.map, List.sum_cons, List.sum_nil]; omega)) (by first | exact Nat.le_of_ble_eq_true rfl | omega | (simp only [kR, Value.category, kCat_q, List.map, List.sum_cons, List.sum_nil]; omega)) (by first | exact Nat.le_of_ble_eq_true rfl | omega | (simp only [kR, Value.category, kCat_q, List.map, List.sum_cons, List.sum_nil]; omega)) (by first | exact Nat.le_of_ble_eq_true rfl | omega | (simp only [kR, Value.category, kCat_q, List.map, List.sum_cons, List.sum_nil]; omega)) (fun _ hx => hx.elim) (fun v190 s190 hp190 => ?_)
            obtain ⟨rfl, z2, J2, hs2, hz2, hJ2, hy2, hW2⟩ := hp190
            refine kK.rev (y := .int 1) rfl ?_
            refine k_istore B dL_mountain_193 (by decide) ?_
            try refine kK.set1 (by first | exact True.intro | rfl | exact kCat_q _) ?_
            refine kK.sub (L2 := [some (.ref b9), some (.int (nI at9)), some (.ref q0), some (.ref q10), some (.ref q15), some (.ref q21), some (.ref q27), some (.int 1), some (.int (nI j)), none, none, none, none]) ⟨Or.inr rfl, Or.inr rfl, Or.inr rfl, Or.inr rfl, Or.inr rfl, Or.inr rfl, Or.inr rfl, Or.inr rfl, Or.inr rfl, Or.inl rfl, Or.inl rfl, Or.inl rfl, Or.inl rfl, trivial⟩ ?_
            exact join _ _ _ _ _ hs2 hz2 hJ2 (by omega) hW2 (by omega) (by omega)
  refine kK.sub (L2 := [some (.ref b9), some (.int (nI at9)), some (.ref q0), some (.ref q10), some (.ref q15), some (.ref q21), some (.ref q27), some (.int 1), some (.int (nI 0)), none, none, none, none]) ⟨Or.inr rfl, Or.inr rfl, Or.inr rfl, Or.inr rfl, Or.inr rfl, Or.inr rfl, Or.inr rfl, Or.inr rfl, Or.inr ((by rw [nI_0])), Or.inl rfl, Or.inl rfl, Or.inl rfl, Or.inl rfl, trivial⟩ ?_
  exact kK.widen (by omega) (by omega) (loop 80 0 st0 [] kF0 s37 (by omega) ok_st0 zI_st0 jR_st0 (by decide) (Nat.le_refl _) hW)
end Mountain
