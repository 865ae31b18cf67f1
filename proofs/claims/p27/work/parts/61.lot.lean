theorem lb_sub (x : Int32) : x + 1 - 1 = x := Int32.add_sub_cancel x 1
theorem tru_1 {lb tr : Int32} (h : lb = -1) : truI lb tr = -1 := if_pos h
theorem tru_2 {lb tr rc : Int32} (h : lbOk lb tr rc) (hn : ¬ lb = -1) : truI lb tr = tr := by
  rw [truI, if_neg hn]
  rcases h.2.1 with q | q <;> subst q <;> decide
theorem rc_2 {lb tr rc : Int32} (h : lbOk lb tr rc) : (if rc = 0 then (0 : Int32) else 1) = rc := by
  rcases h.2.2 with q | q <;> subst q <;> decide
theorem lb_neg {lb tr rc : Int32} (h : lbOk lb tr rc) : lb < 0 ↔ lb = -1 := by
  rcases h.1 with q | q | q | q <;> subst q <;> decide
section IsLot
variable {l : Launch} {D : va_G} {σ : kS} {aO ac ah : Nat} {z : kSt} {J : List kJe} {F : kF} {fc fh : Nat → Int32}
set_option maxHeartbeats 2000000 in
set_option maxRecDepth 100000 in
theorem c_L_isLot (hl : l.stackTraces = false) (hs : sOk z) (h : cl9 D aO z J F σ) (hz : zI z) (hJ : jR z J) (hcn : cnt F ≤ 3400) (hc : σ ac = some (iA D 8 fc)) (c3 : fc 3 = sFb z) (hh : σ ah = some (iA D 40 fh)) {i : Nat} (hi : i < sLn z) (hhi : fh i = hV (sLo z i)) : kMh hL_isLot l D yL_isLot 10 (130 + (cnt (lotF z J i F 8) - cnt F)) (800 + 3 * (cnt (lotF z J i F 8) - cnt F)) [.ref aO, .int (nI i), .ref ac, .ref ah] σ (fun v s2 => v = some (.int 1) ∧ cl9 D aO z J (lotF z J i F 8) s2 ∧ kFr k9F σ s2) (fun _ => False) := by
  refine kM_of (L := [some (.ref aO), some (.int (nI i)), some (.ref ac), some (.ref ah), none, none, none, none, none, none, none, none]) (by decide +kernel) hl (List.forall_mem_cons.mpr ⟨rfl, (List.forall_mem_cons.mpr ⟨rfl, (List.forall_mem_cons.mpr ⟨rfl, (List.forall_mem_cons.mpr ⟨rfl, (fun _ h => absurd h List.not_mem_nil)⟩)⟩)⟩)⟩) (Nat.le_of_ble_eq_true rfl) rfl ?_
  intro p e s m args below meth c B hr hex hnm
  have B : kB p l s m args meth c D (kA σ s.heap.size) 12 cL_isLot RL := B
  have h40 := hs.2.2.2.1.1
  have i40 : i < 40 := by omega
  have hlt := hs.2.2.2.1.2 i hi
  have hb : (sLo z i).2.1 ≤ 300 := Nat.le_trans hlt.2.1 hs.1.1
  have hpk := hlt.2.2.2.2.2.1
  have hu1 := hlt.2.2.2.2.2.2.1
  have hu2 := hlt.2.2.2.2.2.2.2
  have hni := (hs.lot hi).1
  have hlb := hs.lb hi
  obtain ⟨y1, y2, y3, ey, eo⟩ := yr_s (un_ne hu1) (fun q hq => (hpk q hq).2.1)
  obtain ⟨ag1, ag2⟩ := age_s hu1 hu2 hb (fun q hq => (hpk q hq).2.1)
  have n1 := ni_s (hz.1 (11 + i) (by omega))
  have n2 : niS (sR z (11 + i)) ≤ 10 * unS (sR z (11 + i)) := niS_le hpk
  have e10 : fh i / 100 = (sLo z i).2.2.2.2.2 := by rw [hhi]; exact hW_3 hlb
  have loop : ∀ (n9 j : Nat) (s1 : kS), j + n9 = 8 → cl9 D aO z J (lotF z J i F j) s1 → kFr k9F σ s1 → kK p l e (kR 10 (130 + (cnt (lotF z J i F 8) - cnt F)) (800 + 3 * (cnt (lotF z J i F 8) - cnt F))) s m args below meth c D (kA σ s.heap.size) 12 (kQ below args s D σ (fun v s2 => v = some (.int 1) ∧ cl9 D aO z J (lotF z J i F 8) s2 ∧ kFr k9F σ s2) (fun _ => False) (130 + (cnt (lotF z J i F 8) - cnt F)) (800 + 3 * (cnt (lotF z J i F 8) - cnt F))) s1 (60 + 8 * j + (cnt (lotF z J i F j) - cnt F)) (360 + 48 * j + 3 * (cnt (lotF z J i F j) - cnt F)) 231 [some (.ref aO), some (.int (nI i)), some (.ref ac), some (.ref ah), none, none, none, none, some (.int 1), none, some (.int (nI j)), none] [] := by
    intro n9
    induction n9 with
    | zero =>
      intro j s1 hj h1 f1
      have hj8 : j = 8 := by omega
      subst hj8
      refine k_iload B dL_isLot_231 rfl ?_
      refine k_bipush B (v := 8) dL_isLot_233 (by decide) ?_
      refine k_icmp_ge B 343 dL_isLot_235 (by decide) (fun _ => ?_) (fun c9 => (c9 (by decide)).elim)
      refine k_iload B dL_isLot_343 rfl ?_
      refine k_zret B hr dL_isLot_345 (by rfl) ?_ (by first | exact Nat.le_of_ble_eq_true rfl | omega | (simp only [kR, Value.category, kCat_q, List.map, List.sum_cons, List.sum_nil]; omega)) (by first | exact Nat.le_of_ble_eq_true rfl | omega | (simp only [kR, Value.category, kCat_q, List.map, List.sum_cons, List.sum_nil]; omega))
      exact ⟨rfl, h1, f1⟩
    | succ n9 ih =>
      intro j s1 hj h1 f1
      have hj8 : j < 8 := by omega
      have hcj := lotF_cnt (F := F) hs hJ hi hcn j
      have hcj1 := lotF_cnt (F := F) hs hJ hi hcn (j + 1)
      have hc8 : cnt (lotF z J i F (j + 1)) ≤ cnt (lotF z J i F 8) := by
        have := lotF_mono hs hJ hi hcn (j + 1) (7 - j)
        rw [show j + 1 + (7 - j) = 8 by omega] at this
        exact this
      have hc7 : cnt (lotF z J i F j) ≤ cnt (lotF z J i F 8) := by
        have := lotF_mono hs hJ hi hcn j (8 - j)
        rw [show j + (8 - j) = 8 by omega] at this
        exact this
      refine k_iload B dL_isLot_231 rfl ?_
      refine k_bipush B (v := 8) dL_isLot_233 (by decide) ?_
      refine k_icmp_ge B 343 dL_isLot_235 (by decide) (fun c9 => absurd c9 (fun q => nI_ge hj8 (by decide) q)) (fun _ => ?_)
      refine k_iload B dL_isLot_238 rfl ?_
      refine k_if_eq B 343 dL_isLot_240 (by decide) (fun c9 => absurd c9 (by decide)) (fun _ => ?_)
      cases he : eaC (bitI (nI j)) (sR z (11 + i)) none with
      | none =>
        have he0 := (eaC_none he).2
        have hb0 : ¬ ((coS (sR z (11 + i)) 0 >>> (nI j &&& 31)) &&& 1 = 1) := fun q => (bit_t _ hj8).mp q ((co_bit hj8 _ 0).mpr ⟨zero_bit hj8, he0⟩)
        refine k_aload_n B dL_isLot_243 rfl (by first | exact kRf_r _ | exact kRf_q _ | exact kRf_n) ?_
        refine k_iload_n B dL_isLot_244 rfl ?_
        refine k_iload B dL_isLot_245 rfl ?_
        refine cl_L_72 B (c_X9_whence hl hs h1) (h1.rv.choose_spec) dL_isLot_247 (by first | exact Nat.le_of_ble_eq_true rfl | omega | (simp only [kR, Value.category, kCat_q, List.map, List.sum_cons, List.sum_nil]; omega)) (by first | exact Nat.le_of_ble_eq_true rfl | omega | (simp only [kR, Value.category, kCat_q, List.map, List.sum_cons, List.sum_nil]; omega)) (by first | exact Nat.le_of_ble_eq_true rfl | omega | (simp only [kR, Value.category, kCat_q, List.map, List.sum_cons, List.sum_nil]; omega)) (by first | exact Nat.le_of_ble_eq_true rfl | omega | (simp only [kR, Value.category, kCat_q, List.map, List.sum_cons, List.sum_nil]; omega)) (by first | exact Nat.le_of_ble_eq_true rfl | omega | (simp only [kR, Value.category, kCat_q, List.map, List.sum_cons, List.sum_nil]; omega)) (noE (gWh hi hs.2.2.2.1.1 hj8)) (rdI (rWh (Nat.lt_of_lt_of_le hi hs.2.2.2.1.1)) ?_)
        refine kK.rei (y := -1) (by rw [he]; rfl) ?_
        refine k_istore B dL_isLot_250 (by decide) ?_
        try refine kK.set1 (by first | exact True.intro | rfl | exact kCat_q _) ?_
        refine k_iload B dL_isLot_252 rfl ?_
        refine k_if_lt B 261 dL_isLot_254 (by decide) (fun _ => ?_) (fun c9 => (c9 (by decide)).elim)
        refine k_iconst B (v := 0) dL_isLot_261 (by decide) ?_
        refine k_aload_n B dL_isLot_262 rfl (by first | exact kRf_r _ | exact kRf_q _ | exact kRf_n) ?_
        refine k_iload_n B dL_isLot_263 rfl ?_
        refine k_iconst B (v := 4) dL_isLot_264 (by decide) ?_
        refine cl_L_36 B (c_X9_lotOf hl hs h1) (h1.rv.choose_spec) dL_isLot_265 (by first | exact Nat.le_of_ble_eq_true rfl | omega | (simp only [kR, Value.category, kCat_q, List.map, List.sum_cons, List.sum_nil]; omega)) (by first | exact Nat.le_of_ble_eq_true rfl | omega | (simp only [kR, Value.category, kCat_q, List.map, List.sum_cons, List.sum_nil]; omega)) (by first | exact Nat.le_of_ble_eq_true rfl | omega | (simp only [kR, Value.category, kCat_q, List.map, List.sum_cons, List.sum_nil]; omega)) (by first | exact Nat.le_of_ble_eq_true rfl | omega | (simp only [kR, Value.category, kCat_q, List.map, List.sum_cons, List.sum_nil]; omega)) (by first | exact Nat.le_of_ble_eq_true rfl | omega | (simp only [kR, Value.category, kCat_q, List.map, List.sum_cons, List.sum_nil]; omega)) (noE (gLf hi hs.2.2.2.1.1 ⟨by decide, by decide⟩)) (rdI (rLo4 (Nat.lt_of_lt_of_le hi hs.2.2.2.1.1)) ?_)
        refine k_iload B dL_isLot_268 rfl ?_
        refine k_ishr B dL_isLot_270 ?_
        refine k_iconst B (v := 1) dL_isLot_271 (by decide) ?_
        refine k_iand B dL_isLot_272 ?_
        refine k_iconst B (v := 1) dL_isLot_273 (by decide) ?_
        refine k_icmp_ne B 281 dL_isLot_274 (by decide) (fun _ => ?_) (fun c9 => absurd c9 (hb0))
        refine k_iconst B (v := 0) dL_isLot_281 (by decide) ?_
        refine k_icmp_ne B 334 dL_isLot_282 (by decide) (fun c9 => (c9 (rfl)).elim) (fun _ => ?_)
        refine k_iload B dL_isLot_285 rfl ?_
        refine k_if_lt B 330 dL_isLot_287 (by decide) (fun _ => ?_) (fun c9 => (c9 (by decide)).elim)
        refine k_iconst B (v := 1) dL_isLot_330 (by decide) ?_
        refine k_goto B 335 dL_isLot_331 (by decide) ?_
        refine k_istore B dL_isLot_335 (by decide) ?_
        try refine kK.set1 (by first | exact True.intro | rfl | exact kCat_q _) ?_
        refine k_iincN (y := nI (j + 1)) B dL_isLot_337 rfl (by decide) (nI_1 j) ?_
        try refine kK.set1 (by first | exact True.intro | rfl | exact kCat_q _) ?_
        refine k_goto B 231 dL_isLot_340 (by decide) ?_
        refine kK.sub (L2 := [some (.ref aO), some (.int (nI i)), some (.ref ac), some (.ref ah), none, none, none, none, some (.int 1), none, some (.int (nI (j + 1))), none]) ⟨Or.inr rfl, Or.inr rfl, Or.inr rfl, Or.inr rfl, Or.inl rfl, Or.inl rfl, Or.inl rfl, Or.inl rfl, Or.inr rfl, Or.inl rfl, Or.inr rfl, Or.inl rfl, trivial⟩ ?_
        have hi9 := ih (j + 1) s1 (by omega) (by rw [lotF_none he]; exact h1) f1
        rw [lotF_none he] at hi9
        exact kK.widen (by omega) (by omega) hi9
      | some q =>
        have hqm : q ∈ sR z (11 + i) ∧ ¬ q.2.2.2.1 &&& bitI (nI j) = 0 := by
          rcases eaC_some he with h | h
          · exact h
          · cases h
        have hp := hpk q hqm.1
        have hb1 : (coS (sR z (11 + i)) 0 >>> (nI j &&& 31)) &&& 1 = 1 := (bit_t _ hj8).mpr (fun x => hqm.2 (((co_bit hj8 _ 0).mp x).2 q hqm.1))
        have hfr := frS_pos hqm.1 hp.2.2.2
        have hfl := frS_le (c := nI q.1) (y := nI q.2.1) (P := sR z (11 + i))
        have hq1 := hp.1
        have hq2 := hp.2.1
        obtain ⟨d1, d2⟩ := fa_cnt (p0 := nI i) (p1 := nI q.1) (p2 := nI q.2.1) hs hJ hcj.2
        obtain ⟨d3, d4⟩ := d2 (gFr hi h40 hq1)
        have hstep : cnt (lotF z J i F (j + 1)) = cnt (lotF z J i F j) + faC z (nI i) (nI q.1) (nI q.2.1) J (lotF z J i F j) := by rw [lotF_some he]; exact d4
        refine k_aload_n B dL_isLot_243 rfl (by first | exact kRf_r _ | exact kRf_q _ | exact kRf_n) ?_
        refine k_iload_n B dL_isLot_244 rfl ?_
        refine k_iload B dL_isLot_245 rfl ?_
        refine cl_L_72 B (c_X9_whence hl hs h1) (h1.rv.choose_spec) dL_isLot_247 (by first | exact Nat.le_of_ble_eq_true rfl | omega | (simp only [kR, Value.category, kCat_q, List.map, List.sum_cons, List.sum_nil]; omega)) (by first | exact Nat.le_of_ble_eq_true rfl | omega | (simp only [kR, Value.category, kCat_q, List.map, List.sum_cons, List.sum_nil]; omega)) (by first | exact Nat.le_of_ble_eq_true rfl | omega | (simp only [kR, Value.category, kCat_q, List.map, List.sum_cons, List.sum_nil]; omega)) (by first | exact Nat.le_of_ble_eq_true rfl | omega | (simp only [kR, Value.category, kCat_q, List.map, List.sum_cons, List.sum_nil]; omega)) (by first | exact Nat.le_of_ble_eq_true rfl | omega | (simp only [kR, Value.category, kCat_q, List.map, List.sum_cons, List.sum_nil]; omega)) (noE (gWh hi hs.2.2.2.1.1 hj8)) (rdI (rWh (Nat.lt_of_lt_of_le hi hs.2.2.2.1.1)) ?_)
        refine kK.rei (y := nI (1000 * q.1 + q.2.1)) (by rw [he]; show 1000 * nI q.1 + nI q.2.1 = _; rw [show (1000 : Int32) * nI q.1 = nI (1000 * q.1) from nI_mul 1000 q.1, nI_add]) ?_
        refine k_istore B dL_isLot_250 (by decide) ?_
        try refine kK.set1 (by first | exact True.intro | rfl | exact kCat_q _) ?_
        refine k_iload B dL_isLot_252 rfl ?_
        refine k_if_lt B 261 dL_isLot_254 (by decide) (fun c9 => absurd c9 (nI_pos (by omega))) (fun _ => ?_)
        refine k_iconst B (v := 1) dL_isLot_257 (by decide) ?_
        refine k_goto B 262 dL_isLot_258 (by decide) ?_
        refine k_aload_n B dL_isLot_262 rfl (by first | exact kRf_r _ | exact kRf_q _ | exact kRf_n) ?_
        refine k_iload_n B dL_isLot_263 rfl ?_
        refine k_iconst B (v := 4) dL_isLot_264 (by decide) ?_
        refine cl_L_36 B (c_X9_lotOf hl hs h1) (h1.rv.choose_spec) dL_isLot_265 (by first | exact Nat.le_of_ble_eq_true rfl | omega | (simp only [kR, Value.category, kCat_q, List.map, List.sum_cons, List.sum_nil]; omega)) (by first | exact Nat.le_of_ble_eq_true rfl | omega | (simp only [kR, Value.category, kCat_q, List.map, List.sum_cons, List.sum_nil]; omega)) (by first | exact Nat.le_of_ble_eq_true rfl | omega | (simp only [kR, Value.category, kCat_q, List.map, List.sum_cons, List.sum_nil]; omega)) (by first | exact Nat.le_of_ble_eq_true rfl | omega | (simp only [kR, Value.category, kCat_q, List.map, List.sum_cons, List.sum_nil]; omega)) (by first | exact Nat.le_of_ble_eq_true rfl | omega | (simp only [kR, Value.category, kCat_q, List.map, List.sum_cons, List.sum_nil]; omega)) (noE (gLf hi hs.2.2.2.1.1 ⟨by decide, by decide⟩)) (rdI (rLo4 (Nat.lt_of_lt_of_le hi hs.2.2.2.1.1)) ?_)
        refine k_iload B dL_isLot_268 rfl ?_
        refine k_ishr B dL_isLot_270 ?_
        refine k_iconst B (v := 1) dL_isLot_271 (by decide) ?_
        refine k_iand B dL_isLot_272 ?_
        refine k_iconst B (v := 1) dL_isLot_273 (by decide) ?_
        refine k_icmp_ne B 281 dL_isLot_274 (by decide) (fun c9 => (c9 (hb1)).elim) (fun _ => ?_)
        refine k_iconst B (v := 1) dL_isLot_277 (by decide) ?_
        refine k_goto B 282 dL_isLot_278 (by decide) ?_
        refine k_icmp_ne B 334 dL_isLot_282 (by decide) (fun c9 => (c9 (rfl)).elim) (fun _ => ?_)
        refine k_iload B dL_isLot_285 rfl ?_
        refine k_if_lt B 330 dL_isLot_287 (by decide) (fun c9 => absurd c9 (nI_pos (by omega))) (fun _ => ?_)
        refine k_aload_n B dL_isLot_290 rfl (by first | exact kRf_r _ | exact kRf_q _ | exact kRf_n) ?_
        refine k_iload_n B dL_isLot_291 rfl ?_
        refine k_iload B dL_isLot_292 rfl ?_
        refine k_sipush B (v := 1000) dL_isLot_294 (by decide) ?_
        refine k_idiv B dL_isLot_297 (by decide) ?_
        refine kK.rei (y := nI q.1) ((pk_div (d := 1000) (by omega) (by decide) (by decide)).trans (congrArg nI (by omega))) ?_
        refine k_iload B dL_isLot_298 rfl ?_
        refine k_sipush B (v := 1000) dL_isLot_300 (by decide) ?_
        refine k_irem B dL_isLot_303 (by decide) ?_
        refine kK.rei (y := nI q.2.1) ((nI_rem (b := 1000) (by omega) (by decide) (by decide)).trans (congrArg nI (by omega))) ?_
        refine cl_L_75 B (c_X9_from hl hs h1) (h1.rv.choose_spec) dL_isLot_304 (by first | exact Nat.le_of_ble_eq_true rfl | omega | (simp only [kR, Value.category, kCat_q, List.map, List.sum_cons, List.sum_nil]; omega)) (by first | exact Nat.le_of_ble_eq_true rfl | omega | (simp only [kR, Value.category, kCat_q, List.map, List.sum_cons, List.sum_nil]; omega)) (by first | exact Nat.le_of_ble_eq_true rfl | omega | (simp only [kR, Value.category, kCat_q, List.map, List.sum_cons, List.sum_nil]; omega)) (by first | exact Nat.le_of_ble_eq_true rfl | omega | (simp only [kR, Value.category, kCat_q, List.map, List.sum_cons, List.sum_nil]; omega)) (by first | exact Nat.le_of_ble_eq_true rfl | omega | (simp only [kR, Value.category, kCat_q, List.map, List.sum_cons, List.sum_nil]; omega)) (noE (gFr hi hs.2.2.2.1.1 hq1)) (rdI (rFr (Nat.lt_of_lt_of_le hi hs.2.2.2.1.1)) ?_)
        refine k_if_le B 334 dL_isLot_307 (by decide) (fun c9 => absurd c9 (nI_nle (by omega) (by omega))) (fun _ => ?_)
        refine k_aload_n B dL_isLot_310 rfl (by first | exact kRf_r _ | exact kRf_q _ | exact kRf_n) ?_
        refine k_iload_n B dL_isLot_311 rfl ?_
        refine k_iload B dL_isLot_312 rfl ?_
        refine k_sipush B (v := 1000) dL_isLot_314 (by decide) ?_
        refine k_idiv B dL_isLot_317 (by decide) ?_
        refine kK.rei (y := nI q.1) ((pk_div (d := 1000) (by omega) (by decide) (by decide)).trans (congrArg nI (by omega))) ?_
        refine k_iload B dL_isLot_318 rfl ?_
        refine k_sipush B (v := 1000) dL_isLot_320 (by decide) ?_
        refine k_irem B dL_isLot_323 (by decide) ?_
        refine kK.rei (y := nI q.2.1) ((nI_rem (b := 1000) (by omega) (by decide) (by decide)).trans (congrArg nI (by omega))) ?_
        refine cl_L_79 B (c_X9_fromAnew hl hs h1 (jR_ok hJ)) (h1.rv.choose_spec) dL_isLot_324 (by first | exact Nat.le_of_ble_eq_true rfl | omega | (simp only [kR, Value.category, kCat_q, List.map, List.sum_cons, List.sum_nil]; omega)) (by first | exact Nat.le_of_ble_eq_true rfl | omega | (simp only [kR, Value.category, kCat_q, List.map, List.sum_cons, List.sum_nil]; omega)) (by first | exact Nat.le_of_ble_eq_true rfl | omega | (simp only [kR, Value.category, kCat_q, List.map, List.sum_cons, List.sum_nil]; omega)) (by first | exact Nat.le_of_ble_eq_true rfl | omega | (simp only [kR, Value.category, kCat_q, List.map, List.sum_cons, List.sum_nil]; omega)) (by first | exact Nat.le_of_ble_eq_true rfl | omega | (simp only [kR, Value.category, kCat_q, List.map, List.sum_cons, List.sum_nil]; omega)) (noE (gFr hi h40 hq1)) (fun v324 s324 hp324 => ?_)
        obtain ⟨-, e1, h2, f2⟩ := hp324
        rw [e1]
        refine kK.rev (y := .int (nI (frS (nI q.1) (nI q.2.1) (sR z (11 + i))))) (by rw [fa_val hs hJ (gFr hi h40 hq1), rFr i40]) ?_
        refine k_if_le B 334 dL_isLot_327 (by decide) (fun c9 => absurd c9 (nI_nle (by omega) (by omega))) (fun _ => ?_)
        refine k_iconst B (v := 1) dL_isLot_330 (by decide) ?_
        refine k_goto B 335 dL_isLot_331 (by decide) ?_
        refine k_istore B dL_isLot_335 (by decide) ?_
        try refine kK.set1 (by first | exact True.intro | rfl | exact kCat_q _) ?_
        refine k_iincN (y := nI (j + 1)) B dL_isLot_337 rfl (by decide) (nI_1 j) ?_
        try refine kK.set1 (by first | exact True.intro | rfl | exact kCat_q _) ?_
        refine k_goto B 231 dL_isLot_340 (by decide) ?_
        refine kK.sub (L2 := [some (.ref aO), some (.int (nI i)), some (.ref ac), some (.ref ah), none, none, none, none, some (.int 1), none, some (.int (nI (j + 1))), none]) ⟨Or.inr rfl, Or.inr rfl, Or.inr rfl, Or.inr rfl, Or.inl rfl, Or.inl rfl, Or.inl rfl, Or.inl rfl, Or.inr rfl, Or.inl rfl, Or.inr rfl, Or.inl rfl, trivial⟩ ?_
        exact kK.widen (by omega) (by omega) (ih (j + 1) s324 (by omega) (by rw [lotF_some he]; exact h2) (f1.tr f2))
  have rest : kK p l e (kR 10 (130 + (cnt (lotF z J i F 8) - cnt F)) (800 + 3 * (cnt (lotF z J i F 8) - cnt F))) s m args below meth c D (kA σ s.heap.size) 12 (kQ below args s D σ (fun v s2 => v = some (.int 1) ∧ cl9 D aO z J (lotF z J i F 8) s2 ∧ kFr k9F σ s2) (fun _ => False) (130 + (cnt (lotF z J i F 8) - cnt F)) (800 + 3 * (cnt (lotF z J i F 8) - cnt F))) σ 30 180 168 [some (.ref aO), some (.int (nI i)), some (.ref ac), some (.ref ah), none, none, none, none, none, none, none, none] [] := by
    have last : ∀ bst : Int32, bst = rBest z (nI i) → kK p l e (kR 10 (130 + (cnt (lotF z J i F 8) - cnt F)) (800 + 3 * (cnt (lotF z J i F 8) - cnt F))) s m args below meth c D (kA σ s.heap.size) 12 (kQ below args s D σ (fun v s2 => v = some (.int 1) ∧ cl9 D aO z J (lotF z J i F 8) s2 ∧ kFr k9F σ s2) (fun _ => False) (130 + (cnt (lotF z J i F 8) - cnt F)) (800 + 3 * (cnt (lotF z J i F 8) - cnt F))) σ 50 300 204 [some (.ref aO), some (.int (nI i)), some (.ref ac), some (.ref ah), none, none, none, none, some (.int 1), none, none, none] [.int bst] := by
      intro bst hbst
      subst hbst
      refine k_istore B dL_isLot_204 (by decide) ?_
      try refine kK.set1 (by first | exact True.intro | rfl | exact kCat_q _) ?_
      refine k_iload B dL_isLot_206 rfl ?_
      refine k_if_eq B 225 dL_isLot_208 (by decide) (fun c9 => absurd c9 (by decide)) (fun _ => ?_)
      refine k_aload_n B dL_isLot_211 rfl (by first | exact kRf_r _ | exact kRf_q _ | exact kRf_n) ?_
      refine k_iload_n B dL_isLot_212 rfl ?_
      refine cl_L_69 B (c_X9_best hl hs h) (h.rv.choose_spec) dL_isLot_213 (by first | exact Nat.le_of_ble_eq_true rfl | omega | (simp only [kR, Value.category, kCat_q, List.map, List.sum_cons, List.sum_nil]; omega)) (by first | exact Nat.le_of_ble_eq_true rfl | omega | (simp only [kR, Value.category, kCat_q, List.map, List.sum_cons, List.sum_nil]; omega)) (by first | exact Nat.le_of_ble_eq_true rfl | omega | (simp only [kR, Value.category, kCat_q, List.map, List.sum_cons, List.sum_nil]; omega)) (by first | exact Nat.le_of_ble_eq_true rfl | omega | (simp only [kR, Value.category, kCat_q, List.map, List.sum_cons, List.sum_nil]; omega)) (by first | exact Nat.le_of_ble_eq_true rfl | omega | (simp only [kR, Value.category, kCat_q, List.map, List.sum_cons, List.sum_nil]; omega)) (noE (gBe hi hs.2.2.2.1.1)) (rdI rfl ?_)
      refine k_iload B dL_isLot_216 rfl ?_
      refine k_icmp_ne B 225 dL_isLot_218 (by decide) (fun c9 => (c9 (rfl)).elim) (fun _ => ?_)
      refine k_iconst B (v := 1) dL_isLot_221 (by decide) ?_
      refine k_goto B 226 dL_isLot_222 (by decide) ?_
      refine k_istore B dL_isLot_226 (by decide) ?_
      try refine kK.set1 (by first | exact True.intro | rfl | exact kCat_q _) ?_
      refine k_iconst B (v := 0) dL_isLot_228 (by decide) ?_
      refine k_istore B dL_isLot_229 (by decide) ?_
      try refine kK.set1 (by first | exact True.intro | rfl | exact kCat_q _) ?_
      refine kK.sub (L2 := [some (.ref aO), some (.int (nI i)), some (.ref ac), some (.ref ah), none, none, none, none, some (.int 1), none, some (.int (nI 0)), none]) ⟨Or.inr rfl, Or.inr rfl, Or.inr rfl, Or.inr rfl, Or.inl rfl, Or.inl rfl, Or.inl rfl, Or.inl rfl, Or.inr rfl, Or.inl rfl, Or.inr ((by rw [nI_0])), Or.inl rfl, trivial⟩ ?_
      exact kK.widen (by show 51 ≤ 60 + 8 * 0 + (cnt F - cnt F); omega) (by show 306 ≤ 360 + 48 * 0 + 3 * (cnt F - cnt F); omega) (loop 8 0 σ rfl h kFr.rf)
    by_cases k0 : kindB z (nI i) 0 = true
    · refine k_iconst B (v := 1) dL_isLot_168 (by decide) ?_
      refine k_goto B 173 dL_isLot_169 (by decide) ?_
      refine k_istore B dL_isLot_173 (by decide) ?_
      try refine kK.set1 (by first | exact True.intro | rfl | exact kCat_q _) ?_
      refine k_aload_n B dL_isLot_175 rfl (by first | exact kRf_r _ | exact kRf_q _ | exact kRf_n) ?_
      refine k_iload_n B dL_isLot_176 rfl ?_
      refine k_iconst B (v := 0) dL_isLot_177 (by decide) ?_
      refine k_aload_n B dL_isLot_178 rfl (by first | exact kRf_r _ | exact kRf_q _ | exact kRf_n) ?_
      refine cl_L_63 B (c_L_isWater hl hs h hz hc c3 hi (Or.inl rfl)) dL_isLot_179 (by first | exact Nat.le_of_ble_eq_true rfl | omega | (simp only [kR, Value.category, kCat_q, List.map, List.sum_cons, List.sum_nil]; omega)) (by first | exact Nat.le_of_ble_eq_true rfl | omega | (simp only [kR, Value.category, kCat_q, List.map, List.sum_cons, List.sum_nil]; omega)) (by first | exact Nat.le_of_ble_eq_true rfl | omega | (simp only [kR, Value.category, kCat_q, List.map, List.sum_cons, List.sum_nil]; omega)) (by first | exact Nat.le_of_ble_eq_true rfl | omega | (simp only [kR, Value.category, kCat_q, List.map, List.sum_cons, List.sum_nil]; omega)) (by first | exact Nat.le_of_ble_eq_true rfl | omega | (simp only [kR, Value.category, kCat_q, List.map, List.sum_cons, List.sum_nil]; omega)) (fun _ hx => hx.elim) (rdV ?_)
      refine k_if_eq B 189 dL_isLot_182 (by decide) (fun c9 => absurd c9 (by rw [k0]; decide)) (fun _ => ?_)
      refine k_iconst B (v := 0) dL_isLot_185 (by decide) ?_
      refine k_goto B 204 dL_isLot_186 (by decide) ?_
      refine kK.widen (k2 := 50) (n2 := 300) (by decide) (by decide) ?_
      exact last 0 (by rw [rBest, if_pos k0])
    · have k0b : kindB z (nI i) 0 = false := by simpa using k0
      by_cases k1 : kindB z (nI i) 1 = true
      · refine k_iconst B (v := 1) dL_isLot_168 (by decide) ?_
        refine k_goto B 173 dL_isLot_169 (by decide) ?_
        refine k_istore B dL_isLot_173 (by decide) ?_
        try refine kK.set1 (by first | exact True.intro | rfl | exact kCat_q _) ?_
        refine k_aload_n B dL_isLot_175 rfl (by first | exact kRf_r _ | exact kRf_q _ | exact kRf_n) ?_
        refine k_iload_n B dL_isLot_176 rfl ?_
        refine k_iconst B (v := 0) dL_isLot_177 (by decide) ?_
        refine k_aload_n B dL_isLot_178 rfl (by first | exact kRf_r _ | exact kRf_q _ | exact kRf_n) ?_
        refine cl_L_63 B (c_L_isWater hl hs h hz hc c3 hi (Or.inl rfl)) dL_isLot_179 (by first | exact Nat.le_of_ble_eq_true rfl | omega | (simp only [kR, Value.category, kCat_q, List.map, List.sum_cons, List.sum_nil]; omega)) (by first | exact Nat.le_of_ble_eq_true rfl | omega | (simp only [kR, Value.category, kCat_q, List.map, List.sum_cons, List.sum_nil]; omega)) (by first | exact Nat.le_of_ble_eq_true rfl | omega | (simp only [kR, Value.category, kCat_q, List.map, List.sum_cons, List.sum_nil]; omega)) (by first | exact Nat.le_of_ble_eq_true rfl | omega | (simp only [kR, Value.category, kCat_q, List.map, List.sum_cons, List.sum_nil]; omega)) (by first | exact Nat.le_of_ble_eq_true rfl | omega | (simp only [kR, Value.category, kCat_q, List.map, List.sum_cons, List.sum_nil]; omega)) (fun _ hx => hx.elim) (rdV ?_)
        refine k_if_eq B 189 dL_isLot_182 (by decide) (fun _ => ?_) (fun c9 => (c9 (by rw [k0b]; rfl)).elim)
        refine k_aload_n B dL_isLot_189 rfl (by first | exact kRf_r _ | exact kRf_q _ | exact kRf_n) ?_
        refine k_iload_n B dL_isLot_190 rfl ?_
        refine k_iconst B (v := 1) dL_isLot_191 (by decide) ?_
        refine k_aload_n B dL_isLot_192 rfl (by first | exact kRf_r _ | exact kRf_q _ | exact kRf_n) ?_
        refine cl_L_63 B (c_L_isWater hl hs h hz hc c3 hi (Or.inr (Or.inl rfl))) dL_isLot_193 (by first | exact Nat.le_of_ble_eq_true rfl | omega | (simp only [kR, Value.category, kCat_q, List.map, List.sum_cons, List.sum_nil]; omega)) (by first | exact Nat.le_of_ble_eq_true rfl | omega | (simp only [kR, Value.category, kCat_q, List.map, List.sum_cons, List.sum_nil]; omega)) (by first | exact Nat.le_of_ble_eq_true rfl | omega | (simp only [kR, Value.category, kCat_q, List.map, List.sum_cons, List.sum_nil]; omega)) (by first | exact Nat.le_of_ble_eq_true rfl | omega | (simp only [kR, Value.category, kCat_q, List.map, List.sum_cons, List.sum_nil]; omega)) (by first | exact Nat.le_of_ble_eq_true rfl | omega | (simp only [kR, Value.category, kCat_q, List.map, List.sum_cons, List.sum_nil]; omega)) (fun _ hx => hx.elim) (rdV ?_)
        refine k_if_eq B 203 dL_isLot_196 (by decide) (fun c9 => absurd c9 (by rw [k1]; decide)) (fun _ => ?_)
        refine k_iconst B (v := 1) dL_isLot_199 (by decide) ?_
        refine k_goto B 204 dL_isLot_200 (by decide) ?_
        exact last 1 (by rw [rBest, if_neg k0, if_pos k1])
      · have k1b : kindB z (nI i) 1 = false := by simpa using k1
        refine k_iconst B (v := 1) dL_isLot_168 (by decide) ?_
        refine k_goto B 173 dL_isLot_169 (by decide) ?_
        refine k_istore B dL_isLot_173 (by decide) ?_
        try refine kK.set1 (by first | exact True.intro | rfl | exact kCat_q _) ?_
        refine k_aload_n B dL_isLot_175 rfl (by first | exact kRf_r _ | exact kRf_q _ | exact kRf_n) ?_
        refine k_iload_n B dL_isLot_176 rfl ?_
        refine k_iconst B (v := 0) dL_isLot_177 (by decide) ?_
        refine k_aload_n B dL_isLot_178 rfl (by first | exact kRf_r _ | exact kRf_q _ | exact kRf_n) ?_
        refine cl_L_63 B (c_L_isWater hl hs h hz hc c3 hi (Or.inl rfl)) dL_isLot_179 (by first | exact Nat.le_of_ble_eq_true rfl | omega | (simp only [kR, Value.category, kCat_q, List.map, List.sum_cons, List.sum_nil]; omega)) (by first | exact Nat.le_of_ble_eq_true rfl | omega | (simp only [kR, Value.category, kCat_q, List.map, List.sum_cons, List.sum_nil]; omega)) (by first | exact Nat.le_of_ble_eq_true rfl | omega | (simp only [kR, Value.category, kCat_q, List.map, List.sum_cons, List.sum_nil]; omega)) (by first | exact Nat.le_of_ble_eq_true rfl | omega | (simp only [kR, Value.category, kCat_q, List.map, List.sum_cons, List.sum_nil]; omega)) (by first | exact Nat.le_of_ble_eq_true rfl | omega | (simp only [kR, Value.category, kCat_q, List.map, List.sum_cons, List.sum_nil]; omega)) (fun _ hx => hx.elim) (rdV ?_)
        refine k_if_eq B 189 dL_isLot_182 (by decide) (fun _ => ?_) (fun c9 => (c9 (by rw [k0b]; rfl)).elim)
        refine k_aload_n B dL_isLot_189 rfl (by first | exact kRf_r _ | exact kRf_q _ | exact kRf_n) ?_
        refine k_iload_n B dL_isLot_190 rfl ?_
        refine k_iconst B (v := 1) dL_isLot_191 (by decide) ?_
        refine k_aload_n B dL_isLot_192 rfl (by first | exact kRf_r _ | exact kRf_q _ | exact kRf_n) ?_
        refine cl_L_63 B (c_L_isWater hl hs h hz hc c3 hi (Or.inr (Or.inl rfl))) dL_isLot_193 (by first | exact Nat.le_of_ble_eq_true rfl | omega | (simp only [kR, Value.category, kCat_q, List.map, List.sum_cons, List.sum_nil]; omega)) (by first | exact Nat.le_of_ble_eq_true rfl | omega | (simp only [kR, Value.category, kCat_q, List.map, List.sum_cons, List.sum_nil]; omega)) (by first | exact Nat.le_of_ble_eq_true rfl | omega | (simp only [kR, Value.category, kCat_q, List.map, List.sum_cons, List.sum_nil]; omega)) (by first | exact Nat.le_of_ble_eq_true rfl | omega | (simp only [kR, Value.category, kCat_q, List.map, List.sum_cons, List.sum_nil]; omega)) (by first | exact Nat.le_of_ble_eq_true rfl | omega | (simp only [kR, Value.category, kCat_q, List.map, List.sum_cons, List.sum_nil]; omega)) (fun _ hx => hx.elim) (rdV ?_)
        refine k_if_eq B 203 dL_isLot_196 (by decide) (fun _ => ?_) (fun c9 => (c9 (by rw [k1b]; rfl)).elim)
        refine k_iconst B (v := 2) dL_isLot_203 (by decide) ?_
        exact last 2 (by rw [rBest, if_neg k0, if_neg k1])
  refine k_aload_n B dL_isLot_0 rfl (by first | exact kRf_r _ | exact kRf_q _ | exact kRf_n) ?_
  refine k_iload_n B dL_isLot_1 rfl ?_
  refine k_iconst B (v := 1) dL_isLot_2 (by decide) ?_
  refine cl_L_36 B (c_X9_lotOf hl hs h) (h.rv.choose_spec) dL_isLot_3 (by first | exact Nat.le_of_ble_eq_true rfl | omega | (simp only [kR, Value.category, kCat_q, List.map, List.sum_cons, List.sum_nil]; omega)) (by first | exact Nat.le_of_ble_eq_true rfl | omega | (simp only [kR, Value.category, kCat_q, List.map, List.sum_cons, List.sum_nil]; omega)) (by first | exact Nat.le_of_ble_eq_true rfl | omega | (simp only [kR, Value.category, kCat_q, List.map, List.sum_cons, List.sum_nil]; omega)) (by first | exact Nat.le_of_ble_eq_true rfl | omega | (simp only [kR, Value.category, kCat_q, List.map, List.sum_cons, List.sum_nil]; omega)) (by first | exact Nat.le_of_ble_eq_true rfl | omega | (simp only [kR, Value.category, kCat_q, List.map, List.sum_cons, List.sum_nil]; omega)) (noE (gLf hi hs.2.2.2.1.1 ⟨by decide, by decide⟩)) (rdI (rLo1 (Nat.lt_of_lt_of_le hi hs.2.2.2.1.1)) ?_)
  refine k_istore B dL_isLot_6 (by decide) ?_
  try refine kK.set1 (by first | exact True.intro | rfl | exact kCat_q _) ?_
  refine k_aload_n B dL_isLot_8 rfl (by first | exact kRf_r _ | exact kRf_q _ | exact kRf_n) ?_
  refine k_iload_n B dL_isLot_9 rfl ?_
  refine k_ald B i dL_isLot_10 hh (by rfl) (by first | omega | decide) (by decide) (hhi) ?_
  refine k_bipush B (v := 10) dL_isLot_11 (by decide) ?_
  refine k_irem B dL_isLot_13 (by decide) ?_
  refine kK.rei (y := (sLo z i).2.2.2.1 + 1) (hW_1 hlb) ?_
  refine k_iconst B (v := 1) dL_isLot_14 (by decide) ?_
  refine k_isub B dL_isLot_15 ?_
  refine kK.rei (y := (sLo z i).2.2.2.1) (lb_sub _) ?_
  refine k_istore B dL_isLot_16 (by decide) ?_
  try refine kK.set1 (by first | exact True.intro | rfl | exact kCat_q _) ?_
  refine k_aload_n B dL_isLot_18 rfl (by first | exact kRf_r _ | exact kRf_q _ | exact kRf_n) ?_
  refine k_iload_n B dL_isLot_19 rfl ?_
  refine k_iconst B (v := 5) dL_isLot_20 (by decide) ?_
  refine cl_L_36 B (c_X9_lotOf hl hs h) (h.rv.choose_spec) dL_isLot_21 (by first | exact Nat.le_of_ble_eq_true rfl | omega | (simp only [kR, Value.category, kCat_q, List.map, List.sum_cons, List.sum_nil]; omega)) (by first | exact Nat.le_of_ble_eq_true rfl | omega | (simp only [kR, Value.category, kCat_q, List.map, List.sum_cons, List.sum_nil]; omega)) (by first | exact Nat.le_of_ble_eq_true rfl | omega | (simp only [kR, Value.category, kCat_q, List.map, List.sum_cons, List.sum_nil]; omega)) (by first | exact Nat.le_of_ble_eq_true rfl | omega | (simp only [kR, Value.category, kCat_q, List.map, List.sum_cons, List.sum_nil]; omega)) (by first | exact Nat.le_of_ble_eq_true rfl | omega | (simp only [kR, Value.category, kCat_q, List.map, List.sum_cons, List.sum_nil]; omega)) (noE (gLf hi hs.2.2.2.1.1 ⟨by decide, by decide⟩)) (rdI (rLo5 (Nat.lt_of_lt_of_le hi hs.2.2.2.1.1)) ?_)
  refine kK.rei (y := nI ((sLo z i).2.1 - mxY (sR z (11 + i)))) (by rw [ey, nI_sub (by omega)]) ?_
  refine k_istore B dL_isLot_24 (by decide) ?_
  try refine kK.set1 (by first | exact True.intro | rfl | exact kCat_q _) ?_
  refine k_aload_n B dL_isLot_26 rfl (by first | exact kRf_r _ | exact kRf_q _ | exact kRf_n) ?_
  refine k_iload_n B dL_isLot_27 rfl ?_
  refine k_bipush B (v := 6) dL_isLot_28 (by decide) ?_
  refine cl_L_36 B (c_X9_lotOf hl hs h) (h.rv.choose_spec) dL_isLot_30 (by first | exact Nat.le_of_ble_eq_true rfl | omega | (simp only [kR, Value.category, kCat_q, List.map, List.sum_cons, List.sum_nil]; omega)) (by first | exact Nat.le_of_ble_eq_true rfl | omega | (simp only [kR, Value.category, kCat_q, List.map, List.sum_cons, List.sum_nil]; omega)) (by first | exact Nat.le_of_ble_eq_true rfl | omega | (simp only [kR, Value.category, kCat_q, List.map, List.sum_cons, List.sum_nil]; omega)) (by first | exact Nat.le_of_ble_eq_true rfl | omega | (simp only [kR, Value.category, kCat_q, List.map, List.sum_cons, List.sum_nil]; omega)) (by first | exact Nat.le_of_ble_eq_true rfl | omega | (simp only [kR, Value.category, kCat_q, List.map, List.sum_cons, List.sum_nil]; omega)) (noE (gLf hi hs.2.2.2.1.1 ⟨by decide, by decide⟩)) (rdI (rLo6 (Nat.lt_of_lt_of_le hi hs.2.2.2.1.1)) ?_)
  refine kK.rei (y := nI ((sLo z i).2.1 - mnY (sR z (11 + i)))) (by rw [eo, nI_sub (by omega)]) ?_
  refine k_istore B dL_isLot_33 (by decide) ?_
  try refine kK.set1 (by first | exact True.intro | rfl | exact kCat_q _) ?_
  refine k_iload B dL_isLot_35 rfl ?_
  refine k_if_le B 172 dL_isLot_37 (by decide) (fun c9 => absurd c9 (nI_nle (by omega) (by omega))) (fun _ => ?_)
  refine k_aload_n B dL_isLot_40 rfl (by first | exact kRf_r _ | exact kRf_q _ | exact kRf_n) ?_
  refine k_iload_n B dL_isLot_41 rfl ?_
  refine k_iconst B (v := 2) dL_isLot_42 (by decide) ?_
  refine cl_L_36 B (c_X9_lotOf hl hs h) (h.rv.choose_spec) dL_isLot_43 (by first | exact Nat.le_of_ble_eq_true rfl | omega | (simp only [kR, Value.category, kCat_q, List.map, List.sum_cons, List.sum_nil]; omega)) (by first | exact Nat.le_of_ble_eq_true rfl | omega | (simp only [kR, Value.category, kCat_q, List.map, List.sum_cons, List.sum_nil]; omega)) (by first | exact Nat.le_of_ble_eq_true rfl | omega | (simp only [kR, Value.category, kCat_q, List.map, List.sum_cons, List.sum_nil]; omega)) (by first | exact Nat.le_of_ble_eq_true rfl | omega | (simp only [kR, Value.category, kCat_q, List.map, List.sum_cons, List.sum_nil]; omega)) (by first | exact Nat.le_of_ble_eq_true rfl | omega | (simp only [kR, Value.category, kCat_q, List.map, List.sum_cons, List.sum_nil]; omega)) (noE (gLf hi hs.2.2.2.1.1 ⟨by decide, by decide⟩)) (rdI (rLo2 (Nat.lt_of_lt_of_le hi hs.2.2.2.1.1)) ?_)
  refine k_iload B dL_isLot_46 rfl ?_
  refine k_icmp_lt B 172 dL_isLot_48 (by decide) (fun c9 => absurd c9 (nI_nlt n1 (by omega))) (fun _ => ?_)
  refine k_aload_n B dL_isLot_51 rfl (by first | exact kRf_r _ | exact kRf_q _ | exact kRf_n) ?_
  refine k_iload_n B dL_isLot_52 rfl ?_
  refine k_iconst B (v := 2) dL_isLot_53 (by decide) ?_
  refine cl_L_36 B (c_X9_lotOf hl hs h) (h.rv.choose_spec) dL_isLot_54 (by first | exact Nat.le_of_ble_eq_true rfl | omega | (simp only [kR, Value.category, kCat_q, List.map, List.sum_cons, List.sum_nil]; omega)) (by first | exact Nat.le_of_ble_eq_true rfl | omega | (simp only [kR, Value.category, kCat_q, List.map, List.sum_cons, List.sum_nil]; omega)) (by first | exact Nat.le_of_ble_eq_true rfl | omega | (simp only [kR, Value.category, kCat_q, List.map, List.sum_cons, List.sum_nil]; omega)) (by first | exact Nat.le_of_ble_eq_true rfl | omega | (simp only [kR, Value.category, kCat_q, List.map, List.sum_cons, List.sum_nil]; omega)) (by first | exact Nat.le_of_ble_eq_true rfl | omega | (simp only [kR, Value.category, kCat_q, List.map, List.sum_cons, List.sum_nil]; omega)) (noE (gLf hi hs.2.2.2.1.1 ⟨by decide, by decide⟩)) (rdI (rLo2 (Nat.lt_of_lt_of_le hi hs.2.2.2.1.1)) ?_)
  refine k_bipush B (v := 10) dL_isLot_57 (by decide) ?_
  refine k_iload B dL_isLot_59 rfl ?_
  refine k_imul B dL_isLot_61 ?_
  refine kK.rei (y := nI (10 * unS (sR z (11 + i)))) (nI_mul 10 _) ?_
  refine k_icmp_gt B 172 dL_isLot_62 (by decide) (fun c9 => absurd c9 (nI_nlt n2 (by omega))) (fun _ => ?_)
  refine k_iload B dL_isLot_65 rfl ?_
  refine k_if_le B 172 dL_isLot_67 (by decide) (fun c9 => absurd c9 (nI_nle (by omega) (by omega))) (fun _ => ?_)
  refine k_iload B dL_isLot_70 rfl ?_
  refine k_iload B dL_isLot_72 rfl ?_
  refine k_icmp_lt B 172 dL_isLot_74 (by decide) (fun c9 => absurd c9 (nI_nlt (by omega) (by omega))) (fun _ => ?_)
  refine k_iload B dL_isLot_77 rfl ?_
  refine k_aload_n B dL_isLot_79 rfl (by first | exact kRf_r _ | exact kRf_q _ | exact kRf_n) ?_
  refine k_iload_n B dL_isLot_80 rfl ?_
  refine k_iconst B (v := 3) dL_isLot_81 (by decide) ?_
  refine cl_L_36 B (c_X9_lotOf hl hs h) (h.rv.choose_spec) dL_isLot_82 (by first | exact Nat.le_of_ble_eq_true rfl | omega | (simp only [kR, Value.category, kCat_q, List.map, List.sum_cons, List.sum_nil]; omega)) (by first | exact Nat.le_of_ble_eq_true rfl | omega | (simp only [kR, Value.category, kCat_q, List.map, List.sum_cons, List.sum_nil]; omega)) (by first | exact Nat.le_of_ble_eq_true rfl | omega | (simp only [kR, Value.category, kCat_q, List.map, List.sum_cons, List.sum_nil]; omega)) (by first | exact Nat.le_of_ble_eq_true rfl | omega | (simp only [kR, Value.category, kCat_q, List.map, List.sum_cons, List.sum_nil]; omega)) (by first | exact Nat.le_of_ble_eq_true rfl | omega | (simp only [kR, Value.category, kCat_q, List.map, List.sum_cons, List.sum_nil]; omega)) (noE (gLf hi hs.2.2.2.1.1 ⟨by decide, by decide⟩)) (rdI (rLo3 (Nat.lt_of_lt_of_le hi hs.2.2.2.1.1)) ?_)
  refine k_icmp_gt B 172 dL_isLot_85 (by decide) (fun c9 => absurd c9 (nI_nlt (by omega) (by omega))) (fun _ => ?_)
  refine k_aload_n B dL_isLot_88 rfl (by first | exact kRf_r _ | exact kRf_q _ | exact kRf_n) ?_
  refine k_iload_n B dL_isLot_89 rfl ?_
  refine cl_L_59 B (c_X9_age hl hs h (age_nn hs)) (h.rv.choose_spec) dL_isLot_90 (by first | exact Nat.le_of_ble_eq_true rfl | omega | (simp only [kR, Value.category, kCat_q, List.map, List.sum_cons, List.sum_nil]; omega)) (by first | exact Nat.le_of_ble_eq_true rfl | omega | (simp only [kR, Value.category, kCat_q, List.map, List.sum_cons, List.sum_nil]; omega)) (by first | exact Nat.le_of_ble_eq_true rfl | omega | (simp only [kR, Value.category, kCat_q, List.map, List.sum_cons, List.sum_nil]; omega)) (by first | exact Nat.le_of_ble_eq_true rfl | omega | (simp only [kR, Value.category, kCat_q, List.map, List.sum_cons, List.sum_nil]; omega)) (by first | exact Nat.le_of_ble_eq_true rfl | omega | (simp only [kR, Value.category, kCat_q, List.map, List.sum_cons, List.sum_nil]; omega)) (noE (gAg hi hs.2.2.2.1.1)) (rdF (rAg (Nat.lt_of_lt_of_le hi hs.2.2.2.1.1)) ?_)
  refine k_iload B dL_isLot_93 rfl ?_
  refine k_i2f B dL_isLot_95 ?_
  refine k_fcmp B dL_isLot_96 ?_
  refine k_if_lt B 172 dL_isLot_97 (by decide) (fun c9 => absurd c9 (ag1)) (fun _ => ?_)
  refine k_aload_n B dL_isLot_100 rfl (by first | exact kRf_r _ | exact kRf_q _ | exact kRf_n) ?_
  refine k_iload_n B dL_isLot_101 rfl ?_
  refine cl_L_59 B (c_X9_age hl hs h (age_nn hs)) (h.rv.choose_spec) dL_isLot_102 (by first | exact Nat.le_of_ble_eq_true rfl | omega | (simp only [kR, Value.category, kCat_q, List.map, List.sum_cons, List.sum_nil]; omega)) (by first | exact Nat.le_of_ble_eq_true rfl | omega | (simp only [kR, Value.category, kCat_q, List.map, List.sum_cons, List.sum_nil]; omega)) (by first | exact Nat.le_of_ble_eq_true rfl | omega | (simp only [kR, Value.category, kCat_q, List.map, List.sum_cons, List.sum_nil]; omega)) (by first | exact Nat.le_of_ble_eq_true rfl | omega | (simp only [kR, Value.category, kCat_q, List.map, List.sum_cons, List.sum_nil]; omega)) (by first | exact Nat.le_of_ble_eq_true rfl | omega | (simp only [kR, Value.category, kCat_q, List.map, List.sum_cons, List.sum_nil]; omega)) (noE (gAg hi hs.2.2.2.1.1)) (rdF (rAg (Nat.lt_of_lt_of_le hi hs.2.2.2.1.1)) ?_)
  refine k_iload B dL_isLot_105 rfl ?_
  refine k_i2f B dL_isLot_107 ?_
  refine k_fcmp B dL_isLot_108 ?_
  refine k_if_gt B 172 dL_isLot_109 (by decide) (fun c9 => absurd c9 (ag2)) (fun _ => ?_)
  refine k_aload_n B dL_isLot_112 rfl (by first | exact kRf_r _ | exact kRf_q _ | exact kRf_n) ?_
  refine k_iload_n B dL_isLot_113 rfl ?_
  refine k_bipush B (v := 8) dL_isLot_114 (by decide) ?_
  refine cl_L_36 B (c_X9_lotOf hl hs h) (h.rv.choose_spec) dL_isLot_116 (by first | exact Nat.le_of_ble_eq_true rfl | omega | (simp only [kR, Value.category, kCat_q, List.map, List.sum_cons, List.sum_nil]; omega)) (by first | exact Nat.le_of_ble_eq_true rfl | omega | (simp only [kR, Value.category, kCat_q, List.map, List.sum_cons, List.sum_nil]; omega)) (by first | exact Nat.le_of_ble_eq_true rfl | omega | (simp only [kR, Value.category, kCat_q, List.map, List.sum_cons, List.sum_nil]; omega)) (by first | exact Nat.le_of_ble_eq_true rfl | omega | (simp only [kR, Value.category, kCat_q, List.map, List.sum_cons, List.sum_nil]; omega)) (by first | exact Nat.le_of_ble_eq_true rfl | omega | (simp only [kR, Value.category, kCat_q, List.map, List.sum_cons, List.sum_nil]; omega)) (noE (gLf hi hs.2.2.2.1.1 ⟨by decide, by decide⟩)) (rdI (rLo8 (Nat.lt_of_lt_of_le hi hs.2.2.2.1.1)) ?_)
  refine k_iload B dL_isLot_119 rfl ?_
  refine k_icmp_ne B 172 dL_isLot_121 (by decide) (fun c9 => (c9 (rfl)).elim) (fun _ => ?_)
  by_cases hneg : (sLo z i).2.2.2.1 = -1
  · refine k_aload_n B dL_isLot_124 rfl (by first | exact kRf_r _ | exact kRf_q _ | exact kRf_n) ?_
    refine k_iload_n B dL_isLot_125 rfl ?_
    refine k_bipush B (v := 9) dL_isLot_126 (by decide) ?_
    refine cl_L_36 B (c_X9_lotOf hl hs h) (h.rv.choose_spec) dL_isLot_128 (by first | exact Nat.le_of_ble_eq_true rfl | omega | (simp only [kR, Value.category, kCat_q, List.map, List.sum_cons, List.sum_nil]; omega)) (by first | exact Nat.le_of_ble_eq_true rfl | omega | (simp only [kR, Value.category, kCat_q, List.map, List.sum_cons, List.sum_nil]; omega)) (by first | exact Nat.le_of_ble_eq_true rfl | omega | (simp only [kR, Value.category, kCat_q, List.map, List.sum_cons, List.sum_nil]; omega)) (by first | exact Nat.le_of_ble_eq_true rfl | omega | (simp only [kR, Value.category, kCat_q, List.map, List.sum_cons, List.sum_nil]; omega)) (by first | exact Nat.le_of_ble_eq_true rfl | omega | (simp only [kR, Value.category, kCat_q, List.map, List.sum_cons, List.sum_nil]; omega)) (noE (gLf hi hs.2.2.2.1.1 ⟨by decide, by decide⟩)) (rdI (rLo9 (Nat.lt_of_lt_of_le hi hs.2.2.2.1.1)) ?_)
    refine k_iload B dL_isLot_131 rfl ?_
    refine k_if_ge B 140 dL_isLot_133 (by decide) (fun c9 => absurd c9 ((by rw [hneg]; decide))) (fun _ => ?_)
    refine k_iconst B (v := (-1)) dL_isLot_136 (by decide) ?_
    refine k_goto B 149 dL_isLot_137 (by decide) ?_
    refine k_icmp_ne B 172 dL_isLot_149 (by decide) (fun c9 => (c9 (tru_1 hneg)).elim) (fun _ => ?_)
    refine k_aload_n B dL_isLot_152 rfl (by first | exact kRf_r _ | exact kRf_q _ | exact kRf_n) ?_
    refine k_iload_n B dL_isLot_153 rfl ?_
    refine k_bipush B (v := 10) dL_isLot_154 (by decide) ?_
    refine cl_L_36 B (c_X9_lotOf hl hs h) (h.rv.choose_spec) dL_isLot_156 (by first | exact Nat.le_of_ble_eq_true rfl | omega | (simp only [kR, Value.category, kCat_q, List.map, List.sum_cons, List.sum_nil]; omega)) (by first | exact Nat.le_of_ble_eq_true rfl | omega | (simp only [kR, Value.category, kCat_q, List.map, List.sum_cons, List.sum_nil]; omega)) (by first | exact Nat.le_of_ble_eq_true rfl | omega | (simp only [kR, Value.category, kCat_q, List.map, List.sum_cons, List.sum_nil]; omega)) (by first | exact Nat.le_of_ble_eq_true rfl | omega | (simp only [kR, Value.category, kCat_q, List.map, List.sum_cons, List.sum_nil]; omega)) (by first | exact Nat.le_of_ble_eq_true rfl | omega | (simp only [kR, Value.category, kCat_q, List.map, List.sum_cons, List.sum_nil]; omega)) (noE (gLf hi hs.2.2.2.1.1 ⟨by decide, by decide⟩)) (rdI (rLo10 (Nat.lt_of_lt_of_le hi hs.2.2.2.1.1)) ?_)
    refine k_aload_n B dL_isLot_159 rfl (by first | exact kRf_r _ | exact kRf_q _ | exact kRf_n) ?_
    refine k_iload_n B dL_isLot_160 rfl ?_
    refine k_ald B i dL_isLot_161 hh (by rfl) (by first | omega | decide) (by decide) (rfl) ?_
    refine k_bipush B (v := 100) dL_isLot_162 (by decide) ?_
    refine k_idiv B dL_isLot_164 (by decide) ?_
    refine kK.rei (y := (sLo z i).2.2.2.2.2) (e10) ?_
    refine k_icmp_ne B 172 dL_isLot_165 (by decide) (fun c9 => (c9 (rc_2 hlb)).elim) (fun _ => ?_)
    refine kK.widen (k2 := 30) (n2 := 180) (by decide) (by decide) ?_
    refine kK.sub (L2 := [some (.ref aO), some (.int (nI i)), some (.ref ac), some (.ref ah), none, none, none, none, none, none, none, none]) ⟨Or.inr rfl, Or.inr rfl, Or.inr rfl, Or.inr rfl, Or.inl rfl, Or.inl rfl, Or.inl rfl, Or.inl rfl, Or.inl rfl, Or.inl rfl, Or.inl rfl, Or.inl rfl, trivial⟩ ?_
    exact rest
  · refine k_aload_n B dL_isLot_124 rfl (by first | exact kRf_r _ | exact kRf_q _ | exact kRf_n) ?_
    refine k_iload_n B dL_isLot_125 rfl ?_
    refine k_bipush B (v := 9) dL_isLot_126 (by decide) ?_
    refine cl_L_36 B (c_X9_lotOf hl hs h) (h.rv.choose_spec) dL_isLot_128 (by first | exact Nat.le_of_ble_eq_true rfl | omega | (simp only [kR, Value.category, kCat_q, List.map, List.sum_cons, List.sum_nil]; omega)) (by first | exact Nat.le_of_ble_eq_true rfl | omega | (simp only [kR, Value.category, kCat_q, List.map, List.sum_cons, List.sum_nil]; omega)) (by first | exact Nat.le_of_ble_eq_true rfl | omega | (simp only [kR, Value.category, kCat_q, List.map, List.sum_cons, List.sum_nil]; omega)) (by first | exact Nat.le_of_ble_eq_true rfl | omega | (simp only [kR, Value.category, kCat_q, List.map, List.sum_cons, List.sum_nil]; omega)) (by first | exact Nat.le_of_ble_eq_true rfl | omega | (simp only [kR, Value.category, kCat_q, List.map, List.sum_cons, List.sum_nil]; omega)) (noE (gLf hi hs.2.2.2.1.1 ⟨by decide, by decide⟩)) (rdI (rLo9 (Nat.lt_of_lt_of_le hi hs.2.2.2.1.1)) ?_)
    refine k_iload B dL_isLot_131 rfl ?_
    refine k_if_ge B 140 dL_isLot_133 (by decide) (fun _ => ?_) (fun c9 => (c9 ((by have := fun q => hneg ((lb_neg hlb).mp q); exact Int32.not_lt.mp this))).elim)
    refine k_aload_n B dL_isLot_140 rfl (by first | exact kRf_r _ | exact kRf_q _ | exact kRf_n) ?_
    refine k_iload_n B dL_isLot_141 rfl ?_
    refine k_ald B i dL_isLot_142 hh (by rfl) (by first | omega | decide) (by decide) (hhi) ?_
    refine k_bipush B (v := 10) dL_isLot_143 (by decide) ?_
    refine k_idiv B dL_isLot_145 (by decide) ?_
    refine k_bipush B (v := 10) dL_isLot_146 (by decide) ?_
    refine k_irem B dL_isLot_148 (by decide) ?_
    refine kK.rei (y := (sLo z i).2.2.2.2.1) (hW_2 hlb) ?_
    refine k_icmp_ne B 172 dL_isLot_149 (by decide) (fun c9 => (c9 (tru_2 hlb hneg)).elim) (fun _ => ?_)
    refine k_aload_n B dL_isLot_152 rfl (by first | exact kRf_r _ | exact kRf_q _ | exact kRf_n) ?_
    refine k_iload_n B dL_isLot_153 rfl ?_
    refine k_bipush B (v := 10) dL_isLot_154 (by decide) ?_
    refine cl_L_36 B (c_X9_lotOf hl hs h) (h.rv.choose_spec) dL_isLot_156 (by first | exact Nat.le_of_ble_eq_true rfl | omega | (simp only [kR, Value.category, kCat_q, List.map, List.sum_cons, List.sum_nil]; omega)) (by first | exact Nat.le_of_ble_eq_true rfl | omega | (simp only [kR, Value.category, kCat_q, List.map, List.sum_cons, List.sum_nil]; omega)) (by first | exact Nat.le_of_ble_eq_true rfl | omega | (simp only [kR, Value.category, kCat_q, List.map, List.sum_cons, List.sum_nil]; omega)) (by first | exact Nat.le_of_ble_eq_true rfl | omega | (simp only [kR, Value.category, kCat_q, List.map, List.sum_cons, List.sum_nil]; omega)) (by first | exact Nat.le_of_ble_eq_true rfl | omega | (simp only [kR, Value.category, kCat_q, List.map, List.sum_cons, List.sum_nil]; omega)) (noE (gLf hi hs.2.2.2.1.1 ⟨by decide, by decide⟩)) (rdI (rLo10 (Nat.lt_of_lt_of_le hi hs.2.2.2.1.1)) ?_)
    refine k_aload_n B dL_isLot_159 rfl (by first | exact kRf_r _ | exact kRf_q _ | exact kRf_n) ?_
    refine k_iload_n B dL_isLot_160 rfl ?_
    refine k_ald B i dL_isLot_161 hh (by rfl) (by first | omega | decide) (by decide) (rfl) ?_
    refine k_bipush B (v := 100) dL_isLot_162 (by decide) ?_
    refine k_idiv B dL_isLot_164 (by decide) ?_
    refine kK.rei (y := (sLo z i).2.2.2.2.2) (e10) ?_
    refine k_icmp_ne B 172 dL_isLot_165 (by decide) (fun c9 => (c9 (rc_2 hlb)).elim) (fun _ => ?_)
    refine kK.widen (k2 := 30) (n2 := 180) (by decide) (by decide) ?_
    refine kK.sub (L2 := [some (.ref aO), some (.int (nI i)), some (.ref ac), some (.ref ah), none, none, none, none, none, none, none, none]) ⟨Or.inr rfl, Or.inr rfl, Or.inr rfl, Or.inr rfl, Or.inl rfl, Or.inl rfl, Or.inl rfl, Or.inl rfl, Or.inl rfl, Or.inl rfl, Or.inl rfl, Or.inl rfl, trivial⟩ ?_
    exact rest
end IsLot
