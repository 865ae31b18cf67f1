theorem ldN_s {K : Nat → kCl} {P : Nat → List kP} {n : Nat} : ldN K P (n + 1) = ldS K (ldN K P n) n := rfl
section Pass10
variable {l : Launch} {D : va_G} {σ : kS} {aM : Nat} {ma : Nat → Nat} {z : kSt} {t : Int32}
set_option maxHeartbeats 8000000 in
set_option maxRecDepth 100000 in
theorem c_X10_passes (hl : l.stackTraces = false) (hs : sOk z) (hnw : sNow z < 300) (h : cl10 D aM ma z t σ) {r : Nat} (hrb : r ≤ 1000) : kMh hX10_passes l D yX10_passes 4 0 0 [.ref aM, .int (nI r)] σ (fun v s2 => v = none ∧ cl10 D aM ma (oneS z r) t s2 ∧ kOut (mOwn aM ma) σ s2) (fun _ => False) := by
  refine kM_of (L := [some (.ref aM), some (.int (nI r)), none]) (by decide +kernel) hl (List.forall_mem_cons.mpr ⟨rfl, (List.forall_mem_cons.mpr ⟨rfl, (fun _ h => absurd h List.not_mem_nil)⟩)⟩) (Nat.le_of_ble_eq_true rfl) rfl ?_
  intro p e s m args below meth c B hr hex hnm
  have B : kB p l s m args meth c D (kA σ s.heap.size) 3 cX10_passes RX10 := B
  obtain ⟨mv0, kn0, Lk0, h⟩ := h
  have hkb := h.nb
  have hn40 := hs.2.2.2.1.1
  have hw6 := hs.2.2.1.1
  have hK : ∀ i d, i < 10 → (sK z i).1 = some d → d < i := fun i d hi => (hs.2.1 i hi).1 d
  have hfb0 : ∀ i, i ≤ 10 → fBot (setR z (ldN (sK z) (sR z) i)) = fBot z := fun i hi => fBot_eq rfl (fun j hj => ldN_hi hK hi hj)
  have hfb1 : fBot (leadS z) = fBot z := fBot_eq rfl (fun j hj => ldN_hi hK (by decide) hj)
  have e4 : ∀ i, i < 10 → clOk i (sK (rainO (leadS z) r) i) := rainO_ok (z := leadS z) (r := r) hs.2.1
  have hone : oneS z r = tkWS (noS (paS (rainO (leadS z) r) 10)) (sWn z) := rfl
  have w4 : sWn (rainO (leadS z) r) = sWn z := by unfold rainO; split <;> rfl
  have n4 : sNow (rainO (leadS z) r) = sNow z := by unfold rainO; split <;> rfl
  have ln4 : sLn (rainO (leadS z) r) = sLn z := by unfold rainO; split <;> rfl
  have hr4 : rI (leadS z) r 10 = rainO (leadS z) r := rI_10
  generalize hPo : (fun (v : Option Value) (s2 : kS) => v = none ∧ cl10 D aM ma (oneS z r) t s2 ∧ kOut (mOwn aM ma) σ s2) = Po
  rw [hone] at hPo
  generalize rainO (leadS z) r = z4 at *
  -- the wells begin anew
  have l6 : ∀ (d9 i : Nat) (mv1 : Nat → Nat → Int32) (kn1 : Nat) (Lk1 : Nat → kPs) (s1 : kS), i + d9 = sWn z → wM D aM ma mv1 kn1 Lk1 (tkWS (noS (paS z4 10)) i) t s1 → kn1 ≤ kn0 + 20 → kOut (mOwn aM ma) σ s1 → kK p l e (kR 4 0 0) s m args below meth c D (kA σ s.heap.size) 3 (kQ below args s D σ Po (fun _ => False) 0 0) s1 0 0 218 [some (.ref aM), some (.int (nI r)), some (.int (nI i))] [] := by
    intro d9
    induction d9 with
    | zero =>
      intro i mv1 kn1 Lk1 s1 hi h1 hk1 f1
      obtain rfl : i = sWn z := hi
      refine k_iload_n B dX10_passes_218 rfl ?_
      refine k_aload_n B dX10_passes_219 rfl (by first | exact kRf_r _ | exact kRf_q _ | exact kRf_n) ?_
      refine gf_X10_97 B dX10_passes_220 h1.1.o rfl ?_
      refine kK.rei (y := nI (sWn z)) (by rw [← w4]; rfl) ?_
      refine k_icmp_ge B 239 dX10_passes_223 (by decide) (fun c223 => ?_) (fun c223 => ?_)
      · refine k_vret B hr dX10_passes_239 ?_ (by first | exact Nat.le_of_ble_eq_true rfl | omega | (simp only [kR, Value.category, kCat_q, List.map, List.sum_cons, List.sum_nil]; omega)) (by first | exact Nat.le_of_ble_eq_true rfl | omega | (simp only [kR, Value.category, kCat_q, List.map, List.sum_cons, List.sum_nil]; omega))
        rw [← hPo]
        refine ⟨rfl, (h1.c ?_).cl, f1⟩
        show kn1 ≤ 20 * (sNow z4 + 1) + sLn z4
        omega
      · exact absurd (Int32.le_refl _) c223
    | succ d9 ih =>
      intro i mv1 kn1 Lk1 s1 hi h1 hk1 f1
      have hi6 : i < 6 := by omega
      refine k_iload_n B dX10_passes_218 rfl ?_
      refine k_aload_n B dX10_passes_219 rfl (by first | exact kRf_r _ | exact kRf_q _ | exact kRf_n) ?_
      refine gf_X10_97 B dX10_passes_220 h1.1.o rfl ?_
      refine kK.rei (y := nI (sWn z)) (by rw [← w4]; rfl) ?_
      refine k_icmp_ge B 239 dX10_passes_223 (by decide) (fun c223 => ?_) (fun c223 => ?_)
      · exact absurd c223 (nI_ge (by omega) (by omega))
      · refine k_aload_n B dX10_passes_226 rfl (by first | exact kRf_r _ | exact kRf_q _ | exact kRf_n) ?_
        refine gf_X10_64 B dX10_passes_227 h1.1.o rfl ?_
        refine k_iload_n B dX10_passes_230 rfl ?_
        refine k_iconst B (v := 0) dX10_passes_231 (by decide) ?_
        refine k_iast B dX10_passes_232 (h1.1.i (k := 21) rfl (by decide)) (vp_in_nI hi6 (by decide)) ?_
        have g1 := h1.1.s (k := 21) rfl (by decide) (i := i) (by omega) 0
        refine k_iinc1 B dX10_passes_233 rfl (by decide) ?_
        try refine kK.set1 (by first | exact True.intro | rfl | exact kCat_q _) ?_
        refine k_goto B 218 dX10_passes_236 (by decide) ?_
        rw [nI_1]
        refine ih (i + 1) _ kn1 Lk1 _ (by omega) ⟨g1, h1.2.1.keep (fun a j q1 q2 => mS_k (by omega)), ?_, h1.2.2.2.1.keep (fun a j q1 q2 => mS_k (by omega)), h1.2.2.2.2.1.keep (fun a j q => mS_k (by omega)), h1.2.2.2.2.2⟩ hk1 (f1.tr (kOut.up (mOwn.a rfl)))
        have hw := h1.2.2.1
        show mW (sWn z4) (tkW (noS (paS z4 10)) (i + 1)) _
        have hw : mW (sWn z4) (tkW (noS (paS z4 10)) i) mv1 := hw
        obtain ⟨w1, w2, w3⟩ := hw i (by omega)
        rw [tkW_at] at w1 w2 w3
        rw [← tkW_s]
        exact hw.up (fun a j q1 q2 q => mS_j q) ⟨(mS_k (by decide)).trans w1, (mS_k (by decide)).trans w2, mS_eq⟩
  -- the contracts
  have l5 : ∀ (d9 i : Nat) (mv1 : Nat → Nat → Int32) (kn1 : Nat) (Lk1 : Nat → kPs) (s1 : kS), i + d9 = 10 → wM D aM ma mv1 kn1 Lk1 (paS z4 i) t s1 → kn1 ≤ kn0 + 20 → kOut (mOwn aM ma) σ s1 → kK p l e (kR 4 0 0) s m args below meth c D (kA σ s.heap.size) 3 (kQ below args s D σ Po (fun _ => False) 0 0) s1 0 0 142 [some (.ref aM), some (.int (nI r)), some (.int (nI i))] [] := by
    intro d9
    induction d9 with
    | zero =>
      intro i mv1 kn1 Lk1 s1 hi h1 hk1 f1
      have hi10 : i = 10 := hi
      subst hi10
      refine k_iload_n B dX10_passes_142 rfl ?_
      refine k_bipush B (v := 10) dX10_passes_143 (by decide) ?_
      refine k_icmp_ge B 206 dX10_passes_145 (by decide) (fun c145 => ?_) (fun c145 => ?_)
      · refine k_aload_n B dX10_passes_206 rfl (by first | exact kRf_r _ | exact kRf_q _ | exact kRf_n) ?_
        refine k_dup B dX10_passes_207 rfl ?_
        refine gf_X10_131 B dX10_passes_208 h1.1.o rfl ?_
        refine k_iconst B (v := 1) dX10_passes_211 (by decide) ?_
        refine k_iadd B dX10_passes_212 ?_
        refine kK.rei (y := nI (sNow z4 + 1)) (nI_1 _) ?_
        refine pf_X10_131 B dX10_passes_213 h1.1.o rfl ?_
        refine k_iconst B (v := 0) dX10_passes_216 (by decide) ?_
        refine k_istore_n B dX10_passes_217 (by decide) ?_
        try refine kK.set1 (by first | exact True.intro | rfl | exact kCat_q _) ?_
        rw [← nI_0]
        have e0 : tkWS (noS (paS z4 10)) 0 = noS (paS z4 10) := by unfold tkWS; rw [tkW_0]
        exact l6 (sWn z) 0 mv1 kn1 Lk1 _ (Nat.zero_add _) (by rw [e0]; exact ⟨h1.1.up _, h1.2⟩) hk1 (f1.tr (kOut.up mOwn.o))
      · exact absurd (Int32.le_refl _) c145
    | succ d9 ih =>
      intro i mv1 kn1 Lk1 s1 hi h1 hk1 f1
      have hi10 : i < 10 := by omega
      obtain ⟨k1, k2, k3, k4, k5, k6⟩ := h1.2.1 i hi10
      have hpi : sK (paS z4 i) i = sK z4 i := paK_at
      rw [hpi] at k1 k2 k3 k4 k5 k6
      obtain ⟨b1, b2, b3, b4, b5, b6⟩ := e4 i hi10
      have hpay : payN z4 (i + 1) = payN z4 i + (if 0 < (sK z4 i).2.2.2.1 then (sK z4 i).2.2.2.2.1 else 0) := rfl
      have nxt : ∀ (mv2 : Nat → Nat → Int32) (s2 : kS), mI D aM ma mv2 (qZ (paS z4 (i + 1)) kn1 t) s2 → (∀ a j, a ≠ 5 ∨ j ≠ i → mv2 a j = mv1 a j) → mv2 5 i = nI ((sK z4 i).2.2.2.1 - 1) → kOut (mOwn aM ma) σ s2 → kK p l e (kR 4 0 0) s m args below meth c D (kA σ s.heap.size) 3 (kQ below args s D σ Po (fun _ => False) 0 0) s2 0 0 200 [some (.ref aM), some (.int (nI r)), some (.int (nI i))] [] := by
        intro mv2 s2 g1 g2 g3 g4
        refine k_iinc1 B dX10_passes_200 rfl (by decide) ?_
        try refine kK.set1 (by first | exact True.intro | rfl | exact kCat_q _) ?_
        refine k_goto B 142 dX10_passes_203 (by decide) ?_
        rw [nI_1]
        refine ih (i + 1) mv2 kn1 Lk1 s2 (by omega) ⟨g1, ?_, h1.2.2.1.keep (fun a j q1 q2 => g2 a j (Or.inl (by omega))), h1.2.2.2.1.keep (fun a j q1 q2 => g2 a j (Or.inl (by omega))), h1.2.2.2.2.1.keep (fun a j q => g2 a j (Or.inl (by omega))), h1.2.2.2.2.2⟩ hk1 g4
        show mK (paK z4 (i + 1)) mv2
        rw [← paK_s]
        have hk0 : mK (paK z4 i) mv1 := h1.2.1
        exact hk0.up (fun a j q1 q2 q => g2 a j (Or.inr q)) ⟨(g2 _ _ (Or.inl (by decide))).trans k1, (g2 _ _ (Or.inl (by decide))).trans k2, (g2 _ _ (Or.inl (by decide))).trans k3, (g2 _ _ (Or.inl (by decide))).trans k4, g3, (g2 _ _ (Or.inl (by decide))).trans k6⟩
      refine k_iload_n B dX10_passes_142 rfl ?_
      refine k_bipush B (v := 10) dX10_passes_143 (by decide) ?_
      refine k_icmp_ge B 206 dX10_passes_145 (by decide) (fun c145 => ?_) (fun c145 => ?_)
      · exact absurd (show nI 10 ≤ nI i from c145) (nI_ge hi10 (by omega))
      · refine k_aload_n B dX10_passes_148 rfl (by first | exact kRf_r _ | exact kRf_q _ | exact kRf_n) ?_
        refine k_dup B dX10_passes_149 rfl ?_
        refine gf_X10_148 B dX10_passes_150 h1.1.o rfl ?_
        refine k_aload_n B dX10_passes_153 rfl (by first | exact kRf_r _ | exact kRf_q _ | exact kRf_n) ?_
        refine gf_X10_22 B dX10_passes_154 h1.1.o rfl ?_
        refine k_iload_n B dX10_passes_157 rfl ?_
        refine k_iald B dX10_passes_158 (h1.1.i (k := 5) rfl (by decide)) (vp_in_nI hi10 (by decide)) ?_
        refine kK.rei (y := nI (sK z4 i).2.2.2.1) (by rw [nI_clamp (by omega), k5]) ?_
        refine k_if_le B 172 dX10_passes_159 (by decide) (fun c159 => ?_) (fun c159 => ?_)
        · have h0 : (sK z4 i).2.2.2.1 = 0 := nI_le0 (by omega) c159
          refine k_lconst B (v := 0) dX10_passes_172 (by decide) ?_
          refine k_ladd B dX10_passes_173 ?_
          refine kK.rel (y := nL (sPai z4 + payN z4 (i + 1))) (by
            show nL (sPai z4 + payN z4 i) + 0 = _
            rw [hpay, h0, if_neg (Nat.lt_irrefl 0), Nat.add_zero]
            exact nL_add _ 0) ?_
          refine pf_X10_148 B dX10_passes_174 h1.1.o rfl ?_
          refine k_aload_n B dX10_passes_177 rfl (by first | exact kRf_r _ | exact kRf_q _ | exact kRf_n) ?_
          refine gf_X10_22 B dX10_passes_178 kUp_eq rfl ?_
          refine k_iload_n B dX10_passes_181 rfl ?_
          refine k_dup2 B dX10_passes_182 rfl rfl ?_
          have g1 : mI D aM ma mv1 (qZ (paS z4 (i + 1)) kn1 t) _ := h1.1.up (qZ (paS z4 (i + 1)) kn1 t)
          refine k_iald B dX10_passes_183 (g1.i (k := 5) rfl (by decide)) (vp_in_nI hi10 (by decide)) ?_
          refine kK.rei (y := nI (sK z4 i).2.2.2.1) (by rw [nI_clamp (by omega), k5]) ?_
          refine k_aload_n B dX10_passes_184 rfl (by first | exact kRf_r _ | exact kRf_q _ | exact kRf_n) ?_
          refine gf_X10_22 B dX10_passes_185 g1.o rfl ?_
          refine k_iload_n B dX10_passes_188 rfl ?_
          refine k_iald B dX10_passes_189 (g1.i (k := 5) rfl (by decide)) (vp_in_nI hi10 (by decide)) ?_
          refine kK.rei (y := nI (sK z4 i).2.2.2.1) (by rw [nI_clamp (by omega), k5]) ?_
          refine k_if_le B 197 dX10_passes_190 (by decide) (fun c190 => ?_) (fun c190 => ?_)
          · refine k_iconst B (v := 0) dX10_passes_197 (by decide) ?_
            refine k_isub B dX10_passes_198 ?_
            refine kK.rei (y := nI ((sK z4 i).2.2.2.1 - 1)) (by rw [h0]; decide) ?_
            refine k_iast B dX10_passes_199 (g1.i (k := 5) rfl (by decide)) (vp_in_nI hi10 (by decide)) ?_
            have g2 := g1.s (k := 5) rfl (by decide) (i := i) (by omega) (nI ((sK z4 i).2.2.2.1 - 1))
            exact nxt _ _ g2 (fun a j q => q.elim (fun q => mS_k q) (fun q => mS_j q)) mS_eq ((f1.tr (kOut.up mOwn.o)).tr (kOut.up (mOwn.a rfl)))
          · exact absurd c159 c190
        · have h0 : 0 < (sK z4 i).2.2.2.1 := by
            have : (sK z4 i).2.2.2.1 ≠ 0 := fun q => c159 (by rw [q, nI_0]; exact Int32.le_refl _)
            omega
          refine k_aload_n B dX10_passes_162 rfl (by first | exact kRf_r _ | exact kRf_q _ | exact kRf_n) ?_
          refine gf_X10_25 B dX10_passes_163 h1.1.o rfl ?_
          refine k_iload_n B dX10_passes_166 rfl ?_
          refine k_iald B dX10_passes_167 (h1.1.i (k := 6) rfl (by decide)) (vp_in_nI hi10 (by decide)) ?_
          refine kK.rei (y := nI (sK z4 i).2.2.2.2.1) (by rw [nI_clamp (by omega), k6]) ?_
          refine k_i2l B dX10_passes_168 ?_
          refine kK.rel (y := nL (sK z4 i).2.2.2.2.1) (nI_L (by omega)) ?_
          refine k_goto B 173 dX10_passes_169 (by decide) ?_
          refine k_ladd B dX10_passes_173 ?_
          refine kK.rel (y := nL (sPai z4 + payN z4 (i + 1))) (by
            show nL (sPai z4 + payN z4 i) + _ = _
            rw [hpay, if_pos h0, nL_add, Nat.add_assoc]) ?_
          refine pf_X10_148 B dX10_passes_174 h1.1.o rfl ?_
          refine k_aload_n B dX10_passes_177 rfl (by first | exact kRf_r _ | exact kRf_q _ | exact kRf_n) ?_
          refine gf_X10_22 B dX10_passes_178 kUp_eq rfl ?_
          refine k_iload_n B dX10_passes_181 rfl ?_
          refine k_dup2 B dX10_passes_182 rfl rfl ?_
          have g1 : mI D aM ma mv1 (qZ (paS z4 (i + 1)) kn1 t) _ := h1.1.up (qZ (paS z4 (i + 1)) kn1 t)
          refine k_iald B dX10_passes_183 (g1.i (k := 5) rfl (by decide)) (vp_in_nI hi10 (by decide)) ?_
          refine kK.rei (y := nI (sK z4 i).2.2.2.1) (by rw [nI_clamp (by omega), k5]) ?_
          refine k_aload_n B dX10_passes_184 rfl (by first | exact kRf_r _ | exact kRf_q _ | exact kRf_n) ?_
          refine gf_X10_22 B dX10_passes_185 g1.o rfl ?_
          refine k_iload_n B dX10_passes_188 rfl ?_
          refine k_iald B dX10_passes_189 (g1.i (k := 5) rfl (by decide)) (vp_in_nI hi10 (by decide)) ?_
          refine kK.rei (y := nI (sK z4 i).2.2.2.1) (by rw [nI_clamp (by omega), k5]) ?_
          refine k_if_le B 197 dX10_passes_190 (by decide) (fun c190 => ?_) (fun c190 => ?_)
          · exact absurd c190 c159
          · refine k_iconst B (v := 1) dX10_passes_193 (by decide) ?_
            refine k_goto B 198 dX10_passes_194 (by decide) ?_
            refine k_isub B dX10_passes_198 ?_
            refine kK.rei (y := nI ((sK z4 i).2.2.2.1 - 1)) (pk_sub (b := 1) (by omega)) ?_
            refine k_iast B dX10_passes_199 (g1.i (k := 5) rfl (by decide)) (vp_in_nI hi10 (by decide)) ?_
            have g2 := g1.s (k := 5) rfl (by decide) (i := i) (by omega) (nI ((sK z4 i).2.2.2.1 - 1))
            exact nxt _ _ g2 (fun a j q => q.elim (fun q => mS_k q) (fun q => mS_j q)) mS_eq ((f1.tr (kOut.up mOwn.o)).tr (kOut.up (mOwn.a rfl)))
  -- the rain
  have l4 : ∀ (d9 i : Nat) (mv1 : Nat → Nat → Int32) (kn1 : Nat) (Lk1 : Nat → kPs) (s1 : kS), i + d9 = 10 → wM D aM ma mv1 kn1 Lk1 (rI (leadS z) r i) t s1 → kn1 ≤ kn0 + 10 + i → kOut (mOwn aM ma) σ s1 → kK p l e (kR 4 0 0) s m args below meth c D (kA σ s.heap.size) 3 (kQ below args s D σ Po (fun _ => False) 0 0) s1 0 0 122 [some (.ref aM), some (.int (nI r)), some (.int (nI i))] [] := by
    intro d9
    induction d9 with
    | zero =>
      intro i mv1 kn1 Lk1 s1 hi h1 hk1 f1
      have hi10 : i = 10 := hi
      subst hi10
      refine k_iload_n B dX10_passes_122 rfl ?_
      refine k_bipush B (v := 10) dX10_passes_123 (by decide) ?_
      refine k_icmp_ge B 140 dX10_passes_125 (by decide) (fun c125 => ?_) (fun c125 => ?_)
      · refine k_iconst B (v := 0) dX10_passes_140 (by decide) ?_
        refine k_istore_n B dX10_passes_141 (by decide) ?_
        try refine kK.set1 (by first | exact True.intro | rfl | exact kCat_q _) ?_
        rw [← nI_0]
        rw [hr4] at h1
        have e0 : paS z4 0 = z4 := by unfold paS; rw [paK_0]; rfl
        exact l5 10 0 mv1 kn1 Lk1 s1 rfl (by rw [e0]; exact h1) (by omega) f1
      · exact absurd (Int32.le_refl _) c125
    | succ d9 ih =>
      intro i mv1 kn1 Lk1 s1 hi h1 hk1 f1
      have hi10 : i < 10 := by omega
      refine k_iload_n B dX10_passes_122 rfl ?_
      refine k_bipush B (v := 10) dX10_passes_123 (by decide) ?_
      refine k_icmp_ge B 140 dX10_passes_125 (by decide) (fun c125 => ?_) (fun c125 => ?_)
      · exact absurd (show nI 10 ≤ nI i from c125) (nI_ge hi10 (by omega))
      · refine k_aload_n B dX10_passes_128 rfl (by first | exact kRf_r _ | exact kRf_q _ | exact kRf_n) ?_
        refine k_iload_n B dX10_passes_129 rfl ?_
        refine k_iload_n B dX10_passes_130 rfl ?_
        refine cl_X10_145 B (c_X10_rains hl h1 hi10 hrb (by omega) (hs.2.1 i hi10)) h1.1.o dX10_passes_131 (by first | exact Nat.le_of_ble_eq_true rfl | omega | (simp only [kR, Value.category, kCat_q, List.map, List.sum_cons, List.sum_nil]; omega)) (by first | exact Nat.le_of_ble_eq_true rfl | omega | (simp only [kR, Value.category, kCat_q, List.map, List.sum_cons, List.sum_nil]; omega)) (by first | exact Nat.le_of_ble_eq_true rfl | omega | (simp only [kR, Value.category, kCat_q, List.map, List.sum_cons, List.sum_nil]; omega)) (by first | exact Nat.le_of_ble_eq_true rfl | omega | (simp only [kR, Value.category, kCat_q, List.map, List.sum_cons, List.sum_nil]; omega)) (by first | exact Nat.le_of_ble_eq_true rfl | omega | (simp only [kR, Value.category, kCat_q, List.map, List.sum_cons, List.sum_nil]; omega)) (fun _ hx => hx.elim) (fun v131 s131 hp131 => ?_)
        obtain ⟨rfl, ⟨mv2, kn2, Lk2, g1, g2⟩, f131⟩ := hp131
        refine k_iinc1 B dX10_passes_134 rfl (by decide) ?_
        try refine kK.set1 (by first | exact True.intro | rfl | exact kCat_q _) ?_
        refine k_goto B 122 dX10_passes_137 (by decide) ?_
        rw [nI_1]
        exact ih (i + 1) mv2 kn2 Lk2 _ (by omega) g1 (by omega) (f1.tr f131)
  -- the leading
  have l3 : ∀ (d9 i : Nat) (mv1 : Nat → Nat → Int32) (kn1 : Nat) (Lk1 : Nat → kPs) (s1 : kS), i + d9 = 10 → wM D aM ma mv1 kn1 Lk1 (setR z (ldN (sK z) (sR z) i)) t s1 → kn1 ≤ kn0 + i → (∀ j, j < 10 → mv1 17 j = nI (unS (sR z j) / (sK z j).2.1)) → kOut (mOwn aM ma) σ s1 → kK p l e (kR 4 0 0) s m args below meth c D (kA σ s.heap.size) 3 (kQ below args s D σ Po (fun _ => False) 0 0) s1 0 0 59 [some (.ref aM), some (.int (nI r)), some (.int (nI i))] [] := by
    intro d9
    induction d9 with
    | zero =>
      intro i mv1 kn1 Lk1 s1 hi h1 hk1 ht1 f1
      have hi10 : i = 10 := hi
      subst hi10
      have hsum := ldN_sum (P := sR z) hK (n := 10) (by decide)
      have h10a : unS (ldN (sK z) (sR z) 10 10) ≤ suN (fun i => unS (ldN (sK z) (sR z) 10 i)) 11 := suN_le (f := fun i => unS (ldN (sK z) (sR z) 10 i)) (by decide)
      have hu := hs.2.2.2.2.2.1
      have hun : mv1 9 10 = nI (unS (ldN (sK z) (sR z) 10 10)) := by
        rw [(h1.2.2.2.2.1.1 10 (by decide)).2.2.1, h1.2.2.2.2.2.1 10 (by omega)]
        rfl
      refine k_iload_n B dX10_passes_59 rfl ?_
      refine k_bipush B (v := 10) dX10_passes_60 (by decide) ?_
      refine k_icmp_ge B 103 dX10_passes_62 (by decide) (fun c62 => ?_) (fun c62 => ?_)
      · refine k_aload_n B dX10_passes_103 rfl (by first | exact kRf_r _ | exact kRf_q _ | exact kRf_n) ?_
        refine k_dup B dX10_passes_104 rfl ?_
        refine gf_X10_142 B dX10_passes_105 h1.1.o rfl ?_
        refine k_aload_n B dX10_passes_108 rfl (by first | exact kRf_r _ | exact kRf_q _ | exact kRf_n) ?_
        refine gf_X10_34 B dX10_passes_109 h1.1.o rfl ?_
        refine k_bipush B (v := 10) dX10_passes_112 (by decide) ?_
        refine k_iald B dX10_passes_114 (h1.1.i (k := 9) rfl (by decide)) (vp_in_nI (show 10 < 51 by decide) (by decide)) ?_
        refine kK.rei (y := nI (unS (ldN (sK z) (sR z) 10 10))) hun ?_
        refine k_i2l B dX10_passes_115 ?_
        refine kK.rel (y := nL (unS (ldN (sK z) (sR z) 10 10))) (nI_L (by omega)) ?_
        refine k_ladd B dX10_passes_116 ?_
        refine kK.rel (y := nL (sSpr z + unS (ldN (sK z) (sR z) 10 10))) (nL_add _ _) ?_
        refine pf_X10_142 B dX10_passes_117 h1.1.o rfl ?_
        refine k_iconst B (v := 0) dX10_passes_120 (by decide) ?_
        refine k_istore_n B dX10_passes_121 (by decide) ?_
        try refine kK.set1 (by first | exact True.intro | rfl | exact kCat_q _) ?_
        rw [← nI_0]
        refine l4 10 0 mv1 kn1 Lk1 _ rfl ?_ (by omega) (f1.tr (kOut.up mOwn.o))
        rw [rI_0]
        refine ⟨?_, h1.2⟩
        have hm := h1.1
        have hm : mI D aM ma mv1 (qB (setR z (ldN (sK z) (sR z) 10)) (fBot (setR z (ldN (sK z) (sR z) 10))) kn1 t) s1 := hm
        rw [hfb0 10 (by decide), ← hfb1] at hm
        show mI D aM ma mv1 (qB (leadS z) (fBot (leadS z)) kn1 t) _
        have h9 := hm.up (qB (leadS z) (fBot (leadS z)) kn1 t)
        have e9 : fBot (setR z (ldN (sK z) (sR z) 10)) = fBot (leadS z) := (hfb0 10 (by decide)).trans hfb1.symm
        rw [← e9] at h9 ⊢
        exact h9
      · exact absurd (Int32.le_refl _) c62
    | succ d9 ih =>
      intro i mv1 kn1 Lk1 s1 hi h1 hk1 ht1 f1
      have hi10 : i < 10 := by omega
      obtain ⟨k1, k2, k3, k4, k5, k6⟩ := h1.2.1 i hi10
      have k3 : mv1 3 i = ldI (sK z i).1 := k3
      have hdd := ldD_ok (K := sK z) (c := i) (fun d => hK i d hi10) hi10
      have hown : ldN (sK z) (sR z) i i = sR z i := ldN_own hK (Nat.le_refl i) hi10
      have hLi : kCon (Lk1 i) = sR z i := by rw [h1.2.2.2.2.2.1 i (by show i < 11 + sLn z; omega)]; exact hown
      have hui := hs.un (i := i) (by omega)
      have hpi := hs.2.2.2.2.1 i (by omega)
      have tail : ∀ x : Int32, x = nI (ldD (sK z) i) → kK p l e (kR 4 0 0) s m args below meth c D (kA σ s.heap.size) 3 (kQ below args s D σ Po (fun _ => False) 0 0) s1 0 0 88 [some (.ref aM), some (.int (nI r)), some (.int (nI i))] [.int x, .int (nI i), .ref aM] := by
        intro x hx
        subst hx
        refine k_aload_n B dX10_passes_88 rfl (by first | exact kRf_r _ | exact kRf_q _ | exact kRf_n) ?_
        refine gf_X10_55 B dX10_passes_89 h1.1.o rfl ?_
        refine k_iload_n B dX10_passes_92 rfl ?_
        refine k_iald B dX10_passes_93 (h1.1.i (k := 17) rfl (by decide)) (vp_in_nI hi10 (by decide)) ?_
        refine kK.rei (y := nI (unS (sR z i) / (sK z i).2.1)) (by rw [nI_clamp (by omega)]; exact ht1 i hi10) ?_
        refine cl_X10_138 B (c_X10_moves hl h1.1 rfl (by omega) h1.2.2.2.2.1 (r := i) (d := ldD (sK z) i) (by omega) (by omega) (Ne.symm hdd.2) (by rw [hLi]; omega) (by rw [hLi]; exact fun q hq => (hpi q hq).2.2.2) (by rw [hLi]; exact Nat.div_le_self _ _)) h1.1.o dX10_passes_94 (by first | exact Nat.le_of_ble_eq_true rfl | omega | (simp only [kR, Value.category, kCat_q, List.map, List.sum_cons, List.sum_nil]; omega)) (by first | exact Nat.le_of_ble_eq_true rfl | omega | (simp only [kR, Value.category, kCat_q, List.map, List.sum_cons, List.sum_nil]; omega)) (by first | exact Nat.le_of_ble_eq_true rfl | omega | (simp only [kR, Value.category, kCat_q, List.map, List.sum_cons, List.sum_nil]; omega)) (by first | exact Nat.le_of_ble_eq_true rfl | omega | (simp only [kR, Value.category, kCat_q, List.map, List.sum_cons, List.sum_nil]; omega)) (by first | exact Nat.le_of_ble_eq_true rfl | omega | (simp only [kR, Value.category, kCat_q, List.map, List.sum_cons, List.sum_nil]; omega)) (fun _ hx => hx.elim) (fun v94 s94 hp94 => ?_)
        obtain ⟨rfl, ⟨mv2, kn2, Lk2, g1, g2, g3, g4, g5, g6, g7⟩, f94⟩ := hp94
        refine k_iinc1 B dX10_passes_97 rfl (by decide) ?_
        try refine kK.set1 (by first | exact True.intro | rfl | exact kCat_q _) ?_
        refine k_goto B 59 dX10_passes_100 (by decide) ?_
        rw [nI_1]
        refine ih (i + 1) mv2 kn2 Lk2 _ (by omega) ⟨?_, h1.2.1.keep (fun a j q1 q2 => g7 a j ⟨by omega, by omega⟩), h1.2.2.1.keep (fun a j q1 q2 => g7 a j ⟨by omega, by omega⟩), h1.2.2.2.1.keep (fun a j q1 q2 => g7 a j ⟨by omega, by omega⟩), g2, fun j hj => ?_, fun j hj hj2 => ?_⟩ (by omega) (fun j hj => (g7 17 j ⟨by decide, by decide⟩).trans (ht1 j hj)) (f1.tr f94)
        · show mI D aM ma mv2 (qB (setR z (ldN (sK z) (sR z) (i + 1))) (fBot (setR z (ldN (sK z) (sR z) (i + 1)))) kn2 t) _
          have e9 : fBot (setR z (ldN (sK z) (sR z) (i + 1))) = fBot (setR z (ldN (sK z) (sR z) i)) := (hfb0 (i + 1) (by omega)).trans (hfb0 i (by omega)).symm
          rw [e9]
          exact g1
        · have hj : j < 11 + sLn z := hj
          show kCon (Lk2 j) = ldN (sK z) (sR z) (i + 1) j
          rw [ldN_s, ldS]
          have hw : ldW (sK z) (ldN (sK z) (sR z) i) i = unS (sR z i) / (sK z i).2.1 := by rw [ldW, hown]
          rw [hw, hown]
          by_cases q : j = ldD (sK z) i
          · subst q
            rw [upN_eq, g6, hLi]
            congr 1
            exact h1.2.2.2.2.2.1 _ (by show _ < 11 + sLn z; omega)
          · rw [upN_ne q]
            by_cases q2 : j = i
            · subst q2
              rw [upN_eq, g5, hLi]
            · rw [upN_ne q2, g4 j q2 q]
              exact h1.2.2.2.2.2.1 j hj
        · have hj : 11 + sLn z ≤ j := hj
          rw [g4 j (by omega) (by omega)]
          exact h1.2.2.2.2.2.2 j hj hj2
      refine k_iload_n B dX10_passes_59 rfl ?_
      refine k_bipush B (v := 10) dX10_passes_60 (by decide) ?_
      refine k_icmp_ge B 103 dX10_passes_62 (by decide) (fun c62 => ?_) (fun c62 => ?_)
      · exact absurd (show nI 10 ≤ nI i from c62) (nI_ge hi10 (by omega))
      · refine k_aload_n B dX10_passes_65 rfl (by first | exact kRf_r _ | exact kRf_q _ | exact kRf_n) ?_
        refine k_iload_n B dX10_passes_66 rfl ?_
        refine k_aload_n B dX10_passes_67 rfl (by first | exact kRf_r _ | exact kRf_q _ | exact kRf_n) ?_
        refine gf_X10_16 B dX10_passes_68 h1.1.o rfl ?_
        refine k_iload_n B dX10_passes_71 rfl ?_
        refine k_iald B dX10_passes_72 (h1.1.i (k := 3) rfl (by decide)) (vp_in_nI hi10 (by decide)) ?_
        refine kK.rei (y := ldI (sK z i).1) (by rw [nI_clamp (by omega), k3]) ?_
        cases hld : (sK z i).1 with
        | none =>
          refine k_iconst B (v := (-1)) dX10_passes_73 (by decide) ?_
          refine k_icmp_ne B 82 dX10_passes_74 (by decide) (fun c74 => ?_) (fun c74 => ?_)
          · exact absurd rfl c74
          · refine k_bipush B (v := 10) dX10_passes_77 (by decide) ?_
            refine k_goto B 88 dX10_passes_79 (by decide) ?_
            exact tail 10 (by rw [ldD, hld]; rfl)
        | some d =>
          have := hK i d hi10 hld
          refine k_iconst B (v := (-1)) dX10_passes_73 (by decide) ?_
          refine k_icmp_ne B 82 dX10_passes_74 (by decide) (fun c74 => ?_) (fun c74 => ?_)
          · refine k_aload_n B dX10_passes_82 rfl (by first | exact kRf_r _ | exact kRf_q _ | exact kRf_n) ?_
            refine gf_X10_16 B dX10_passes_83 h1.1.o rfl ?_
            refine k_iload_n B dX10_passes_86 rfl ?_
            refine k_iald B dX10_passes_87 (h1.1.i (k := 3) rfl (by decide)) (vp_in_nI hi10 (by decide)) ?_
            exact tail _ (by rw [nI_clamp (by omega), k3, ldD, hld]; rfl)
          · exact absurd c74 (ldI_no (j := d) (by omega))
  -- how much is taken
  have l2 : ∀ (d9 i : Nat) (mv1 : Nat → Nat → Int32) (Lk1 : Nat → kPs) (s1 : kS), i + d9 = 10 → wM D aM ma mv1 kn0 Lk1 (setR z (ldN (sK z) (sR z) 0)) t s1 → (∀ j, j < i → mv1 17 j = nI (unS (sR z j) / (sK z j).2.1)) → kOut (mOwn aM ma) σ s1 → kK p l e (kR 4 0 0) s m args below meth c D (kA σ s.heap.size) 3 (kQ below args s D σ Po (fun _ => False) 0 0) s1 0 0 26 [some (.ref aM), some (.int (nI r)), some (.int (nI i))] [] := by
    intro d9
    induction d9 with
    | zero =>
      intro i mv1 Lk1 s1 hi h1 ht1 f1
      have hi10 : i = 10 := hi
      subst hi10
      refine k_iload_n B dX10_passes_26 rfl ?_
      refine k_bipush B (v := 10) dX10_passes_27 (by decide) ?_
      refine k_icmp_ge B 57 dX10_passes_29 (by decide) (fun c29 => ?_) (fun c29 => ?_)
      · refine k_iconst B (v := 0) dX10_passes_57 (by decide) ?_
        refine k_istore_n B dX10_passes_58 (by decide) ?_
        try refine kK.set1 (by first | exact True.intro | rfl | exact kCat_q _) ?_
        rw [← nI_0]
        exact l3 10 0 mv1 kn0 Lk1 s1 rfl h1 (by omega) ht1 f1
      · exact absurd (Int32.le_refl _) c29
    | succ d9 ih =>
      intro i mv1 Lk1 s1 hi h1 ht1 f1
      have hi10 : i < 10 := by omega
      obtain ⟨k1, k2, k3, k4, k5, k6⟩ := h1.2.1 i hi10
      have k1 : mv1 1 i = nI (sK z i).2.1 := k1
      have hui := hs.un (i := i) (by omega)
      have hci := hs.2.1 i hi10
      have hci1 := hci.2.1
      have hci2 := hci.2.2.1
      have hun : mv1 9 i = nI (unS (sR z i)) := by
        rw [(h1.2.2.2.2.1.1 i (by omega)).2.2.1, h1.2.2.2.2.2.1 i (by show i < 11 + sLn z; omega)]
        show nI (unS (upN (sR z) 10 [] i)) = _
        rw [upN_ne (by omega)]
      refine k_iload_n B dX10_passes_26 rfl ?_
      refine k_bipush B (v := 10) dX10_passes_27 (by decide) ?_
      refine k_icmp_ge B 57 dX10_passes_29 (by decide) (fun c29 => ?_) (fun c29 => ?_)
      · exact absurd (show nI 10 ≤ nI i from c29) (nI_ge hi10 (by omega))
      · refine k_aload_n B dX10_passes_32 rfl (by first | exact kRf_r _ | exact kRf_q _ | exact kRf_n) ?_
        refine gf_X10_55 B dX10_passes_33 h1.1.o rfl ?_
        refine k_iload_n B dX10_passes_36 rfl ?_
        refine k_aload_n B dX10_passes_37 rfl (by first | exact kRf_r _ | exact kRf_q _ | exact kRf_n) ?_
        refine gf_X10_34 B dX10_passes_38 h1.1.o rfl ?_
        refine k_iload_n B dX10_passes_41 rfl ?_
        refine k_iald B dX10_passes_42 (h1.1.i (k := 9) rfl (by decide)) (vp_in_nI (show i < 51 by omega) (by decide)) ?_
        refine kK.rei (y := nI (unS (sR z i))) (by rw [nI_clamp (by omega)]; exact hun) ?_
        refine k_aload_n B dX10_passes_43 rfl (by first | exact kRf_r _ | exact kRf_q _ | exact kRf_n) ?_
        refine gf_X10_7 B dX10_passes_44 h1.1.o rfl ?_
        refine k_iload_n B dX10_passes_47 rfl ?_
        refine k_iald B dX10_passes_48 (h1.1.i (k := 1) rfl (by decide)) (vp_in_nI hi10 (by decide)) ?_
        refine kK.rei (y := nI (sK z i).2.1) (by rw [nI_clamp (by omega), k1]) ?_
        refine k_idiv B dX10_passes_49 (nI_ne0 hci1 (by omega)) ?_
        refine kK.rei (y := nI (unS (sR z i) / (sK z i).2.1)) (pk_div (by omega) hci1 (by omega)) ?_
        refine k_iast B dX10_passes_50 (h1.1.i (k := 17) rfl (by decide)) (vp_in_nI hi10 (by decide)) ?_
        have g1 := h1.1.s (k := 17) rfl (by decide) (i := i) (by omega) (nI (unS (sR z i) / (sK z i).2.1))
        refine k_iinc1 B dX10_passes_51 rfl (by decide) ?_
        try refine kK.set1 (by first | exact True.intro | rfl | exact kCat_q _) ?_
        refine k_goto B 26 dX10_passes_54 (by decide) ?_
        rw [nI_1]
        refine ih (i + 1) _ Lk1 _ (by omega) ⟨g1, h1.2.1.keep (fun a j q1 q2 => mS_k (by omega)), h1.2.2.1.keep (fun a j q1 q2 => mS_k (by omega)), h1.2.2.2.1.keep (fun a j q1 q2 => mS_k (by omega)), h1.2.2.2.2.1.keep (fun a j q => mS_k (by omega)), h1.2.2.2.2.2⟩ (fun j hj => ?_) (f1.tr (kOut.up (mOwn.a rfl)))
        by_cases q : j = i
        · subst q; exact mS_eq
        · rw [mS_j q]; exact ht1 j (by omega)
  refine k_aload_n B dX10_passes_0 rfl (by first | exact kRf_r _ | exact kRf_q _ | exact kRf_n) ?_
  refine gf_X10_28 B dX10_passes_1 h.o rfl ?_
  refine k_bipush B (v := 10) dX10_passes_4 (by decide) ?_
  refine k_iconst B (v := (-1)) dX10_passes_6 (by decide) ?_
  refine k_iast B dX10_passes_7 (h.i (k := 7) rfl (by decide)) (vp_in_nI (show 10 < 51 by decide) (by decide)) ?_
  have g1 := h.m.s (k := 7) rfl (by decide) (i := 10) (by omega) (-1)
  refine k_aload_n B dX10_passes_8 rfl (by first | exact kRf_r _ | exact kRf_q _ | exact kRf_n) ?_
  refine gf_X10_31 B dX10_passes_9 g1.o rfl ?_
  refine k_bipush B (v := 10) dX10_passes_12 (by decide) ?_
  refine k_iconst B (v := (-1)) dX10_passes_14 (by decide) ?_
  refine k_iast B dX10_passes_15 (g1.i (k := 8) rfl (by decide)) (vp_in_nI (show 10 < 51 by decide) (by decide)) ?_
  have g2 := g1.s (k := 8) rfl (by decide) (i := 10) (by omega) (-1)
  refine k_aload_n B dX10_passes_16 rfl (by first | exact kRf_r _ | exact kRf_q _ | exact kRf_n) ?_
  refine gf_X10_34 B dX10_passes_17 g2.o rfl ?_
  refine k_bipush B (v := 10) dX10_passes_20 (by decide) ?_
  refine k_iconst B (v := 0) dX10_passes_22 (by decide) ?_
  refine k_iast B dX10_passes_23 (g2.i (k := 9) rfl (by decide)) (vp_in_nI (show 10 < 51 by decide) (by decide)) ?_
  have g3 := g2.s (k := 9) rfl (by decide) (i := 10) (by omega) 0
  refine k_iconst B (v := 0) dX10_passes_24 (by decide) ?_
  refine k_istore_n B dX10_passes_25 (by decide) ?_
  try refine kK.set1 (by first | exact True.intro | rfl | exact kCat_q _) ?_
  rw [← nI_0]
  refine l2 10 0 (mS (mS (mS mv0 7 10 (-1)) 8 10 (-1)) 9 10 0) (upN Lk0 10 []) _ rfl ⟨?_, h.K.keep (fun a j q1 q2 => ?_), h.W.keep (fun a j q1 q2 => ?_), h.T.keep (fun a j q1 q2 => ?_), ⟨fun i hi => ?_, fun i hi a ha => ?_, fun i hi => ?_, fun i1 i2 hi1 hi2 hne a ha hb => ?_⟩, fun i hi => ?_, fun i hi hi2 => ?_⟩ (fun j hj => absurd hj (Nat.not_lt_zero j)) (((kOut.up (mOwn.a (k := 7) rfl)).tr (kOut.up (mOwn.a (k := 8) rfl))).tr (kOut.up (mOwn.a (k := 9) rfl)))
  · show mI D aM ma _ (qB (setR z (ldN (sK z) (sR z) 0)) (fBot (setR z (ldN (sK z) (sR z) 0))) kn0 t) _
    rw [hfb0 0 (by decide)]
    exact g3
  · rw [mS_k (by omega), mS_k (by omega), mS_k (by omega)]
  · rw [mS_k (by omega), mS_k (by omega), mS_k (by omega)]
  · rw [mS_k (by omega), mS_k (by omega), mS_k (by omega)]
  · by_cases q : i = 10
    · subst q
      rw [upN_eq]
      exact ⟨(mS_k (by decide)).trans ((mS_k (by decide)).trans mS_eq), (mS_k (by decide)).trans mS_eq, mS_eq, trivial⟩
    · rw [upN_ne q]
      exact (h.L.1 i hi).keep (fun a q1 q2 => by rw [mS_j q, mS_j q, mS_j q]) (fun a j q1 q2 _ => by rw [mS_k (by omega), mS_k (by omega), mS_k (by omega)])
  · by_cases q : i = 10
    · subst q; rw [upN_eq] at ha; cases ha
    · rw [upN_ne q] at ha; exact h.L.2.1 i hi a ha
  · by_cases q : i = 10
    · subst q; rw [upN_eq]; exact List.nodup_nil
    · rw [upN_ne q]; exact h.L.2.2.1 i hi
  · by_cases q : i1 = 10
    · subst q; rw [upN_eq] at ha; cases ha
    · rw [upN_ne q] at ha
      by_cases q2 : i2 = 10
      · subst q2; rw [upN_eq] at hb; cases hb
      · rw [upN_ne q2] at hb; exact h.L.2.2.2 i1 i2 hi1 hi2 hne a ha hb
  · show kCon (upN Lk0 10 [] i) = upN (sR z) 10 [] i
    by_cases q : i = 10
    · subst q; rw [upN_eq, upN_eq]; rfl
    · rw [upN_ne q, upN_ne q]; exact h.C.1 i hi
  · have hi : 11 + sLn z ≤ i := hi
    rw [upN_ne (by omega)]; exact h.C.2 i hi hi2
end Pass10
