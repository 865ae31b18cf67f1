section Passes
variable {l : Launch} {D : va_G} {σ : kS} {aO ac ap aw ah : Nat} {z : kSt} {J : List kJe} {F : kF}
theorem pay_s {z : kSt} {j : Nat} : payN z (j + 1) = payN z j + (if 0 < (sK z j).2.2.2.1 then (sK z j).2.2.2.2.1 else 0) := rfl
set_option maxHeartbeats 4000000 in
set_option maxRecDepth 100000 in
theorem c_L_passes (hl : l.stackTraces = false) (hs : sOk z) (hz : zI z) (hW : lW D aO ac ap aw ah z J F σ) (hy : sNow z < 300) {r : Nat} (hr : r < 60) : kMh hL_passes l D yL_passes 9 200 1200 [.ref aO, .int (nI r), .ref ac, .ref ap, .ref aw] σ (fun v s2 => v = some (.int 1) ∧ lW D aO ac ap aw ah (oneS z r) (oneJ z r J) F s2) (fun _ => False) := by
  refine kM_of (L := [some (.ref aO), some (.int (nI r)), some (.ref ac), some (.ref ap), some (.ref aw), none, none, none, none, none, none, none, none, none, none, none]) (by decide +kernel) hl (List.forall_mem_cons.mpr ⟨rfl, (List.forall_mem_cons.mpr ⟨rfl, (List.forall_mem_cons.mpr ⟨rfl, (List.forall_mem_cons.mpr ⟨rfl, (List.forall_mem_cons.mpr ⟨rfl, (fun _ h => absurd h List.not_mem_nil)⟩)⟩)⟩)⟩)⟩) (Nat.le_of_ble_eq_true rfl) rfl ?_
  intro p e s m args below meth c B hr hex hnm
  have B : kB p l s m args meth c D (kA σ s.heap.size) 16 cL_passes RL := B
  obtain ⟨h, fc, fp, fw, fh, ha, hcA, hpA, hwA, hhA⟩ := hW
  obtain ⟨c0, c1, c2, c3, c4, c5, c6, c7⟩ := hcA
  have hs2 : sOk (oneS z r) := oneS_ok hs hy (by omega)
  have hz2 : zI (oneS z r) := zI_one hs hz
  have hu10 : unS (sR (oneS z r) 10) = dueF z r 10 10 := by rw [oneS_10, due_10 (r := r) hs]
  have hub := hs2.un (i := 10) (by omega)
  rw [hu10] at hub
  refine k_bipush B (v := 11) dL_passes_0 (by decide) ?_
  refine k_anewG B 11 dL_passes_2 (by rfl) (by decide) qw293 (by first | exact Nat.le_of_ble_eq_true rfl | omega | (simp only [kR, Value.category, kCat_q, List.map, List.sum_cons, List.sum_nil]; omega)) (by first | exact Nat.le_of_ble_eq_true rfl | omega | (simp only [kR, Value.category, kCat_q, List.map, List.sum_cons, List.sum_nil]; omega)) (fun q2 s2 hq2 ha2 ho2 => ?_)
  refine k_astore B dL_passes_4 (by decide) (by first | exact kRf_r _ | exact kRf_q _ | exact kRf_n) ?_
  try refine kK.set1 (by first | exact True.intro | rfl | exact kCat_q _) ?_
  refine k_bipush B (v := 10) dL_passes_6 (by decide) ?_
  refine k_anewG B 10 dL_passes_8 (by rfl) (by decide) qw293 (by first | exact Nat.le_of_ble_eq_true rfl | omega | (simp only [kR, Value.category, kCat_q, List.map, List.sum_cons, List.sum_nil]; omega)) (by first | exact Nat.le_of_ble_eq_true rfl | omega | (simp only [kR, Value.category, kCat_q, List.map, List.sum_cons, List.sum_nil]; omega)) (fun q8 s8 hq8 ha8 ho8 => ?_)
  refine k_astore B dL_passes_10 (by decide) (by first | exact kRf_r _ | exact kRf_q _ | exact kRf_n) ?_
  try refine kK.set1 (by first | exact True.intro | rfl | exact kCat_q _) ?_
  have h8 := (h.ext ho2).ext ho8
  have a8 := (ha.ext ho2).ext ho8
  have hd8 : s8 q2 = some (iA D 11 fun _ => 0) := ho8 _ _ ha2
  have nc2 := iA_ne a8.1 hd8 (by decide)
  have np2 := iA_ne a8.2.1 hd8 (by decide)
  have nw2 := iA_ne a8.2.2.1 hd8 (by decide)
  have nh2 := iA_ne a8.2.2.2 hd8 (by decide)
  have nc8 := iA_ne a8.1 ha8 (by decide)
  have np8 : ap ≠ q8 := kNeN (ha.ext ho2).2.1 hq8
  have nw8 := iA_ne a8.2.2.1 ha8 (by decide)
  have nh8 := iA_ne a8.2.2.2 ha8 (by decide)
  have n28 : q2 ≠ q8 := iA_ne hd8 ha8 (by decide)
  have fin : ∀ (s1 : kS) (gd gy : Nat → Int32), cl9 D aO z J F s1 → ar4 D ac ap aw ah fc fp fw fh s1 → s1 q2 = some (iA D 11 gd) → s1 q8 = some (iA D 10 gy) → (∀ i, i < 11 → gd i = nI (dueF z r 10 i)) → (∀ i, i < 10 → gy i = nI (sK z i).2.2.2.1) → kK p l e (kR 9 200 1200) s m args below meth c D (kA σ s.heap.size) 16 (kQ below args s D σ (fun v s2 => v = some (.int 1) ∧ lW D aO ac ap aw ah (oneS z r) (oneJ z r J) F s2) (fun _ => False) 200 1200) s1 105 639 149 [some (.ref aO), some (.int (nI r)), some (.ref ac), some (.ref ap), some (.ref aw), some (.ref q2), some (.ref q8), some (.long (nL (sPai z + payN z 10))), none, some (.long (nL (sFal z))), none, some (.long (nL (sSpr z))), none, none, none, none] [] := by
    intro s1 gd gy h1 a1 hd1 hy1 hgd hgy
    refine k_aload_n B dL_passes_149 rfl (by first | exact kRf_r _ | exact kRf_q _ | exact kRf_n) ?_
    refine k_iconst B (v := 0) dL_passes_150 (by decide) ?_
    refine k_dup2 B dL_passes_151 rfl rfl ?_
    refine k_ald B 0 dL_passes_152 a1.1 (by rfl) (by first | omega | decide) (by decide) (c0) ?_
    refine k_iconst B (v := 1) dL_passes_153 (by decide) ?_
    refine k_iadd B dL_passes_154 ?_
    refine kK.rei (y := nI (sNow z + 1)) (nI_1 _) ?_
    refine k_aupG B 0 dL_passes_155 a1.1 (by rfl) (by first | omega | decide) (by decide) (fun s155 ha155 ho155 => ?_)
    have h155 := h1.outI a1.1 ho155
    have a155 := a1.c ho155 ha155
    have d155 := ho155 _ _ hd1 (Ne.symm nc2)
    have y155 := ho155 _ _ hy1 (Ne.symm nc8)
    have hcr : cN (nI r) = r := cN_nI (by omega)
    have en : nPass z 1 (nI r) = oneS z r := by rw [nPass, hcr]; rfl
    have ej : jPass z 1 (nI r) J = oneJ z r J := by rw [jPass, hcr]; rfl
    have hgp : gPass z 1 (nI r) = none := by
      refine (gRg_p ⟨by decide, by decide⟩).trans ((gRg_p ⟨nI_pos' (by omega), ?_⟩).trans (gSt_t (decide_eq_true ?_)))
      · exact nI_le (b := 1000) (by omega) (by decide)
      · show sNow z + cN 1 ≤ 300
        rw [show cN 1 = 1 by decide]; omega
    have hpn : passN z 1 (nI r) = 1 := by rw [passN, if_pos hgp]; decide
    refine k_aload_n B dL_passes_156 rfl (by first | exact kRf_r _ | exact kRf_q _ | exact kRf_n) ?_
    refine k_iconst B (v := 1) dL_passes_157 (by decide) ?_
    refine k_iload_n B dL_passes_158 rfl ?_
    refine cl_L_105 B (c_X9_pass hl hs h155) (h155.rv.choose_spec) dL_passes_159 (by first | exact Nat.le_of_ble_eq_true rfl | omega | (simp only [kR, Value.category, kCat_q, List.map, List.sum_cons, List.sum_nil]; omega)) (by first | exact Nat.le_of_ble_eq_true rfl | omega | (simp only [kR, Value.category, kCat_q, List.map, List.sum_cons, List.sum_nil]; omega)) (by first | exact Nat.le_of_ble_eq_true rfl | omega | (simp only [kR, Value.category, kCat_q, List.map, List.sum_cons, List.sum_nil]; omega)) (by first | exact Nat.le_of_ble_eq_true rfl | omega | (simp only [kR, Value.category, kCat_q, List.map, List.sum_cons, List.sum_nil]; omega)) (by first | exact Nat.le_of_ble_eq_true rfl | omega | (simp only [kR, Value.category, kCat_q, List.map, List.sum_cons, List.sum_nil]; omega)) (noE hgp) (fun v159 s159 hp159 => ?_)
    obtain ⟨-, rfl, h2, f2⟩ := hp159
    rw [en, ej] at h2
    have a2 := a155.keep f2
    have d2 := iA_keep f2 d155
    have y2 := iA_keep f2 y155
    refine kK.widen (k2 := 139) (n2 := 821) (by omega) (by omega) ?_
    refine kK.rev (y := .int (nI (sNow z + 1))) (by rw [rPass, en, oneS_now]) ?_
    refine k_aload_n B dL_passes_162 rfl (by first | exact kRf_r _ | exact kRf_q _ | exact kRf_n) ?_
    refine k_iconst B (v := 0) dL_passes_163 (by decide) ?_
    refine k_ald B 0 dL_passes_164 a2.1 (by rfl) (by first | omega | decide) (by decide) (upN_eq) ?_
    refine k_icmp_ne B 232 dL_passes_165 (by decide) (fun c9 => (c9 (rfl)).elim) (fun _ => ?_)
    refine k_aload_n B dL_passes_168 rfl (by first | exact kRf_r _ | exact kRf_q _ | exact kRf_n) ?_
    refine k_iconst B (v := 0) dL_passes_169 (by decide) ?_
    refine cl_L_86 B (c_X9_sum hl hs2 h2) (h2.rv.choose_spec) dL_passes_170 (by first | exact Nat.le_of_ble_eq_true rfl | omega | (simp only [kR, Value.category, kCat_q, List.map, List.sum_cons, List.sum_nil]; omega)) (by first | exact Nat.le_of_ble_eq_true rfl | omega | (simp only [kR, Value.category, kCat_q, List.map, List.sum_cons, List.sum_nil]; omega)) (by first | exact Nat.le_of_ble_eq_true rfl | omega | (simp only [kR, Value.category, kCat_q, List.map, List.sum_cons, List.sum_nil]; omega)) (by first | exact Nat.le_of_ble_eq_true rfl | omega | (simp only [kR, Value.category, kCat_q, List.map, List.sum_cons, List.sum_nil]; omega)) (by first | exact Nat.le_of_ble_eq_true rfl | omega | (simp only [kR, Value.category, kCat_q, List.map, List.sum_cons, List.sum_nil]; omega)) (noE (gRg_p ⟨by decide, by decide⟩)) (rdL rSu0 ?_)
    refine k_lload B dL_passes_173 rfl ?_
    refine k_ldc2 B qw479 dL_passes_175 ?_
    refine k_iload_n B dL_passes_178 rfl ?_
    refine k_i2l B dL_passes_179 ?_
    refine kK.rel (y := nL r) (nI_L (by omega)) ?_
    refine k_lmul B dL_passes_180 ?_
    refine kK.rel (y := nL (10 * r)) (nL_mul 10 r) ?_
    refine k_ladd B dL_passes_181 ?_
    refine kK.rel (y := nL (sFal z + 10 * r)) (nL_add _ _) ?_
    refine k_lcmp B dL_passes_182 ?_
    refine k_if_ne B 232 dL_passes_183 (by decide) (fun c9 => (c9 ((lg_cmp_eq _ _).mpr (by rw [oneS_Fal, Nat.mul_comm]))).elim) (fun _ => ?_)
    refine k_aload_n B dL_passes_186 rfl (by first | exact kRf_r _ | exact kRf_q _ | exact kRf_n) ?_
    refine k_iconst B (v := 2) dL_passes_187 (by decide) ?_
    refine cl_L_86 B (c_X9_sum hl hs2 h2) (h2.rv.choose_spec) dL_passes_188 (by first | exact Nat.le_of_ble_eq_true rfl | omega | (simp only [kR, Value.category, kCat_q, List.map, List.sum_cons, List.sum_nil]; omega)) (by first | exact Nat.le_of_ble_eq_true rfl | omega | (simp only [kR, Value.category, kCat_q, List.map, List.sum_cons, List.sum_nil]; omega)) (by first | exact Nat.le_of_ble_eq_true rfl | omega | (simp only [kR, Value.category, kCat_q, List.map, List.sum_cons, List.sum_nil]; omega)) (by first | exact Nat.le_of_ble_eq_true rfl | omega | (simp only [kR, Value.category, kCat_q, List.map, List.sum_cons, List.sum_nil]; omega)) (by first | exact Nat.le_of_ble_eq_true rfl | omega | (simp only [kR, Value.category, kCat_q, List.map, List.sum_cons, List.sum_nil]; omega)) (noE (gRg_p ⟨by decide, by decide⟩)) (rdL rSu2 ?_)
    refine k_lload B dL_passes_191 rfl ?_
    refine k_aload B dL_passes_193 rfl (by first | exact kRf_r _ | exact kRf_q _ | exact kRf_n) ?_
    refine k_bipush B (v := 10) dL_passes_195 (by decide) ?_
    refine k_ald B 10 dL_passes_197 d2 (by rfl) (by first | omega | decide) (by decide) (hgd 10 (by decide)) ?_
    refine k_i2l B dL_passes_198 ?_
    refine kK.rel (y := nL (dueF z r 10 10)) (nI_L (by omega)) ?_
    refine k_ladd B dL_passes_199 ?_
    refine kK.rel (y := nL (sSpr z + dueF z r 10 10)) (nL_add _ _) ?_
    refine k_lcmp B dL_passes_200 ?_
    refine k_if_ne B 232 dL_passes_201 (by decide) (fun c9 => (c9 ((lg_cmp_eq _ _).mpr (by rw [oneS_Spr, due_10 (r := r) hs]))).elim) (fun _ => ?_)
    refine k_aload_n B dL_passes_204 rfl (by first | exact kRf_r _ | exact kRf_q _ | exact kRf_n) ?_
    refine k_iconst B (v := 4) dL_passes_205 (by decide) ?_
    refine cl_L_86 B (c_X9_sum hl hs2 h2) (h2.rv.choose_spec) dL_passes_206 (by first | exact Nat.le_of_ble_eq_true rfl | omega | (simp only [kR, Value.category, kCat_q, List.map, List.sum_cons, List.sum_nil]; omega)) (by first | exact Nat.le_of_ble_eq_true rfl | omega | (simp only [kR, Value.category, kCat_q, List.map, List.sum_cons, List.sum_nil]; omega)) (by first | exact Nat.le_of_ble_eq_true rfl | omega | (simp only [kR, Value.category, kCat_q, List.map, List.sum_cons, List.sum_nil]; omega)) (by first | exact Nat.le_of_ble_eq_true rfl | omega | (simp only [kR, Value.category, kCat_q, List.map, List.sum_cons, List.sum_nil]; omega)) (by first | exact Nat.le_of_ble_eq_true rfl | omega | (simp only [kR, Value.category, kCat_q, List.map, List.sum_cons, List.sum_nil]; omega)) (noE (gRg_p ⟨by decide, by decide⟩)) (rdL rSu4 ?_)
    refine k_lload B dL_passes_209 rfl ?_
    refine k_lcmp B dL_passes_211 ?_
    refine k_if_ne B 232 dL_passes_212 (by decide) (fun c9 => (c9 ((lg_cmp_eq _ _).mpr (by rw [oneS_Pai]))).elim) (fun _ => ?_)
    refine k_aload_n B dL_passes_215 rfl (by first | exact kRf_r _ | exact kRf_q _ | exact kRf_n) ?_
    refine k_iconst B (v := 0) dL_passes_216 (by decide) ?_
    refine cl_L_110 B (c_X9_flow hl hs2 h2) (h2.rv.choose_spec) dL_passes_217 (by first | exact Nat.le_of_ble_eq_true rfl | omega | (simp only [kR, Value.category, kCat_q, List.map, List.sum_cons, List.sum_nil]; omega)) (by first | exact Nat.le_of_ble_eq_true rfl | omega | (simp only [kR, Value.category, kCat_q, List.map, List.sum_cons, List.sum_nil]; omega)) (by first | exact Nat.le_of_ble_eq_true rfl | omega | (simp only [kR, Value.category, kCat_q, List.map, List.sum_cons, List.sum_nil]; omega)) (by first | exact Nat.le_of_ble_eq_true rfl | omega | (simp only [kR, Value.category, kCat_q, List.map, List.sum_cons, List.sum_nil]; omega)) (by first | exact Nat.le_of_ble_eq_true rfl | omega | (simp only [kR, Value.category, kCat_q, List.map, List.sum_cons, List.sum_nil]; omega)) (noE (gRg_p ⟨by decide, by decide⟩)) (rdI rFl0 ?_)
    refine k_aload B dL_passes_220 rfl (by first | exact kRf_r _ | exact kRf_q _ | exact kRf_n) ?_
    refine k_bipush B (v := 10) dL_passes_222 (by decide) ?_
    refine k_ald B 10 dL_passes_224 d2 (by rfl) (by first | omega | decide) (by decide) (hgd 10 (by decide)) ?_
    refine k_icmp_ne B 232 dL_passes_225 (by decide) (fun c9 => (c9 (by rw [hu10])).elim) (fun _ => ?_)
    refine k_iconst B (v := 1) dL_passes_228 (by decide) ?_
    refine k_goto B 233 dL_passes_229 (by decide) ?_
    refine k_istore B dL_passes_233 (by decide) ?_
    try refine kK.set1 (by first | exact True.intro | rfl | exact kCat_q _) ?_
    refine kK.sub (L2 := [some (.ref aO), some (.int (nI r)), some (.ref ac), some (.ref ap), some (.ref aw), some (.ref q2), some (.ref q8), none, none, none, none, none, none, some (.int 1), none, none]) ⟨Or.inr rfl, Or.inr rfl, Or.inr rfl, Or.inr rfl, Or.inr rfl, Or.inr rfl, Or.inr rfl, Or.inl rfl, Or.inl rfl, Or.inl rfl, Or.inl rfl, Or.inl rfl, Or.inl rfl, Or.inr rfl, Or.inl rfl, Or.inl rfl, trivial⟩ ?_
    have loop3 : ∀ (n9 j : Nat) (s3 : kS) (fw3 : Nat → Int32), j + n9 = 6 → cl9 D aO (oneS z r) (oneJ z r J) F s3 → ar4 D ac ap aw ah (upN fc 0 (nI (sNow z + 1))) fp fw3 fh s3 → (∀ i, i < 12 → fw3 i = fw i) → (∀ i, i < j → fw3 (12 + i) = 0) → kK p l e (kR 9 200 1200) s m args below meth c D (kA σ s.heap.size) 16 (kQ below args s D σ (fun v s2 => v = some (.int 1) ∧ lW D aO ac ap aw ah (oneS z r) (oneJ z r J) F s2) (fun _ => False) 200 1200) s3 195 1150 406 [some (.ref aO), some (.int (nI r)), some (.ref ac), some (.ref ap), some (.ref aw), some (.ref q2), some (.ref q8), none, none, none, none, none, none, some (.int 1), some (.int (nI j)), none] [] := by
      intro n9
      induction n9 with
      | zero =>
        intro j s3 fw3 hj h3 a3 hf1 hf2
        have hj6 : j = 6 := by omega
        subst hj6
        refine k_iload B dL_passes_406 rfl ?_
        refine k_bipush B (v := 6) dL_passes_408 (by decide) ?_
        refine k_icmp_ge B 428 dL_passes_410 (by decide) (fun _ => ?_) (fun c9 => (c9 (by decide)).elim)
        refine k_iload B dL_passes_428 rfl ?_
        refine k_zret B hr dL_passes_430 (by rfl) ?_ (by first | exact Nat.le_of_ble_eq_true rfl | omega | (simp only [kR, Value.category, kCat_q, List.map, List.sum_cons, List.sum_nil]; omega)) (by first | exact Nat.le_of_ble_eq_true rfl | omega | (simp only [kR, Value.category, kCat_q, List.map, List.sum_cons, List.sum_nil]; omega))
        refine ⟨rfl, h3, _, fp, fw3, fh, a3, ⟨?_, ?_, ?_, ?_, ?_, ?_, ?_, ?_⟩, fun k hk => ?_, fun k hk => ?_, fun k hk => ?_⟩
        · rw [upN_eq, oneS_now]
        · rw [upN_ne (by decide), c1, oneS_Wn]
        · rw [upN_ne (by decide), c2, oneS_Ln]
        · rw [upN_ne (by decide), c3, oneS_Fb]
        · rw [upN_ne (by decide), c4, oneS_Cen]
        · rw [upN_ne (by decide), c5, oneS_Dr]
        · rw [upN_ne (by decide), c6, oneS_L1]
        · rw [upN_ne (by decide), c7, oneS_L2]
        · rw [hpA k hk, (oneS_K hk).2.2.2]
        · rw [oneS_Wn] at hk
          have h6 := hs.2.2.1.1
          obtain ⟨w0, w1, w2⟩ := hwA k hk
          rw [oneS_W hk, hf1 k (by omega), hf1 (6 + k) (by omega), hf2 k (by omega)]
          exact ⟨w0, w1, by rw [nI_0]⟩
        · rw [hhA k hk, oneS_Ln, oneS_Lo]
      | succ n9 ih =>
        intro j s3 fw3 hj h3 a3 hf1 hf2
        have hj6 : j < 6 := by omega
        refine k_iload B dL_passes_406 rfl ?_
        refine k_bipush B (v := 6) dL_passes_408 (by decide) ?_
        refine k_icmp_ge B 428 dL_passes_410 (by decide) (fun c9 => absurd c9 (fun q => nI_ge hj6 (by decide) q)) (fun _ => ?_)
        refine k_aload B dL_passes_413 rfl (by first | exact kRf_r _ | exact kRf_q _ | exact kRf_n) ?_
        refine k_bipush B (v := 12) dL_passes_415 (by decide) ?_
        refine k_iload B dL_passes_417 rfl ?_
        refine k_iadd B dL_passes_419 ?_
        refine k_iconst B (v := 0) dL_passes_420 (by decide) ?_
        refine k_aupG B (12 + j) dL_passes_421 a3.2.2.1 (nI_add 12 j) (by first | omega | decide) (by decide) (fun s421 ha421 ho421 => ?_)
        refine k_iincN (y := nI (j + 1)) B dL_passes_422 rfl (by decide) (nI_1 j) ?_
        try refine kK.set1 (by first | exact True.intro | rfl | exact kCat_q _) ?_
        refine k_goto B 406 dL_passes_425 (by decide) ?_
        refine kK.sub (L2 := [some (.ref aO), some (.int (nI r)), some (.ref ac), some (.ref ap), some (.ref aw), some (.ref q2), some (.ref q8), none, none, none, none, none, none, some (.int 1), some (.int (nI (j + 1))), none]) ⟨Or.inr rfl, Or.inr rfl, Or.inr rfl, Or.inr rfl, Or.inr rfl, Or.inr rfl, Or.inr rfl, Or.inl rfl, Or.inl rfl, Or.inl rfl, Or.inl rfl, Or.inl rfl, Or.inl rfl, Or.inr rfl, Or.inr rfl, Or.inl rfl, trivial⟩ ?_
        refine ih (j + 1) s421 (upN fw3 (12 + j) 0) (by omega) (h3.outI a3.2.2.1 ho421) (a3.w ho421 ha421) (fun i hi => by rw [upN_ne (by omega)]; exact hf1 i hi) (fun i hi => ?_)
        by_cases q : i = j
        · rw [q, upN_eq]
        · rw [upN_ne (by omega)]; exact hf2 i (by omega)
    have loop2 : ∀ (n9 j : Nat), j + n9 = 10 → kK p l e (kR 9 200 1200) s m args below meth c D (kA σ s.heap.size) 16 (kQ below args s D σ (fun v s2 => v = some (.int 1) ∧ lW D aO ac ap aw ah (oneS z r) (oneJ z r J) F s2) (fun _ => False) 200 1200) s159 (150 + 4 * j) (890 + 24 * j) 334 [some (.ref aO), some (.int (nI r)), some (.ref ac), some (.ref ap), some (.ref aw), some (.ref q2), some (.ref q8), none, none, none, none, none, none, some (.int 1), some (.int (nI j)), none] [] := by
      intro n9
      induction n9 with
      | zero =>
        intro j hj
        have hj6 : j = 10 := by omega
        subst hj6
        refine k_iload B dL_passes_334 rfl ?_
        refine k_bipush B (v := 10) dL_passes_336 (by decide) ?_
        refine k_icmp_ge B 403 dL_passes_338 (by decide) (fun _ => ?_) (fun c9 => (c9 (by decide)).elim)
        refine k_iconst B (v := 0) dL_passes_403 (by decide) ?_
        refine k_istore B dL_passes_404 (by decide) ?_
        try refine kK.set1 (by first | exact True.intro | rfl | exact kCat_q _) ?_
        refine kK.sub (L2 := [some (.ref aO), some (.int (nI r)), some (.ref ac), some (.ref ap), some (.ref aw), some (.ref q2), some (.ref q8), none, none, none, none, none, none, some (.int 1), some (.int (nI 0)), none]) ⟨Or.inr rfl, Or.inr rfl, Or.inr rfl, Or.inr rfl, Or.inr rfl, Or.inr rfl, Or.inr rfl, Or.inl rfl, Or.inl rfl, Or.inl rfl, Or.inl rfl, Or.inl rfl, Or.inl rfl, Or.inr rfl, Or.inr ((by rw [nI_0])), Or.inl rfl, trivial⟩ ?_
        exact kK.widen (by omega) (by omega) (loop3 6 0 s159 fw rfl h2 a2 (fun _ _ => rfl) (fun i hi => absurd hi (Nat.not_lt_zero i)))
      | succ n9 ih =>
        intro j hj
        have hj6 : j < 10 := by omega
        have hk5 := (hs.2.1 j hj6).2.2.2.2.1
        have hkk := (oneS_K (z := z) (r := r) hj6).2.2.1
        refine k_iload B dL_passes_334 rfl ?_
        refine k_bipush B (v := 10) dL_passes_336 (by decide) ?_
        refine k_icmp_ge B 403 dL_passes_338 (by decide) (fun c9 => absurd c9 (fun q => nI_ge hj6 (by decide) q)) (fun _ => ?_)
        by_cases hcy : 0 < (sK z j).2.2.2.1
        · refine k_iload B dL_passes_341 rfl ?_
          refine k_if_eq B 403 dL_passes_343 (by decide) (fun c9 => absurd c9 (by decide)) (fun _ => ?_)
          refine k_aload_n B dL_passes_346 rfl (by first | exact kRf_r _ | exact kRf_q _ | exact kRf_n) ?_
          refine k_iload B dL_passes_347 rfl ?_
          refine k_iconst B (v := 0) dL_passes_349 (by decide) ?_
          refine cl_L_52 B (c_X9_cellOf hl hs2 h2) (h2.rv.choose_spec) dL_passes_350 (by first | exact Nat.le_of_ble_eq_true rfl | omega | (simp only [kR, Value.category, kCat_q, List.map, List.sum_cons, List.sum_nil]; omega)) (by first | exact Nat.le_of_ble_eq_true rfl | omega | (simp only [kR, Value.category, kCat_q, List.map, List.sum_cons, List.sum_nil]; omega)) (by first | exact Nat.le_of_ble_eq_true rfl | omega | (simp only [kR, Value.category, kCat_q, List.map, List.sum_cons, List.sum_nil]; omega)) (by first | exact Nat.le_of_ble_eq_true rfl | omega | (simp only [kR, Value.category, kCat_q, List.map, List.sum_cons, List.sum_nil]; omega)) (by first | exact Nat.le_of_ble_eq_true rfl | omega | (simp only [kR, Value.category, kCat_q, List.map, List.sum_cons, List.sum_nil]; omega)) (noE (gCl hj6 ⟨by decide, by decide⟩)) (rdI (rCl0 hj6) ?_)
          refine k_aload B dL_passes_353 rfl (by first | exact kRf_r _ | exact kRf_q _ | exact kRf_n) ?_
          refine k_iload B dL_passes_355 rfl ?_
          refine k_ald B j dL_passes_357 d2 (by rfl) (by first | omega | decide) (by decide) (hgd j (by omega)) ?_
          refine k_icmp_ne B 394 dL_passes_358 (by decide) (fun c9 => (c9 (by rw [due_un hs hj6])).elim) (fun _ => ?_)
          refine k_aload_n B dL_passes_361 rfl (by first | exact kRf_r _ | exact kRf_q _ | exact kRf_n) ?_
          refine k_iload B dL_passes_362 rfl ?_
          refine k_iconst B (v := 5) dL_passes_364 (by decide) ?_
          refine cl_L_52 B (c_X9_cellOf hl hs2 h2) (h2.rv.choose_spec) dL_passes_365 (by first | exact Nat.le_of_ble_eq_true rfl | omega | (simp only [kR, Value.category, kCat_q, List.map, List.sum_cons, List.sum_nil]; omega)) (by first | exact Nat.le_of_ble_eq_true rfl | omega | (simp only [kR, Value.category, kCat_q, List.map, List.sum_cons, List.sum_nil]; omega)) (by first | exact Nat.le_of_ble_eq_true rfl | omega | (simp only [kR, Value.category, kCat_q, List.map, List.sum_cons, List.sum_nil]; omega)) (by first | exact Nat.le_of_ble_eq_true rfl | omega | (simp only [kR, Value.category, kCat_q, List.map, List.sum_cons, List.sum_nil]; omega)) (by first | exact Nat.le_of_ble_eq_true rfl | omega | (simp only [kR, Value.category, kCat_q, List.map, List.sum_cons, List.sum_nil]; omega)) (noE (gCl hj6 ⟨by decide, by decide⟩)) (rdI (rCl5 hj6) ?_)
          refine k_aload B dL_passes_368 rfl (by first | exact kRf_r _ | exact kRf_q _ | exact kRf_n) ?_
          refine k_iload B dL_passes_370 rfl ?_
          refine k_ald B j dL_passes_372 y2 (by rfl) (by first | omega | decide) (by decide) (hgy j hj6) ?_
          refine k_if_le B 386 dL_passes_373 (by decide) (fun c9 => absurd c9 (nI_nle hcy (by omega))) (fun _ => ?_)
          refine k_aload B dL_passes_376 rfl (by first | exact kRf_r _ | exact kRf_q _ | exact kRf_n) ?_
          refine k_iload B dL_passes_378 rfl ?_
          refine k_ald B j dL_passes_380 y2 (by rfl) (by first | omega | decide) (by decide) (hgy j hj6) ?_
          refine k_iconst B (v := 1) dL_passes_381 (by decide) ?_
          refine k_isub B dL_passes_382 ?_
          refine kK.rei (y := nI ((sK z j).2.2.2.1 - 1)) (nI_sub (b := 1) hcy) ?_
          refine k_goto B 387 dL_passes_383 (by decide) ?_
          refine k_icmp_ne B 394 dL_passes_387 (by decide) (fun c9 => (c9 (by rw [hkk])).elim) (fun _ => ?_)
          refine k_iconst B (v := 1) dL_passes_390 (by decide) ?_
          refine k_goto B 395 dL_passes_391 (by decide) ?_
          refine k_istore B dL_passes_395 (by decide) ?_
          try refine kK.set1 (by first | exact True.intro | rfl | exact kCat_q _) ?_
          refine k_iincN (y := nI (j + 1)) B dL_passes_397 rfl (by decide) (nI_1 j) ?_
          try refine kK.set1 (by first | exact True.intro | rfl | exact kCat_q _) ?_
          refine k_goto B 334 dL_passes_400 (by decide) ?_
          refine kK.sub (L2 := [some (.ref aO), some (.int (nI r)), some (.ref ac), some (.ref ap), some (.ref aw), some (.ref q2), some (.ref q8), none, none, none, none, none, none, some (.int 1), some (.int (nI (j + 1))), none]) ⟨Or.inr rfl, Or.inr rfl, Or.inr rfl, Or.inr rfl, Or.inr rfl, Or.inr rfl, Or.inr rfl, Or.inl rfl, Or.inl rfl, Or.inl rfl, Or.inl rfl, Or.inl rfl, Or.inl rfl, Or.inr rfl, Or.inr rfl, Or.inl rfl, trivial⟩ ?_
          exact kK.widen (by omega) (by omega) (ih (j + 1) (by omega))
        · have e0 : (sK z j).2.2.2.1 = 0 := by omega
          refine k_iload B dL_passes_341 rfl ?_
          refine k_if_eq B 403 dL_passes_343 (by decide) (fun c9 => absurd c9 (by decide)) (fun _ => ?_)
          refine k_aload_n B dL_passes_346 rfl (by first | exact kRf_r _ | exact kRf_q _ | exact kRf_n) ?_
          refine k_iload B dL_passes_347 rfl ?_
          refine k_iconst B (v := 0) dL_passes_349 (by decide) ?_
          refine cl_L_52 B (c_X9_cellOf hl hs2 h2) (h2.rv.choose_spec) dL_passes_350 (by first | exact Nat.le_of_ble_eq_true rfl | omega | (simp only [kR, Value.category, kCat_q, List.map, List.sum_cons, List.sum_nil]; omega)) (by first | exact Nat.le_of_ble_eq_true rfl | omega | (simp only [kR, Value.category, kCat_q, List.map, List.sum_cons, List.sum_nil]; omega)) (by first | exact Nat.le_of_ble_eq_true rfl | omega | (simp only [kR, Value.category, kCat_q, List.map, List.sum_cons, List.sum_nil]; omega)) (by first | exact Nat.le_of_ble_eq_true rfl | omega | (simp only [kR, Value.category, kCat_q, List.map, List.sum_cons, List.sum_nil]; omega)) (by first | exact Nat.le_of_ble_eq_true rfl | omega | (simp only [kR, Value.category, kCat_q, List.map, List.sum_cons, List.sum_nil]; omega)) (noE (gCl hj6 ⟨by decide, by decide⟩)) (rdI (rCl0 hj6) ?_)
          refine k_aload B dL_passes_353 rfl (by first | exact kRf_r _ | exact kRf_q _ | exact kRf_n) ?_
          refine k_iload B dL_passes_355 rfl ?_
          refine k_ald B j dL_passes_357 d2 (by rfl) (by first | omega | decide) (by decide) (hgd j (by omega)) ?_
          refine k_icmp_ne B 394 dL_passes_358 (by decide) (fun c9 => (c9 (by rw [due_un hs hj6])).elim) (fun _ => ?_)
          refine k_aload_n B dL_passes_361 rfl (by first | exact kRf_r _ | exact kRf_q _ | exact kRf_n) ?_
          refine k_iload B dL_passes_362 rfl ?_
          refine k_iconst B (v := 5) dL_passes_364 (by decide) ?_
          refine cl_L_52 B (c_X9_cellOf hl hs2 h2) (h2.rv.choose_spec) dL_passes_365 (by first | exact Nat.le_of_ble_eq_true rfl | omega | (simp only [kR, Value.category, kCat_q, List.map, List.sum_cons, List.sum_nil]; omega)) (by first | exact Nat.le_of_ble_eq_true rfl | omega | (simp only [kR, Value.category, kCat_q, List.map, List.sum_cons, List.sum_nil]; omega)) (by first | exact Nat.le_of_ble_eq_true rfl | omega | (simp only [kR, Value.category, kCat_q, List.map, List.sum_cons, List.sum_nil]; omega)) (by first | exact Nat.le_of_ble_eq_true rfl | omega | (simp only [kR, Value.category, kCat_q, List.map, List.sum_cons, List.sum_nil]; omega)) (by first | exact Nat.le_of_ble_eq_true rfl | omega | (simp only [kR, Value.category, kCat_q, List.map, List.sum_cons, List.sum_nil]; omega)) (noE (gCl hj6 ⟨by decide, by decide⟩)) (rdI (rCl5 hj6) ?_)
          refine k_aload B dL_passes_368 rfl (by first | exact kRf_r _ | exact kRf_q _ | exact kRf_n) ?_
          refine k_iload B dL_passes_370 rfl ?_
          refine k_ald B j dL_passes_372 y2 (by rfl) (by first | omega | decide) (by decide) (hgy j hj6) ?_
          refine k_if_le B 386 dL_passes_373 (by decide) (fun _ => ?_) (fun c9 => (c9 (by rw [e0]; decide)).elim)
          refine k_iconst B (v := 0) dL_passes_386 (by decide) ?_
          refine k_icmp_ne B 394 dL_passes_387 (by decide) (fun c9 => (c9 (by rw [hkk, e0, nI_0])).elim) (fun _ => ?_)
          refine k_iconst B (v := 1) dL_passes_390 (by decide) ?_
          refine k_goto B 395 dL_passes_391 (by decide) ?_
          refine k_istore B dL_passes_395 (by decide) ?_
          try refine kK.set1 (by first | exact True.intro | rfl | exact kCat_q _) ?_
          refine k_iincN (y := nI (j + 1)) B dL_passes_397 rfl (by decide) (nI_1 j) ?_
          try refine kK.set1 (by first | exact True.intro | rfl | exact kCat_q _) ?_
          refine k_goto B 334 dL_passes_400 (by decide) ?_
          refine kK.sub (L2 := [some (.ref aO), some (.int (nI r)), some (.ref ac), some (.ref ap), some (.ref aw), some (.ref q2), some (.ref q8), none, none, none, none, none, none, some (.int 1), some (.int (nI (j + 1))), none]) ⟨Or.inr rfl, Or.inr rfl, Or.inr rfl, Or.inr rfl, Or.inr rfl, Or.inr rfl, Or.inr rfl, Or.inl rfl, Or.inl rfl, Or.inl rfl, Or.inl rfl, Or.inl rfl, Or.inl rfl, Or.inr rfl, Or.inr rfl, Or.inl rfl, trivial⟩ ?_
          exact kK.widen (by omega) (by omega) (ih (j + 1) (by omega))
    have mid : ∀ k n, k ≤ 150 → n ≤ 890 → kK p l e (kR 9 200 1200) s m args below meth c D (kA σ s.heap.size) 16 (kQ below args s D σ (fun v s2 => v = some (.int 1) ∧ lW D aO ac ap aw ah (oneS z r) (oneJ z r J) F s2) (fun _ => False) 200 1200) s159 k n 324 [some (.ref aO), some (.int (nI r)), some (.ref ac), some (.ref ap), some (.ref aw), some (.ref q2), some (.ref q8), none, none, none, none, none, none, some (.int 1), none, none] [] := by
      intro k n hk hn
      refine k_iconst B (v := 1) dL_passes_324 (by decide) ?_
      refine k_goto B 329 dL_passes_325 (by decide) ?_
      refine k_istore B dL_passes_329 (by decide) ?_
      try refine kK.set1 (by first | exact True.intro | rfl | exact kCat_q _) ?_
      refine k_iconst B (v := 0) dL_passes_331 (by decide) ?_
      refine k_istore B dL_passes_332 (by decide) ?_
      try refine kK.set1 (by first | exact True.intro | rfl | exact kCat_q _) ?_
      refine kK.sub (L2 := [some (.ref aO), some (.int (nI r)), some (.ref ac), some (.ref ap), some (.ref aw), some (.ref q2), some (.ref q8), none, none, none, none, none, none, some (.int 1), some (.int (nI 0)), none]) ⟨Or.inr rfl, Or.inr rfl, Or.inr rfl, Or.inr rfl, Or.inr rfl, Or.inr rfl, Or.inr rfl, Or.inl rfl, Or.inl rfl, Or.inl rfl, Or.inl rfl, Or.inl rfl, Or.inl rfl, Or.inr rfl, Or.inr ((by rw [nI_0])), Or.inl rfl, trivial⟩ ?_
      exact kK.widen (by omega) (by omega) (loop2 10 0 rfl)
    have hpk := hs2.pk (i := 10) (by omega)
    by_cases hdu : dueF z r 10 10 = 0
    · have hnil : sR (oneS z r) 10 = [] := un_nil hpk (by rw [hu10]; exact hdu)
      refine k_iload B dL_passes_235 rfl ?_
      refine k_if_eq B 328 dL_passes_237 (by decide) (fun c9 => absurd c9 (by decide)) (fun _ => ?_)
      refine k_aload B dL_passes_240 rfl (by first | exact kRf_r _ | exact kRf_q _ | exact kRf_n) ?_
      refine k_bipush B (v := 10) dL_passes_242 (by decide) ?_
      refine k_ald B 10 dL_passes_244 d2 (by rfl) (by first | omega | decide) (by decide) (hgd 10 (by decide)) ?_
      refine k_if_ne B 276 dL_passes_245 (by decide) (fun c9 => (c9 (by rw [hdu]; rfl)).elim) (fun _ => ?_)
      refine k_aload_n B dL_passes_248 rfl (by first | exact kRf_r _ | exact kRf_q _ | exact kRf_n) ?_
      refine k_iconst B (v := 1) dL_passes_249 (by decide) ?_
      refine cl_L_110 B (c_X9_flow hl hs2 h2) (h2.rv.choose_spec) dL_passes_250 (by first | exact Nat.le_of_ble_eq_true rfl | omega | (simp only [kR, Value.category, kCat_q, List.map, List.sum_cons, List.sum_nil]; omega)) (by first | exact Nat.le_of_ble_eq_true rfl | omega | (simp only [kR, Value.category, kCat_q, List.map, List.sum_cons, List.sum_nil]; omega)) (by first | exact Nat.le_of_ble_eq_true rfl | omega | (simp only [kR, Value.category, kCat_q, List.map, List.sum_cons, List.sum_nil]; omega)) (by first | exact Nat.le_of_ble_eq_true rfl | omega | (simp only [kR, Value.category, kCat_q, List.map, List.sum_cons, List.sum_nil]; omega)) (by first | exact Nat.le_of_ble_eq_true rfl | omega | (simp only [kR, Value.category, kCat_q, List.map, List.sum_cons, List.sum_nil]; omega)) (noE (gRg_p ⟨by decide, by decide⟩)) (rdI rFl1 ?_)
      refine k_if_ne B 328 dL_passes_253 (by decide) (fun c9 => (c9 (by rw [hnil]; rfl)).elim) (fun _ => ?_)
      refine k_aload_n B dL_passes_256 rfl (by first | exact kRf_r _ | exact kRf_q _ | exact kRf_n) ?_
      refine k_iconst B (v := 2) dL_passes_257 (by decide) ?_
      refine cl_L_110 B (c_X9_flow hl hs2 h2) (h2.rv.choose_spec) dL_passes_258 (by first | exact Nat.le_of_ble_eq_true rfl | omega | (simp only [kR, Value.category, kCat_q, List.map, List.sum_cons, List.sum_nil]; omega)) (by first | exact Nat.le_of_ble_eq_true rfl | omega | (simp only [kR, Value.category, kCat_q, List.map, List.sum_cons, List.sum_nil]; omega)) (by first | exact Nat.le_of_ble_eq_true rfl | omega | (simp only [kR, Value.category, kCat_q, List.map, List.sum_cons, List.sum_nil]; omega)) (by first | exact Nat.le_of_ble_eq_true rfl | omega | (simp only [kR, Value.category, kCat_q, List.map, List.sum_cons, List.sum_nil]; omega)) (by first | exact Nat.le_of_ble_eq_true rfl | omega | (simp only [kR, Value.category, kCat_q, List.map, List.sum_cons, List.sum_nil]; omega)) (noE (gRg_p ⟨by decide, by decide⟩)) (rdI rFl2 ?_)
      refine k_if_ne B 328 dL_passes_261 (by decide) (fun c9 => (c9 (by rw [hnil]; rfl)).elim) (fun _ => ?_)
      refine k_aload_n B dL_passes_264 rfl (by first | exact kRf_r _ | exact kRf_q _ | exact kRf_n) ?_
      refine k_iconst B (v := 3) dL_passes_265 (by decide) ?_
      refine cl_L_110 B (c_X9_flow hl hs2 h2) (h2.rv.choose_spec) dL_passes_266 (by first | exact Nat.le_of_ble_eq_true rfl | omega | (simp only [kR, Value.category, kCat_q, List.map, List.sum_cons, List.sum_nil]; omega)) (by first | exact Nat.le_of_ble_eq_true rfl | omega | (simp only [kR, Value.category, kCat_q, List.map, List.sum_cons, List.sum_nil]; omega)) (by first | exact Nat.le_of_ble_eq_true rfl | omega | (simp only [kR, Value.category, kCat_q, List.map, List.sum_cons, List.sum_nil]; omega)) (by first | exact Nat.le_of_ble_eq_true rfl | omega | (simp only [kR, Value.category, kCat_q, List.map, List.sum_cons, List.sum_nil]; omega)) (by first | exact Nat.le_of_ble_eq_true rfl | omega | (simp only [kR, Value.category, kCat_q, List.map, List.sum_cons, List.sum_nil]; omega)) (noE (gRg_p ⟨by decide, by decide⟩)) (rdI rFl3 ?_)
      refine k_iconst B (v := (-1)) dL_passes_269 (by decide) ?_
      refine k_icmp_ne B 328 dL_passes_270 (by decide) (fun c9 => (c9 (by rw [hnil]; rfl)).elim) (fun _ => ?_)
      refine k_goto B 324 dL_passes_273 (by decide) ?_
      exact mid _ _ (by decide) (by decide)
    · have hn1 := ni_s (hz2.1 10 (by omega))
      have hn2 := niS_le hpk
      rw [hu10] at hn1 hn2
      obtain ⟨y1, y2', y3, ey, eo⟩ := yr_s (P := sR (oneS z r) 10) (b := sNow z + 1) (un_ne (by rw [hu10]; omega)) (fun q hq => by have := (hpk q hq).2.1; rw [oneS_now] at this; exact this)
      refine k_iload B dL_passes_235 rfl ?_
      refine k_if_eq B 328 dL_passes_237 (by decide) (fun c9 => absurd c9 (by decide)) (fun _ => ?_)
      refine k_aload B dL_passes_240 rfl (by first | exact kRf_r _ | exact kRf_q _ | exact kRf_n) ?_
      refine k_bipush B (v := 10) dL_passes_242 (by decide) ?_
      refine k_ald B 10 dL_passes_244 d2 (by rfl) (by first | omega | decide) (by decide) (hgd 10 (by decide)) ?_
      refine k_if_ne B 276 dL_passes_245 (by decide) (fun _ => ?_) (fun c9 => absurd c9 (nI_ne0 (by omega) (by omega)))
      refine k_aload_n B dL_passes_276 rfl (by first | exact kRf_r _ | exact kRf_q _ | exact kRf_n) ?_
      refine k_iconst B (v := 1) dL_passes_277 (by decide) ?_
      refine cl_L_110 B (c_X9_flow hl hs2 h2) (h2.rv.choose_spec) dL_passes_278 (by first | exact Nat.le_of_ble_eq_true rfl | omega | (simp only [kR, Value.category, kCat_q, List.map, List.sum_cons, List.sum_nil]; omega)) (by first | exact Nat.le_of_ble_eq_true rfl | omega | (simp only [kR, Value.category, kCat_q, List.map, List.sum_cons, List.sum_nil]; omega)) (by first | exact Nat.le_of_ble_eq_true rfl | omega | (simp only [kR, Value.category, kCat_q, List.map, List.sum_cons, List.sum_nil]; omega)) (by first | exact Nat.le_of_ble_eq_true rfl | omega | (simp only [kR, Value.category, kCat_q, List.map, List.sum_cons, List.sum_nil]; omega)) (by first | exact Nat.le_of_ble_eq_true rfl | omega | (simp only [kR, Value.category, kCat_q, List.map, List.sum_cons, List.sum_nil]; omega)) (noE (gRg_p ⟨by decide, by decide⟩)) (rdI rFl1 ?_)
      refine k_aload B dL_passes_281 rfl (by first | exact kRf_r _ | exact kRf_q _ | exact kRf_n) ?_
      refine k_bipush B (v := 10) dL_passes_283 (by decide) ?_
      refine k_ald B 10 dL_passes_285 d2 (by rfl) (by first | omega | decide) (by decide) (hgd 10 (by decide)) ?_
      refine k_icmp_lt B 328 dL_passes_286 (by decide) (fun c9 => absurd c9 (nI_nlt hn1 (by omega))) (fun _ => ?_)
      refine k_aload_n B dL_passes_289 rfl (by first | exact kRf_r _ | exact kRf_q _ | exact kRf_n) ?_
      refine k_iconst B (v := 1) dL_passes_290 (by decide) ?_
      refine cl_L_110 B (c_X9_flow hl hs2 h2) (h2.rv.choose_spec) dL_passes_291 (by first | exact Nat.le_of_ble_eq_true rfl | omega | (simp only [kR, Value.category, kCat_q, List.map, List.sum_cons, List.sum_nil]; omega)) (by first | exact Nat.le_of_ble_eq_true rfl | omega | (simp only [kR, Value.category, kCat_q, List.map, List.sum_cons, List.sum_nil]; omega)) (by first | exact Nat.le_of_ble_eq_true rfl | omega | (simp only [kR, Value.category, kCat_q, List.map, List.sum_cons, List.sum_nil]; omega)) (by first | exact Nat.le_of_ble_eq_true rfl | omega | (simp only [kR, Value.category, kCat_q, List.map, List.sum_cons, List.sum_nil]; omega)) (by first | exact Nat.le_of_ble_eq_true rfl | omega | (simp only [kR, Value.category, kCat_q, List.map, List.sum_cons, List.sum_nil]; omega)) (noE (gRg_p ⟨by decide, by decide⟩)) (rdI rFl1 ?_)
      refine k_bipush B (v := 10) dL_passes_294 (by decide) ?_
      refine k_aload B dL_passes_296 rfl (by first | exact kRf_r _ | exact kRf_q _ | exact kRf_n) ?_
      refine k_bipush B (v := 10) dL_passes_298 (by decide) ?_
      refine k_ald B 10 dL_passes_300 d2 (by rfl) (by first | omega | decide) (by decide) (hgd 10 (by decide)) ?_
      refine k_imul B dL_passes_301 ?_
      refine kK.rei (y := nI (10 * dueF z r 10 10)) (nI_mul 10 _) ?_
      refine k_icmp_gt B 328 dL_passes_302 (by decide) (fun c9 => absurd c9 (nI_nlt hn2 (by omega))) (fun _ => ?_)
      refine k_aload_n B dL_passes_305 rfl (by first | exact kRf_r _ | exact kRf_q _ | exact kRf_n) ?_
      refine k_iconst B (v := 3) dL_passes_306 (by decide) ?_
      refine cl_L_110 B (c_X9_flow hl hs2 h2) (h2.rv.choose_spec) dL_passes_307 (by first | exact Nat.le_of_ble_eq_true rfl | omega | (simp only [kR, Value.category, kCat_q, List.map, List.sum_cons, List.sum_nil]; omega)) (by first | exact Nat.le_of_ble_eq_true rfl | omega | (simp only [kR, Value.category, kCat_q, List.map, List.sum_cons, List.sum_nil]; omega)) (by first | exact Nat.le_of_ble_eq_true rfl | omega | (simp only [kR, Value.category, kCat_q, List.map, List.sum_cons, List.sum_nil]; omega)) (by first | exact Nat.le_of_ble_eq_true rfl | omega | (simp only [kR, Value.category, kCat_q, List.map, List.sum_cons, List.sum_nil]; omega)) (by first | exact Nat.le_of_ble_eq_true rfl | omega | (simp only [kR, Value.category, kCat_q, List.map, List.sum_cons, List.sum_nil]; omega)) (noE (gRg_p ⟨by decide, by decide⟩)) (rdI rFl3 ?_)
      refine kK.rei (y := nI (mnY (sR (oneS z r) 10))) (eo) ?_
      refine k_if_lt B 328 dL_passes_310 (by decide) (fun c9 => absurd c9 (nI_pos (by omega))) (fun _ => ?_)
      refine k_aload_n B dL_passes_313 rfl (by first | exact kRf_r _ | exact kRf_q _ | exact kRf_n) ?_
      refine k_iconst B (v := 3) dL_passes_314 (by decide) ?_
      refine cl_L_110 B (c_X9_flow hl hs2 h2) (h2.rv.choose_spec) dL_passes_315 (by first | exact Nat.le_of_ble_eq_true rfl | omega | (simp only [kR, Value.category, kCat_q, List.map, List.sum_cons, List.sum_nil]; omega)) (by first | exact Nat.le_of_ble_eq_true rfl | omega | (simp only [kR, Value.category, kCat_q, List.map, List.sum_cons, List.sum_nil]; omega)) (by first | exact Nat.le_of_ble_eq_true rfl | omega | (simp only [kR, Value.category, kCat_q, List.map, List.sum_cons, List.sum_nil]; omega)) (by first | exact Nat.le_of_ble_eq_true rfl | omega | (simp only [kR, Value.category, kCat_q, List.map, List.sum_cons, List.sum_nil]; omega)) (by first | exact Nat.le_of_ble_eq_true rfl | omega | (simp only [kR, Value.category, kCat_q, List.map, List.sum_cons, List.sum_nil]; omega)) (noE (gRg_p ⟨by decide, by decide⟩)) (rdI rFl3 ?_)
      refine kK.rei (y := nI (mnY (sR (oneS z r) 10))) (eo) ?_
      refine k_aload_n B dL_passes_318 rfl (by first | exact kRf_r _ | exact kRf_q _ | exact kRf_n) ?_
      refine k_iconst B (v := 0) dL_passes_319 (by decide) ?_
      refine k_ald B 0 dL_passes_320 a2.1 (by rfl) (by first | omega | decide) (by decide) (upN_eq) ?_
      refine k_icmp_ge B 328 dL_passes_321 (by decide) (fun c9 => absurd c9 (fun q => nI_ge (by omega) (by omega) q)) (fun _ => ?_)
      exact mid _ _ (by decide) (by decide)
  have loop1 : ∀ (n9 j : Nat) (s1 : kS) (gd gy : Nat → Int32), j + n9 = 10 → cl9 D aO z J F s1 → ar4 D ac ap aw ah fc fp fw fh s1 → s1 q2 = some (iA D 11 gd) → s1 q8 = some (iA D 10 gy) → (∀ i, i < 11 → gd i = nI (dueF z r j i)) → (∀ i, i < j → gy i = nI (sK z i).2.2.2.1) → kK p l e (kR 9 200 1200) s m args below meth c D (kA σ s.heap.size) 16 (kQ below args s D σ (fun v s2 => v = some (.int 1) ∧ lW D aO ac ap aw ah (oneS z r) (oneJ z r J) F s2) (fun _ => False) 200 1200) s1 (5 + 10 * j) (39 + 60 * j) 36 [some (.ref aO), some (.int (nI r)), some (.ref ac), some (.ref ap), some (.ref aw), some (.ref q2), some (.ref q8), some (.long (nL (sPai z + payN z j))), none, some (.long (nL (sFal z))), none, some (.long (nL (sSpr z))), none, some (.int (nI j)), none, none] [] := by
    intro n9
    induction n9 with
    | zero =>
      intro j s1 gd gy hj h1 a1 hd1 hy1 hgd hgy
      have hj10 : j = 10 := by omega
      subst hj10
      refine k_iload B dL_passes_36 rfl ?_
      refine k_bipush B (v := 10) dL_passes_38 (by decide) ?_
      refine k_icmp_ge B 149 dL_passes_40 (by decide) (fun _ => ?_) (fun c9 => (c9 (by decide)).elim)
      refine kK.sub (L2 := [some (.ref aO), some (.int (nI r)), some (.ref ac), some (.ref ap), some (.ref aw), some (.ref q2), some (.ref q8), some (.long (nL (sPai z + payN z 10))), none, some (.long (nL (sFal z))), none, some (.long (nL (sSpr z))), none, none, none, none]) ⟨Or.inr rfl, Or.inr rfl, Or.inr rfl, Or.inr rfl, Or.inr rfl, Or.inr rfl, Or.inr rfl, Or.inr rfl, Or.inl rfl, Or.inr rfl, Or.inl rfl, Or.inr rfl, Or.inl rfl, Or.inl rfl, Or.inl rfl, Or.inl rfl, trivial⟩ ?_
      exact fin s1 gd gy h1 a1 hd1 hy1 hgd hgy
    | succ n9 ih =>
      intro j s1 gd gy hj h1 a1 hd1 hy1 hgd hgy
      have hj10 : j < 10 := by omega
      have hk := hs.2.1 j hj10
      have hk1 := hk.2.1
      have hk2 := hk.2.2.1
      have hk5 := hk.2.2.2.2.1
      have hk6 := hk.2.2.2.2.2
      have hun := hs.un (i := j) (by omega)
      have hg : ldW (sK z) (sR z) j ≤ unS (sR z j) := Nat.div_le_self _ _
      obtain ⟨hdl, hdn⟩ := ldD_ok (hs.low j · hj10) hj10
      refine k_iload B dL_passes_36 rfl ?_
      refine k_bipush B (v := 10) dL_passes_38 (by decide) ?_
      refine k_icmp_ge B 149 dL_passes_40 (by decide) (fun c9 => absurd c9 (fun q => nI_ge hj10 (by decide) q)) (fun _ => ?_)
      refine k_aload_n B dL_passes_43 rfl (by first | exact kRf_r _ | exact kRf_q _ | exact kRf_n) ?_
      refine k_iload B dL_passes_44 rfl ?_
      refine k_iconst B (v := 0) dL_passes_46 (by decide) ?_
      refine cl_L_52 B (c_X9_cellOf hl hs h1) (h1.rv.choose_spec) dL_passes_47 (by first | exact Nat.le_of_ble_eq_true rfl | omega | (simp only [kR, Value.category, kCat_q, List.map, List.sum_cons, List.sum_nil]; omega)) (by first | exact Nat.le_of_ble_eq_true rfl | omega | (simp only [kR, Value.category, kCat_q, List.map, List.sum_cons, List.sum_nil]; omega)) (by first | exact Nat.le_of_ble_eq_true rfl | omega | (simp only [kR, Value.category, kCat_q, List.map, List.sum_cons, List.sum_nil]; omega)) (by first | exact Nat.le_of_ble_eq_true rfl | omega | (simp only [kR, Value.category, kCat_q, List.map, List.sum_cons, List.sum_nil]; omega)) (by first | exact Nat.le_of_ble_eq_true rfl | omega | (simp only [kR, Value.category, kCat_q, List.map, List.sum_cons, List.sum_nil]; omega)) (noE (gCl hj10 ⟨by decide, by decide⟩)) (rdI (rCl0 hj10) ?_)
      refine k_aload_n B dL_passes_50 rfl (by first | exact kRf_r _ | exact kRf_q _ | exact kRf_n) ?_
      refine k_iload B dL_passes_51 rfl ?_
      refine k_iconst B (v := 1) dL_passes_53 (by decide) ?_
      refine cl_L_52 B (c_X9_cellOf hl hs h1) (h1.rv.choose_spec) dL_passes_54 (by first | exact Nat.le_of_ble_eq_true rfl | omega | (simp only [kR, Value.category, kCat_q, List.map, List.sum_cons, List.sum_nil]; omega)) (by first | exact Nat.le_of_ble_eq_true rfl | omega | (simp only [kR, Value.category, kCat_q, List.map, List.sum_cons, List.sum_nil]; omega)) (by first | exact Nat.le_of_ble_eq_true rfl | omega | (simp only [kR, Value.category, kCat_q, List.map, List.sum_cons, List.sum_nil]; omega)) (by first | exact Nat.le_of_ble_eq_true rfl | omega | (simp only [kR, Value.category, kCat_q, List.map, List.sum_cons, List.sum_nil]; omega)) (by first | exact Nat.le_of_ble_eq_true rfl | omega | (simp only [kR, Value.category, kCat_q, List.map, List.sum_cons, List.sum_nil]; omega)) (noE (gCl hj10 ⟨by decide, by decide⟩)) (rdI (rCl1 hj10) ?_)
      refine k_idiv B dL_passes_57 (nI_ne0 hk1 (by omega)) ?_
      refine kK.rei (y := nI (ldW (sK z) (sR z) j)) (pk_div (by omega) hk1 (by omega)) ?_
      refine k_istore B dL_passes_58 (by decide) ?_
      try refine kK.set1 (by first | exact True.intro | rfl | exact kCat_q _) ?_
      refine k_aload_n B dL_passes_60 rfl (by first | exact kRf_r _ | exact kRf_q _ | exact kRf_n) ?_
      refine k_iload B dL_passes_61 rfl ?_
      refine k_iconst B (v := 3) dL_passes_63 (by decide) ?_
      refine cl_L_52 B (c_X9_cellOf hl hs h1) (h1.rv.choose_spec) dL_passes_64 (by first | exact Nat.le_of_ble_eq_true rfl | omega | (simp only [kR, Value.category, kCat_q, List.map, List.sum_cons, List.sum_nil]; omega)) (by first | exact Nat.le_of_ble_eq_true rfl | omega | (simp only [kR, Value.category, kCat_q, List.map, List.sum_cons, List.sum_nil]; omega)) (by first | exact Nat.le_of_ble_eq_true rfl | omega | (simp only [kR, Value.category, kCat_q, List.map, List.sum_cons, List.sum_nil]; omega)) (by first | exact Nat.le_of_ble_eq_true rfl | omega | (simp only [kR, Value.category, kCat_q, List.map, List.sum_cons, List.sum_nil]; omega)) (by first | exact Nat.le_of_ble_eq_true rfl | omega | (simp only [kR, Value.category, kCat_q, List.map, List.sum_cons, List.sum_nil]; omega)) (noE (gCl hj10 ⟨by decide, by decide⟩)) (rdI (rCl3 hj10) ?_)
      refine k_istore B dL_passes_67 (by decide) ?_
      try refine kK.set1 (by first | exact True.intro | rfl | exact kCat_q _) ?_
      refine k_aload B dL_passes_69 rfl (by first | exact kRf_r _ | exact kRf_q _ | exact kRf_n) ?_
      refine k_iload B dL_passes_71 rfl ?_
      refine k_dup2 B dL_passes_73 rfl rfl ?_
      refine k_ald B j dL_passes_74 hd1 (by rfl) (by first | omega | decide) (by decide) (hgd j (by omega)) ?_
      refine k_aload_n B dL_passes_75 rfl (by first | exact kRf_r _ | exact kRf_q _ | exact kRf_n) ?_
      refine k_iload B dL_passes_76 rfl ?_
      refine k_iconst B (v := 0) dL_passes_78 (by decide) ?_
      refine cl_L_52 B (c_X9_cellOf hl hs h1) (h1.rv.choose_spec) dL_passes_79 (by first | exact Nat.le_of_ble_eq_true rfl | omega | (simp only [kR, Value.category, kCat_q, List.map, List.sum_cons, List.sum_nil]; omega)) (by first | exact Nat.le_of_ble_eq_true rfl | omega | (simp only [kR, Value.category, kCat_q, List.map, List.sum_cons, List.sum_nil]; omega)) (by first | exact Nat.le_of_ble_eq_true rfl | omega | (simp only [kR, Value.category, kCat_q, List.map, List.sum_cons, List.sum_nil]; omega)) (by first | exact Nat.le_of_ble_eq_true rfl | omega | (simp only [kR, Value.category, kCat_q, List.map, List.sum_cons, List.sum_nil]; omega)) (by first | exact Nat.le_of_ble_eq_true rfl | omega | (simp only [kR, Value.category, kCat_q, List.map, List.sum_cons, List.sum_nil]; omega)) (noE (gCl hj10 ⟨by decide, by decide⟩)) (rdI (rCl0 hj10) ?_)
      refine k_iload B dL_passes_82 rfl ?_
      refine k_isub B dL_passes_84 ?_
      refine kK.rei (y := nI (unS (sR z j) - ldW (sK z) (sR z) j)) (nI_sub hg) ?_
      refine k_iload_n B dL_passes_85 rfl ?_
      refine k_iadd B dL_passes_86 ?_
      refine kK.rei (y := nI (unS (sR z j) - ldW (sK z) (sR z) j + r)) (nI_add _ _) ?_
      refine k_iadd B dL_passes_87 ?_
      refine kK.rei (y := nI (dueF z r j j + (unS (sR z j) - ldW (sK z) (sR z) j + r))) (nI_add _ _) ?_
      refine k_aupG B j dL_passes_88 hd1 (by rfl) (by first | omega | decide) (by decide) (fun s88 ha88 ho88 => ?_)
      have h88 := h1.outI hd1 ho88
      have a88 := a1.oth nc2 np2 nw2 nh2 ho88
      have y88 := ho88 _ _ hy1 (Ne.symm n28)
      have e88 : ∀ i, i < 11 → upN gd j (nI (dueF z r j j + (unS (sR z j) - ldW (sK z) (sR z) j + r))) i = nI (upN (dueF z r j) j (dueF z r j j + (unS (sR z j) - ldW (sK z) (sR z) j + r)) i) := by
        intro i hi
        by_cases q : i = j
        · rw [q, upN_eq, upN_eq]
        · rw [upN_ne q, upN_ne q, hgd i hi]
      have tail : ∀ dI : Int32, dI = nI (ldD (sK z) j) → kK p l e (kR 9 200 1200) s m args below meth c D (kA σ s.heap.size) 16 (kQ below args s D σ (fun v s2 => v = some (.int 1) ∧ lW D aO ac ap aw ah (oneS z r) (oneJ z r J) F s2) (fun _ => False) 200 1200) s88 (5 + 10 * j + 8) (39 + 60 * j + 48) 103 [some (.ref aO), some (.int (nI r)), some (.ref ac), some (.ref ap), some (.ref aw), some (.ref q2), some (.ref q8), some (.long (nL (sPai z + payN z j))), none, some (.long (nL (sFal z))), none, some (.long (nL (sSpr z))), none, some (.int (nI j)), some (.int (nI (ldW (sK z) (sR z) j))), none] [.int dI, .ref q2] := by
        intro dI hdI
        subst hdI
        refine k_dup2 B dL_passes_103 rfl rfl ?_
        refine k_ald B (ldD (sK z) j) dL_passes_104 ha88 (by rfl) (by first | omega | decide) (by decide) (e88 _ hdl) ?_
        refine k_iload B dL_passes_105 rfl ?_
        refine k_iadd B dL_passes_107 ?_
        refine kK.rei (y := nI (upN (dueF z r j) j (dueF z r j j + (unS (sR z j) - ldW (sK z) (sR z) j + r)) (ldD (sK z) j) + ldW (sK z) (sR z) j)) (nI_add _ _) ?_
        refine k_aupG B (ldD (sK z) j) dL_passes_108 ha88 (by rfl) (by first | omega | decide) (by decide) (fun s108 ha108 ho108 => ?_)
        have h108 := h88.outI ha88 ho108
        have a108 := a88.oth nc2 np2 nw2 nh2 ho108
        have y108 := ho108 _ _ y88 (Ne.symm n28)
        refine k_aload B dL_passes_109 rfl (by first | exact kRf_r _ | exact kRf_q _ | exact kRf_n) ?_
        refine k_iload B dL_passes_111 rfl ?_
        refine k_aload_n B dL_passes_113 rfl (by first | exact kRf_r _ | exact kRf_q _ | exact kRf_n) ?_
        refine k_iload B dL_passes_114 rfl ?_
        refine k_iconst B (v := 5) dL_passes_116 (by decide) ?_
        refine cl_L_52 B (c_X9_cellOf hl hs h108) (h108.rv.choose_spec) dL_passes_117 (by first | exact Nat.le_of_ble_eq_true rfl | omega | (simp only [kR, Value.category, kCat_q, List.map, List.sum_cons, List.sum_nil]; omega)) (by first | exact Nat.le_of_ble_eq_true rfl | omega | (simp only [kR, Value.category, kCat_q, List.map, List.sum_cons, List.sum_nil]; omega)) (by first | exact Nat.le_of_ble_eq_true rfl | omega | (simp only [kR, Value.category, kCat_q, List.map, List.sum_cons, List.sum_nil]; omega)) (by first | exact Nat.le_of_ble_eq_true rfl | omega | (simp only [kR, Value.category, kCat_q, List.map, List.sum_cons, List.sum_nil]; omega)) (by first | exact Nat.le_of_ble_eq_true rfl | omega | (simp only [kR, Value.category, kCat_q, List.map, List.sum_cons, List.sum_nil]; omega)) (noE (gCl hj10 ⟨by decide, by decide⟩)) (rdI (rCl5 hj10) ?_)
        refine k_aupG B j dL_passes_120 y108 (by rfl) (by first | omega | decide) (by decide) (fun s120 ha120 ho120 => ?_)
        have h120 := h108.outI y108 ho120
        have a120 := a108.oth nc8 np8 nw8 nh8 ho120
        have d120 := ho120 _ _ ha108 n28
        have hgd2 : ∀ i, i < 11 → upN (upN gd j (nI (dueF z r j j + (unS (sR z j) - ldW (sK z) (sR z) j + r)))) (ldD (sK z) j) (nI (upN (dueF z r j) j (dueF z r j j + (unS (sR z j) - ldW (sK z) (sR z) j + r)) (ldD (sK z) j) + ldW (sK z) (sR z) j)) i = nI (dueF z r (j + 1) i) := by
          intro i hi
          rw [dueF_s]
          by_cases q : i = ldD (sK z) j
          · rw [q, upN_eq, upN_eq]
          · rw [upN_ne q, upN_ne q, e88 i hi]
        have hgy2 : ∀ i, i < j + 1 → upN gy j (nI (sK z j).2.2.2.1) i = nI (sK z i).2.2.2.1 := by
          intro i hi
          by_cases q : i = j
          · rw [q, upN_eq]
          · rw [upN_ne q, hgy i (by omega)]
        by_cases hcy : 0 < (sK z j).2.2.2.1
        · refine k_lload B dL_passes_121 rfl ?_
          refine k_aload B dL_passes_123 rfl (by first | exact kRf_r _ | exact kRf_q _ | exact kRf_n) ?_
          refine k_iload B dL_passes_125 rfl ?_
          refine k_ald B j dL_passes_127 ha120 (by rfl) (by first | omega | decide) (by decide) (upN_eq) ?_
          refine k_if_le B 139 dL_passes_128 (by decide) (fun c9 => absurd c9 (nI_nle hcy (by omega))) (fun _ => ?_)
          refine k_aload_n B dL_passes_131 rfl (by first | exact kRf_r _ | exact kRf_q _ | exact kRf_n) ?_
          refine k_iload B dL_passes_132 rfl ?_
          refine k_ald B j dL_passes_134 a120.2.1 (by rfl) (by first | omega | decide) (by decide) (hpA j hj10) ?_
          refine k_i2l B dL_passes_135 ?_
          refine kK.rel (y := nL (sK z j).2.2.2.2.1) (nI_L (by omega)) ?_
          refine k_goto B 140 dL_passes_136 (by decide) ?_
          refine k_ladd B dL_passes_140 ?_
          refine kK.rel (y := nL (sPai z + payN z (j + 1))) ((nL_add _ _).trans (congrArg nL (by rw [pay_s, if_pos hcy]; omega))) ?_
          refine k_lstore B dL_passes_141 (by decide) ?_
          refine k_iincN (y := nI (j + 1)) B dL_passes_143 rfl (by decide) (nI_1 j) ?_
          try refine kK.set1 (by first | exact True.intro | rfl | exact kCat_q _) ?_
          refine k_goto B 36 dL_passes_146 (by decide) ?_
          refine kK.sub (L2 := [some (.ref aO), some (.int (nI r)), some (.ref ac), some (.ref ap), some (.ref aw), some (.ref q2), some (.ref q8), some (.long (nL (sPai z + payN z (j + 1)))), none, some (.long (nL (sFal z))), none, some (.long (nL (sSpr z))), none, some (.int (nI (j + 1))), none, none]) ⟨Or.inr rfl, Or.inr rfl, Or.inr rfl, Or.inr rfl, Or.inr rfl, Or.inr rfl, Or.inr rfl, Or.inr rfl, Or.inl rfl, Or.inr rfl, Or.inl rfl, Or.inr rfl, Or.inl rfl, Or.inr rfl, Or.inl rfl, Or.inl rfl, trivial⟩ ?_
          exact kK.widen (by omega) (by omega) (ih (j + 1) s120 _ _ (by omega) h120 a120 d120 ha120 hgd2 hgy2)
        · have e0 : (sK z j).2.2.2.1 = 0 := by omega
          refine k_lload B dL_passes_121 rfl ?_
          refine k_aload B dL_passes_123 rfl (by first | exact kRf_r _ | exact kRf_q _ | exact kRf_n) ?_
          refine k_iload B dL_passes_125 rfl ?_
          refine k_ald B j dL_passes_127 ha120 (by rfl) (by first | omega | decide) (by decide) (upN_eq) ?_
          refine k_if_le B 139 dL_passes_128 (by decide) (fun _ => ?_) (fun c9 => (c9 (by rw [e0]; decide)).elim)
          refine k_lconst B (v := 0) dL_passes_139 (by decide) ?_
          refine k_ladd B dL_passes_140 ?_
          refine kK.rel (y := nL (sPai z + payN z (j + 1))) ((Int64.add_zero _).trans (congrArg nL (by rw [pay_s, if_neg hcy]; omega))) ?_
          refine k_lstore B dL_passes_141 (by decide) ?_
          refine k_iincN (y := nI (j + 1)) B dL_passes_143 rfl (by decide) (nI_1 j) ?_
          try refine kK.set1 (by first | exact True.intro | rfl | exact kCat_q _) ?_
          refine k_goto B 36 dL_passes_146 (by decide) ?_
          refine kK.sub (L2 := [some (.ref aO), some (.int (nI r)), some (.ref ac), some (.ref ap), some (.ref aw), some (.ref q2), some (.ref q8), some (.long (nL (sPai z + payN z (j + 1)))), none, some (.long (nL (sFal z))), none, some (.long (nL (sSpr z))), none, some (.int (nI (j + 1))), none, none]) ⟨Or.inr rfl, Or.inr rfl, Or.inr rfl, Or.inr rfl, Or.inr rfl, Or.inr rfl, Or.inr rfl, Or.inr rfl, Or.inl rfl, Or.inr rfl, Or.inl rfl, Or.inr rfl, Or.inl rfl, Or.inr rfl, Or.inl rfl, Or.inl rfl, trivial⟩ ?_
          exact kK.widen (by omega) (by omega) (ih (j + 1) s120 _ _ (by omega) h120 a120 d120 ha120 hgd2 hgy2)
      cases hd : (sK z j).1 with
      | none =>
        refine k_aload B dL_passes_89 rfl (by first | exact kRf_r _ | exact kRf_q _ | exact kRf_n) ?_
        refine k_iload B dL_passes_91 rfl ?_
        refine kK.rei (y := -1) (rfl) ?_
        refine k_if_ge B 101 dL_passes_93 (by decide) (fun c9 => absurd c9 (by decide)) (fun _ => ?_)
        refine k_bipush B (v := 10) dL_passes_96 (by decide) ?_
        refine k_goto B 103 dL_passes_98 (by decide) ?_
        refine kK.sub (L2 := [some (.ref aO), some (.int (nI r)), some (.ref ac), some (.ref ap), some (.ref aw), some (.ref q2), some (.ref q8), some (.long (nL (sPai z + payN z j))), none, some (.long (nL (sFal z))), none, some (.long (nL (sSpr z))), none, some (.int (nI j)), some (.int (nI (ldW (sK z) (sR z) j))), none]) ⟨Or.inr rfl, Or.inr rfl, Or.inr rfl, Or.inr rfl, Or.inr rfl, Or.inr rfl, Or.inr rfl, Or.inr rfl, Or.inl rfl, Or.inr rfl, Or.inl rfl, Or.inr rfl, Or.inl rfl, Or.inr rfl, Or.inr rfl, Or.inl rfl, trivial⟩ ?_
        exact kK.widen (by omega) (by omega) (tail 10 (by unfold ldD; rw [hd]; rfl))
      | some d =>
        have hdj := hs.low j d hj10 hd
        refine k_aload B dL_passes_89 rfl (by first | exact kRf_r _ | exact kRf_q _ | exact kRf_n) ?_
        refine k_iload B dL_passes_91 rfl ?_
        refine kK.rei (y := nI d) (rfl) ?_
        refine k_if_ge B 101 dL_passes_93 (by decide) (fun _ => ?_) (fun c9 => (c9 (nI_pos' (by omega))).elim)
        refine k_iload B dL_passes_101 rfl ?_
        refine kK.rei (y := nI d) (rfl) ?_
        refine kK.sub (L2 := [some (.ref aO), some (.int (nI r)), some (.ref ac), some (.ref ap), some (.ref aw), some (.ref q2), some (.ref q8), some (.long (nL (sPai z + payN z j))), none, some (.long (nL (sFal z))), none, some (.long (nL (sSpr z))), none, some (.int (nI j)), some (.int (nI (ldW (sK z) (sR z) j))), none]) ⟨Or.inr rfl, Or.inr rfl, Or.inr rfl, Or.inr rfl, Or.inr rfl, Or.inr rfl, Or.inr rfl, Or.inr rfl, Or.inl rfl, Or.inr rfl, Or.inl rfl, Or.inr rfl, Or.inl rfl, Or.inr rfl, Or.inr rfl, Or.inl rfl, trivial⟩ ?_
        exact kK.widen (by omega) (by omega) (tail (nI d) (by unfold ldD; rw [hd]))
  refine k_aload_n B dL_passes_12 rfl (by first | exact kRf_r _ | exact kRf_q _ | exact kRf_n) ?_
  refine k_iconst B (v := 4) dL_passes_13 (by decide) ?_
  refine cl_L_86 B (c_X9_sum hl hs h8) (h8.rv.choose_spec) dL_passes_14 (by first | exact Nat.le_of_ble_eq_true rfl | omega | (simp only [kR, Value.category, kCat_q, List.map, List.sum_cons, List.sum_nil]; omega)) (by first | exact Nat.le_of_ble_eq_true rfl | omega | (simp only [kR, Value.category, kCat_q, List.map, List.sum_cons, List.sum_nil]; omega)) (by first | exact Nat.le_of_ble_eq_true rfl | omega | (simp only [kR, Value.category, kCat_q, List.map, List.sum_cons, List.sum_nil]; omega)) (by first | exact Nat.le_of_ble_eq_true rfl | omega | (simp only [kR, Value.category, kCat_q, List.map, List.sum_cons, List.sum_nil]; omega)) (by first | exact Nat.le_of_ble_eq_true rfl | omega | (simp only [kR, Value.category, kCat_q, List.map, List.sum_cons, List.sum_nil]; omega)) (noE (gRg_p ⟨by decide, by decide⟩)) (rdL rSu4 ?_)
  refine k_lstore B dL_passes_17 (by decide) ?_
  refine k_aload_n B dL_passes_19 rfl (by first | exact kRf_r _ | exact kRf_q _ | exact kRf_n) ?_
  refine k_iconst B (v := 0) dL_passes_20 (by decide) ?_
  refine cl_L_86 B (c_X9_sum hl hs h8) (h8.rv.choose_spec) dL_passes_21 (by first | exact Nat.le_of_ble_eq_true rfl | omega | (simp only [kR, Value.category, kCat_q, List.map, List.sum_cons, List.sum_nil]; omega)) (by first | exact Nat.le_of_ble_eq_true rfl | omega | (simp only [kR, Value.category, kCat_q, List.map, List.sum_cons, List.sum_nil]; omega)) (by first | exact Nat.le_of_ble_eq_true rfl | omega | (simp only [kR, Value.category, kCat_q, List.map, List.sum_cons, List.sum_nil]; omega)) (by first | exact Nat.le_of_ble_eq_true rfl | omega | (simp only [kR, Value.category, kCat_q, List.map, List.sum_cons, List.sum_nil]; omega)) (by first | exact Nat.le_of_ble_eq_true rfl | omega | (simp only [kR, Value.category, kCat_q, List.map, List.sum_cons, List.sum_nil]; omega)) (noE (gRg_p ⟨by decide, by decide⟩)) (rdL rSu0 ?_)
  refine k_lstore B dL_passes_24 (by decide) ?_
  refine k_aload_n B dL_passes_26 rfl (by first | exact kRf_r _ | exact kRf_q _ | exact kRf_n) ?_
  refine k_iconst B (v := 2) dL_passes_27 (by decide) ?_
  refine cl_L_86 B (c_X9_sum hl hs h8) (h8.rv.choose_spec) dL_passes_28 (by first | exact Nat.le_of_ble_eq_true rfl | omega | (simp only [kR, Value.category, kCat_q, List.map, List.sum_cons, List.sum_nil]; omega)) (by first | exact Nat.le_of_ble_eq_true rfl | omega | (simp only [kR, Value.category, kCat_q, List.map, List.sum_cons, List.sum_nil]; omega)) (by first | exact Nat.le_of_ble_eq_true rfl | omega | (simp only [kR, Value.category, kCat_q, List.map, List.sum_cons, List.sum_nil]; omega)) (by first | exact Nat.le_of_ble_eq_true rfl | omega | (simp only [kR, Value.category, kCat_q, List.map, List.sum_cons, List.sum_nil]; omega)) (by first | exact Nat.le_of_ble_eq_true rfl | omega | (simp only [kR, Value.category, kCat_q, List.map, List.sum_cons, List.sum_nil]; omega)) (noE (gRg_p ⟨by decide, by decide⟩)) (rdL rSu2 ?_)
  refine k_lstore B dL_passes_31 (by decide) ?_
  refine k_iconst B (v := 0) dL_passes_33 (by decide) ?_
  refine k_istore B dL_passes_34 (by decide) ?_
  try refine kK.set1 (by first | exact True.intro | rfl | exact kCat_q _) ?_
  refine kK.sub (L2 := [some (.ref aO), some (.int (nI r)), some (.ref ac), some (.ref ap), some (.ref aw), some (.ref q2), some (.ref q8), some (.long (nL (sPai z + payN z 0))), none, some (.long (nL (sFal z))), none, some (.long (nL (sSpr z))), none, some (.int (nI 0)), none, none]) ⟨Or.inr rfl, Or.inr rfl, Or.inr rfl, Or.inr rfl, Or.inr rfl, Or.inr rfl, Or.inr rfl, Or.inr rfl, Or.inl rfl, Or.inr rfl, Or.inl rfl, Or.inr rfl, Or.inl rfl, Or.inr ((by rw [nI_0])), Or.inl rfl, Or.inl rfl, trivial⟩ ?_
  exact kK.widen (by omega) (by omega) (loop1 10 0 s8 _ _ rfl h8 a8 hd8 ha8 (fun i hi => by rw [← nI_0]; rfl) (fun i hi => absurd hi (Nat.not_lt_zero i)))
end Passes
