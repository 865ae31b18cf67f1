/-- as cM, the number of knots left open -/
def wM (D : va_G) (aM : Nat) (ma : Nat → Nat) (mv : Nat → Nat → Int32) (kn : Nat) (Lk : Nat → kPs) (z : kSt) (t : Int32) (σ : kS) : Prop := mI D aM ma mv (qZ z kn t) σ ∧ mK (sK z) mv ∧ mW (sWn z) (sW z) mv ∧ mT (sLn z) (sLo z) mv ∧ mL kn Lk mv ∧ mC (sLn z) (sR z) Lk
theorem cM.w {D : va_G} {aM : Nat} {ma : Nat → Nat} {mv : Nat → Nat → Int32} {kn : Nat} {Lk : Nat → kPs} {z : kSt} {t : Int32} {σ : kS} (h : cM D aM ma mv kn Lk z t σ) : wM D aM ma mv kn Lk z t σ := ⟨h.m, h.K, h.W, h.T, h.L, h.C⟩
theorem wM.c {D : va_G} {aM : Nat} {ma : Nat → Nat} {mv : Nat → Nat → Int32} {kn : Nat} {Lk : Nat → kPs} {z : kSt} {t : Int32} {σ : kS} (h : wM D aM ma mv kn Lk z t σ) (hk : kn ≤ 20 * sNow z + sLn z) : cM D aM ma mv kn Lk z t σ := ⟨h.1, hk, h.2⟩
theorem fBot_eq {z z2 : kSt} (hl : sLn z2 = sLn z) (h : ∀ i, 11 ≤ i → sR z2 i = sR z i) : fBot z2 = fBot z := by
  unfold fBot
  rw [hl]
  exact suN_congr (fun i _ => by rw [h _ (by omega)])
theorem mW.up {n : Nat} {W : Nat → kWl} {mv mv2 : Nat → Nat → Int32} (h : mW n W mv) {j : Nat} {k : kWl} (he : ∀ a i, 19 ≤ a → a ≤ 21 → i ≠ j → mv2 a i = mv a i) (hk : mv2 19 j = nI k.1 ∧ mv2 20 j = nI k.2.1 ∧ mv2 21 j = nI k.2.2) : mW n (upN W j k) mv2 := fun i hi => by
  by_cases q : i = j
  · subst q; rw [upN_eq]; exact hk
  · rw [upN_ne q, he 19 i (by decide) (by decide) q, he 20 i (by decide) (by decide) q, he 21 i (by decide) (by decide) q]
    exact h i hi
theorem mL.kn1 {kn : Nat} {Lk : Nat → kPs} {mv mv2 : Nat → Nat → Int32} (h : mL kn Lk mv) (he : ∀ a i, ¬ (12 ≤ a ∧ a ≤ 16) ∨ i ≠ kn → mv2 a i = mv a i) : mL (kn + 1) Lk mv2 := ⟨fun r hr5 => (h.1 r hr5).keep (fun a h1 h2 => he a r (Or.inl (by omega))) (fun a i h1 h2 hi => he a i (Or.inr (by have := h.2.1 r hr5 i hi; omega))), fun r hr5 a ha => by have := h.2.1 r hr5 a ha; omega, h.2.2⟩
/-- the rain on the cells below n -/
def raI (z : kSt) (r n : Nat) : kSt := ((z.1.1, z.1.2.1, z.1.2.2.1, z.1.2.2.2.1, z.1.2.2.2.2.1, z.1.2.2.2.2.2.1, sFal z + r * n, z.1.2.2.2.2.2.2.2), (rnS z r n).2)
def rI (z : kSt) (r n : Nat) : kSt := if r = 0 then z else raI z r n
theorem rI_10 {z : kSt} {r : Nat} : rI z r 10 = rainO z r := by unfold rI rainO; split <;> rfl
theorem rI_0 {z : kSt} {r : Nat} : rI z r 0 = z := by
  unfold rI
  split
  · rfl
  · unfold raI rnS
    rw [raP_0, raK_0]
    rfl
theorem nit_1 (y : Nat) : nitOf 0 y = 1 := if_pos rfl
theorem nit_3 {a y : Nat} (h0 : a ≠ 0) (h : a ≠ 2 ∨ 0 < y) (h2 : a ≤ 2) : nitOf a y = 3 := by
  unfold nitOf
  rw [if_neg h0, if_pos (by omega)]
theorem nit_10 : nitOf 2 0 = 10 := by decide
section Rain10
variable {l : Launch} {D : va_G} {σ : kS} {aM : Nat} {ma : Nat → Nat} {mv : Nat → Nat → Int32} {kn : Nat} {Lk : Nat → kPs} {z : kSt} {t : Int32}
set_option maxRecDepth 100000 in
theorem c_X10_rains (hl : l.stackTraces = false) {r n : Nat} (h : wM D aM ma mv kn Lk (rI z r n) t σ) (hn : n < 10) (hrb : r ≤ 1000) (hkn : kn < 6200) (hk : clOk n (sK z n)) : kMh hX10_rains l D yX10_rains 3 0 0 [.ref aM, .int (nI n), .int (nI r)] σ (fun v s2 => v = none ∧ (∃ mv2 kn2 Lk2, wM D aM ma mv2 kn2 Lk2 (rI z r (n + 1)) t s2 ∧ kn2 ≤ kn + 1) ∧ kOut (mOwn aM ma) σ s2) (fun _ => False) := by
  refine kM_of (L := [some (.ref aM), some (.int (nI n)), some (.int (nI r)), none]) (by decide +kernel) hl (List.forall_mem_cons.mpr ⟨rfl, (List.forall_mem_cons.mpr ⟨rfl, (List.forall_mem_cons.mpr ⟨rfl, (fun _ h => absurd h List.not_mem_nil)⟩)⟩)⟩) (Nat.le_of_ble_eq_true rfl) rfl ?_
  intro p e s m args below meth c B hr hex hnm
  have B : kB p l s m args meth c D (kA σ s.heap.size) 4 cX10_rains RX10 := B
  refine k_iload_n B dX10_rains_0 rfl ?_
  refine k_if_le B 83 dX10_rains_1 (by decide) (fun c1 => ?_) (fun c1 => ?_)
  · rename_i c1
    have h0 : r = 0 := nI_le0 (by omega) c1
    subst h0
    refine k_vret B hr dX10_rains_83 ?_ (by first | exact Nat.le_of_ble_eq_true rfl | omega | (simp only [kR, Value.category, kCat_q, List.map, List.sum_cons, List.sum_nil]; omega)) (by first | exact Nat.le_of_ble_eq_true rfl | omega | (simp only [kR, Value.category, kCat_q, List.map, List.sum_cons, List.sum_nil]; omega))
    exact ⟨rfl, ⟨mv, kn, Lk, h, by omega⟩, kOut.rf⟩
  · rename_i c1
    have h0 : 1 ≤ r := by
      have : r ≠ 0 := fun q => c1 (by rw [q, nI_0]; exact Int32.le_refl _)
      omega
    have er : ∀ m, rI z r m = raI z r m := fun m => if_neg (by omega)
    rw [er] at h
    obtain ⟨h1, h2, h3, h4, h5, h6⟩ := h
    have hKn : sK (raI z r n) n = sK z n := by show raK z n n = _; rw [raK, if_neg (Nat.lt_irrefl n)]
    have hPn : sR (raI z r n) n = sR z n := by show raP z (sNow z) r n n = _; rw [raP, if_neg (Nat.lt_irrefl n)]
    obtain ⟨k1, k2, k3, k4, k5, k6⟩ := h2 n hn
    rw [hKn] at k1 k2 k3 k4 k5 k6
    obtain ⟨b1, b2, b3, b4, b5, b6⟩ := hk
    have fin : ∀ x : Nat, x = nitOf (sK z n).2.2.1 (sK z n).2.2.2.1 → kK p l e (kR 3 0 0) s m args below meth c D (kA σ s.heap.size) 4 (kQ below args s D σ (fun v s2 => v = none ∧ (∃ mv2 kn2 Lk2, wM D aM ma mv2 kn2 Lk2 (rI z r (n + 1)) t s2 ∧ kn2 ≤ kn + 1) ∧ kOut (mOwn aM ma) σ s2) (fun _ => False) 0 0) σ 0 0 42 [some (.ref aM), some (.int (nI n)), some (.int (nI r)), none] [.int (nI x)] := by
      intro x hx
      refine k_istore_n B dX10_rains_42 (by decide) ?_
      try refine kK.set1 (by first | exact True.intro | rfl | exact kCat_q _) ?_
      refine k_aload_n B dX10_rains_43 rfl (by first | exact kRf_r _ | exact kRf_q _ | exact kRf_n) ?_
      refine k_iload_n B dX10_rains_44 rfl ?_
      refine k_aload_n B dX10_rains_45 rfl (by first | exact kRf_r _ | exact kRf_q _ | exact kRf_n) ?_
      refine k_iload_n B dX10_rains_46 rfl ?_
      refine k_iload_n B dX10_rains_47 rfl ?_
      refine k_aload_n B dX10_rains_48 rfl (by first | exact kRf_r _ | exact kRf_q _ | exact kRf_n) ?_
      refine gf_X10_131 B dX10_rains_49 h1.o rfl ?_
      refine k_iload_n B dX10_rains_52 rfl ?_
      refine k_aload_n B dX10_rains_53 rfl (by first | exact kRf_r _ | exact kRf_q _ | exact kRf_n) ?_
      refine gf_X10_19 B dX10_rains_54 h1.o rfl ?_
      refine k_iload_n B dX10_rains_57 rfl ?_
      refine k_iald B dX10_rains_58 (h1.i (k := 4) rfl (by decide)) (vp_in_nI hn (by decide)) ?_
      refine kK.rei (y := (sK z n).2.2.2.2.2) (by rw [nI_clamp (by omega), k4]) ?_
      refine cl_X10_120 B (c_X10_knots hl h1 rfl hkn) h1.o dX10_rains_59 (by first | exact Nat.le_of_ble_eq_true rfl | omega | (simp only [kR, Value.category, kCat_q, List.map, List.sum_cons, List.sum_nil]; omega)) (by first | exact Nat.le_of_ble_eq_true rfl | omega | (simp only [kR, Value.category, kCat_q, List.map, List.sum_cons, List.sum_nil]; omega)) (by first | exact Nat.le_of_ble_eq_true rfl | omega | (simp only [kR, Value.category, kCat_q, List.map, List.sum_cons, List.sum_nil]; omega)) (by first | exact Nat.le_of_ble_eq_true rfl | omega | (simp only [kR, Value.category, kCat_q, List.map, List.sum_cons, List.sum_nil]; omega)) (by first | exact Nat.le_of_ble_eq_true rfl | omega | (simp only [kR, Value.category, kCat_q, List.map, List.sum_cons, List.sum_nil]; omega)) (fun _ hx => hx.elim) (fun v59 s59 hp59 => ?_)
      obtain ⟨e59, ⟨mv2, m1, m2, m3, m4, m5, m6, m7⟩, f59⟩ := hp59
      rw [e59]
      have hno : ∀ i, i < 51 → kn ∉ adr (Lk i) := fun i hi ha => by have := h5.2.1 i hi kn ha; omega
      refine cl_X10_127 B (c_X10_appends hl m1 (h5.kn1 m2) (r := n) (j := kn) (pp := raQ z (sNow z) r n) (by omega) (by omega) (by omega) ⟨m4, m5, by rw [m6, hx]; rfl, m7, m3⟩ hno) m1.o dX10_rains_62 (by first | exact Nat.le_of_ble_eq_true rfl | omega | (simp only [kR, Value.category, kCat_q, List.map, List.sum_cons, List.sum_nil]; omega)) (by first | exact Nat.le_of_ble_eq_true rfl | omega | (simp only [kR, Value.category, kCat_q, List.map, List.sum_cons, List.sum_nil]; omega)) (by first | exact Nat.le_of_ble_eq_true rfl | omega | (simp only [kR, Value.category, kCat_q, List.map, List.sum_cons, List.sum_nil]; omega)) (by first | exact Nat.le_of_ble_eq_true rfl | omega | (simp only [kR, Value.category, kCat_q, List.map, List.sum_cons, List.sum_nil]; omega)) (by first | exact Nat.le_of_ble_eq_true rfl | omega | (simp only [kR, Value.category, kCat_q, List.map, List.sum_cons, List.sum_nil]; omega)) (fun _ hx => hx.elim) (fun v62 s62 hp62 => ?_)
      obtain ⟨rfl, ⟨mv3, a1, a2, a3⟩, f62⟩ := hp62
      refine k_aload_n B dX10_rains_65 rfl (by first | exact kRf_r _ | exact kRf_q _ | exact kRf_n) ?_
      refine gf_X10_19 B dX10_rains_66 a1.o rfl ?_
      refine k_iload_n B dX10_rains_69 rfl ?_
      refine k_iconst B (v := 0) dX10_rains_70 (by decide) ?_
      refine k_iast B dX10_rains_71 (a1.i (k := 4) rfl (by decide)) (vp_in_nI hn (by decide)) ?_
      have g1 := a1.s (k := 4) rfl (by decide) (i := n) (by omega) 0
      refine k_aload_n B dX10_rains_72 rfl (by first | exact kRf_r _ | exact kRf_q _ | exact kRf_n) ?_
      refine k_dup B dX10_rains_73 rfl ?_
      refine gf_X10_134 B dX10_rains_74 g1.o rfl ?_
      refine k_iload_n B dX10_rains_77 rfl ?_
      refine k_i2l B dX10_rains_78 ?_
      refine kK.rel (y := nL r) (nI_L (by omega)) ?_
      refine k_ladd B dX10_rains_79 ?_
      refine kK.rel (y := nL (sFal z + r * (n + 1))) (by
        show nL (sFal z + r * n) + nL r = _
        rw [nL_add, Nat.mul_succ, Nat.add_assoc]) ?_
      refine pf_X10_134 B dX10_rains_80 g1.o rfl ?_
      refine k_vret B hr dX10_rains_83 ?_ (by first | exact Nat.le_of_ble_eq_true rfl | omega | (simp only [kR, Value.category, kCat_q, List.map, List.sum_cons, List.sum_nil]; omega)) (by first | exact Nat.le_of_ble_eq_true rfl | omega | (simp only [kR, Value.category, kCat_q, List.map, List.sum_cons, List.sum_nil]; omega))
      have hfb : fBot (raI z r (n + 1)) = fBot (raI z r n) := fBot_eq rfl (fun i hi => by
        show raP z (sNow z) r (n + 1) i = raP z (sNow z) r n i
        rw [raP, raP, if_neg (by omega), if_neg (by omega)])
      rw [er]
      refine ⟨rfl, ⟨mS mv3 4 n 0, kn + 1, _, ⟨?_, ?_, h3.keep (fun a i q1 q2 => ?_), h4.keep (fun a i q1 q2 => ?_), a2.keep (fun a i q => ?_), fun i hi => ?_, fun i hi hi2 => ?_⟩, Nat.le_refl _⟩, ((f59.tr f62).tr (kOut.up (mOwn.a (k := 4) rfl))).tr (kOut.up mOwn.o)⟩
      · show mI D aM ma _ (qB (raI z r (n + 1)) (fBot (raI z r (n + 1))) (kn + 1) t) _
        rw [hfb]
        exact g1.up _
      · show mK (raK z (n + 1)) _
        rw [← raK_s]
        refine mK.up h2 (fun a i q1 q2 q => ?_) ?_
        · rw [mS_j q, a3 a i ⟨by omega, by omega⟩, m2 a i (Or.inl (by omega))]
        · have e9 : ∀ a, a ≤ 6 → a ≠ 4 → mS mv3 4 n 0 a n = mv a n := fun a q1 q2 => by rw [mS_k q2, a3 a n ⟨by omega, by omega⟩, m2 a n (Or.inl (by omega))]
          exact ⟨(e9 1 (by decide) (by decide)).trans k1, (e9 2 (by decide) (by decide)).trans k2, (e9 3 (by decide) (by decide)).trans k3, mS_eq, (e9 5 (by decide) (by decide)).trans k5, (e9 6 (by decide) (by decide)).trans k6⟩
      · rw [mS_k (by omega), a3 a i ⟨by omega, by omega⟩, m2 a i (Or.inl (by omega))]
      · rw [mS_k (by omega), a3 a i ⟨by omega, by omega⟩, m2 a i (Or.inl (by omega))]
      · exact mS_k (by omega)
      · show kCon (upN Lk n (Lk n ++ [(kn, raQ z (sNow z) r n)]) i) = raP z (sNow z) r (n + 1) i
        rw [← raP_s]
        by_cases q : i = n
        · subst q
          rw [upN_eq, upN_eq, kCon, List.map_append]
          have := h6.1 i hi
          rw [hPn] at this
          rw [← this]; rfl
        · rw [upN_ne q, upN_ne q]; exact h6.1 i hi
      · rw [upN_ne (by omega)]; exact h6.2 i hi hi2
    refine k_aload_n B dX10_rains_4 rfl (by first | exact kRf_r _ | exact kRf_q _ | exact kRf_n) ?_
    refine gf_X10_13 B dX10_rains_5 h1.o rfl ?_
    refine k_iload_n B dX10_rains_8 rfl ?_
    refine k_iald B dX10_rains_9 (h1.i (k := 2) rfl (by decide)) (vp_in_nI hn (by decide)) ?_
    refine kK.rei (y := nI (sK z n).2.2.1) (by rw [nI_clamp (by omega), k2]) ?_
    refine k_if_ne B 17 dX10_rains_10 (by decide) (fun c10 => ?_) (fun c10 => ?_)
    · rename_i c10
      have hn0 : (sK z n).2.2.1 ≠ 0 := fun q => c10 (by rw [q]; rfl)
      refine k_aload_n B dX10_rains_17 rfl (by first | exact kRf_r _ | exact kRf_q _ | exact kRf_n) ?_
      refine gf_X10_13 B dX10_rains_18 h1.o rfl ?_
      refine k_iload_n B dX10_rains_21 rfl ?_
      refine k_iald B dX10_rains_22 (h1.i (k := 2) rfl (by decide)) (vp_in_nI hn (by decide)) ?_
      refine kK.rei (y := nI (sK z n).2.2.1) (by rw [nI_clamp (by omega), k2]) ?_
      refine k_iconst B (v := 2) dX10_rains_23 (by decide) ?_
      refine k_icmp_ne B 41 dX10_rains_24 (by decide) (fun c24 => ?_) (fun c24 => ?_)
      · rename_i c24
        have hn2 : (sK z n).2.2.1 ≠ 2 := fun q => c24 (by rw [q]; rfl)
        refine k_iconst B (v := 3) dX10_rains_41 (by decide) ?_
        exact fin 3 (nit_3 hn0 (Or.inl hn2) b4).symm
      · rename_i c24
        have hn2 : (sK z n).2.2.1 = 2 := (nI_eq (by omega) (by decide)).mp c24
        refine k_aload_n B dX10_rains_27 rfl (by first | exact kRf_r _ | exact kRf_q _ | exact kRf_n) ?_
        refine gf_X10_22 B dX10_rains_28 h1.o rfl ?_
        refine k_iload_n B dX10_rains_31 rfl ?_
        refine k_iald B dX10_rains_32 (h1.i (k := 5) rfl (by decide)) (vp_in_nI hn (by decide)) ?_
        refine kK.rei (y := nI (sK z n).2.2.2.1) (by rw [nI_clamp (by omega), k5]) ?_
        refine k_if_ne B 41 dX10_rains_33 (by decide) (fun c33 => ?_) (fun c33 => ?_)
        · rename_i c33
          have hn3 : (sK z n).2.2.2.1 ≠ 0 := fun q => c33 (by rw [q]; rfl)
          refine k_iconst B (v := 3) dX10_rains_41 (by decide) ?_
          exact fin 3 (nit_3 hn0 (Or.inr (by omega)) b4).symm
        · rename_i c33
          have hn3 : (sK z n).2.2.2.1 = 0 := (nI_eq (by omega) (by decide)).mp (by rw [nI_0]; exact c33)
          refine k_bipush B (v := 10) dX10_rains_36 (by decide) ?_
          refine k_goto B 42 dX10_rains_38 (by decide) ?_
          exact fin 10 (by rw [hn2, hn3]; rfl)
    · rename_i c10
      have hn0 : (sK z n).2.2.1 = 0 := (nI_eq (by omega) (by decide)).mp (by rw [nI_0]; exact c10)
      refine k_iconst B (v := 1) dX10_rains_13 (by decide) ?_
      refine k_goto B 42 dX10_rains_14 (by decide) ?_
      exact fin 1 (by rw [hn0]; exact (nit_1 _).symm)
end Rain10
