/-! ===== what a well may take, and what water a lot is, as the law asks ===== -/
theorem nL_lt {a b : Nat} (ha : a < 2 ^ 31) (hb : b < 2 ^ 31) : nL a < nL b ↔ a < b := lN_lt ha hb
theorem nL_le {a b : Nat} (ha : a < 2 ^ 31) (hb : b < 2 ^ 31) : nL a ≤ nL b ↔ a ≤ b := lN_le ha hb
theorem le9 {x : Int32} : x ≤ 9 ↔ ¬ 10 ≤ x := by
  rw [Int32.le_iff_toInt_le, Int32.le_iff_toInt_le, show (9 : Int32).toInt = 9 from rfl, show (10 : Int32).toInt = 10 from rfl]
  omega
set_option maxRecDepth 100000 in
theorem wat0 : ∀ x, x < 64 → ∀ y, y < 64 → (nI x &&& ((1 &&& (nI y ^^^ (-1))) ^^^ (-1)) = 0 ↔ (nI x &&& nI y = 0 ∧ nI x &&& 62 = 0)) := by decide +kernel
set_option maxRecDepth 100000 in
theorem wat1 : ∀ x, x < 64 → ∀ y, y < 64 → (nI x &&& ((3 &&& (nI y ^^^ (-1))) ^^^ (-1)) = 0 ↔ (nI x &&& nI y = 0 ∧ nI x &&& 60 = 0)) := by decide +kernel
section May
variable {l : Launch} {D : va_G} {σ : kS} {aO ac aw : Nat} {z : kSt} {J : List kJe} {F : kF} {fc fw : Nat → Int32}
set_option maxRecDepth 100000 in
theorem c_L_may (hl : l.stackTraces = false) (hs : sOk z) (h : cl9 D aO z J F σ) (hc : σ ac = some (iA D 8 fc)) (hcA : cA z fc) (hw : σ aw = some (iA D 18 fw)) (hwA : wA z fw) {i : Nat} (hi : i < sWn z) : kMh hL_may l D yL_may 9 2 12 [.ref aO, .int (nI i), .ref ac, .ref aw] σ (fun v s2 => v = some (.int (nI (rMay z i))) ∧ s2 = σ) (fun _ => False) := by
  refine kM_of (L := [some (.ref aO), some (.int (nI i)), some (.ref ac), some (.ref aw), none, none]) (by decide +kernel) hl (List.forall_mem_cons.mpr ⟨rfl, (List.forall_mem_cons.mpr ⟨rfl, (List.forall_mem_cons.mpr ⟨rfl, (List.forall_mem_cons.mpr ⟨rfl, (fun _ h => absurd h List.not_mem_nil)⟩)⟩)⟩)⟩) (Nat.le_of_ble_eq_true rfl) rfl ?_
  intro p e s m args below meth c B hr hex hnm
  have B : kB p l s m args meth c D (kA σ s.heap.size) 6 cL_may RL := B
  have hi6 := hs.2.2.1.1
  have hd := hs.1.2.2.1
  have hb1 := hs.1.2.2.2.1
  have hb2 := hs.1.2.2.2.2
  have hu : unS (sR z (sDr z)) ≤ 3000000 := hs.un (by omega)
  have hp := hs.2.2.1.2 i hi
  have hp1 := hp.2.1
  have hp2 := hp.2.2
  obtain ⟨-, -, -, -, -, c5, c6, c7⟩ := hcA
  obtain ⟨w0, w1, w2⟩ := hwA i hi
  have tail : ∀ a9, a9 ≤ 10000 → rMay z i = a9 - (sW z i).2.2 → kK p l e (kR 9 2 12) s m args below meth c D (kA σ s.heap.size) 6 (kQ below args s D σ (fun v s2 => v = some (.int (nI (rMay z i))) ∧ s2 = σ) (fun _ => False) 2 12) σ 2 12 49 [some (.ref aO), some (.int (nI i)), some (.ref ac), some (.ref aw), some (.int (nI (unS (sR z (sDr z))))), none] [.int (nI a9)] := by
    intro a9 ha e9
    refine k_istore B dL_may_49 (by decide) ?_
    try refine kK.set1 (by first | exact True.intro | rfl | exact kCat_q _) ?_
    refine k_iload B dL_may_51 rfl ?_
    refine k_aload_n B dL_may_53 rfl (by first | exact kRf_r _ | exact kRf_q _ | exact kRf_n) ?_
    refine k_bipush B (v := 12) dL_may_54 (by decide) ?_
    refine k_iload_n B dL_may_56 rfl ?_
    refine k_iadd B dL_may_57 ?_
    refine k_ald B (12 + i) dL_may_58 hw (nI_add 12 i) (by first | omega | decide) (by decide) (w2) ?_
    refine k_icmp_le B 74 dL_may_59 (by decide) (fun c59 => ?_) (fun c59 => ?_)
    · have q := (nI_leI (by omega) (by omega)).mp c59
      refine k_iconst B (v := 0) dL_may_74 (by decide) ?_
      refine k_iret B hr dL_may_75 ?_ (by first | exact Nat.le_of_ble_eq_true rfl | omega | (simp only [kR, Value.category, kCat_q, List.map, List.sum_cons, List.sum_nil]; omega)) (by first | exact Nat.le_of_ble_eq_true rfl | omega | (simp only [kR, Value.category, kCat_q, List.map, List.sum_cons, List.sum_nil]; omega))
      exact ⟨by rw [e9, show a9 - (sW z i).2.2 = 0 by omega]; rfl, rfl⟩
    · have q : ¬ a9 ≤ (sW z i).2.2 := fun q => c59 ((nI_leI (by omega) (by omega)).mpr q)
      refine k_iload B dL_may_62 rfl ?_
      refine k_aload_n B dL_may_64 rfl (by first | exact kRf_r _ | exact kRf_q _ | exact kRf_n) ?_
      refine k_bipush B (v := 12) dL_may_65 (by decide) ?_
      refine k_iload_n B dL_may_67 rfl ?_
      refine k_iadd B dL_may_68 ?_
      refine k_ald B (12 + i) dL_may_69 hw (nI_add 12 i) (by first | omega | decide) (by decide) (w2) ?_
      refine k_isub B dL_may_70 ?_
      refine kK.rei (y := nI (rMay z i)) (by rw [e9]; exact nI_sub (by omega)) ?_
      refine k_goto B 75 dL_may_71 (by decide) ?_
      refine k_iret B hr dL_may_75 ?_ (by first | exact Nat.le_of_ble_eq_true rfl | omega | (simp only [kR, Value.category, kCat_q, List.map, List.sum_cons, List.sum_nil]; omega)) (by first | exact Nat.le_of_ble_eq_true rfl | omega | (simp only [kR, Value.category, kCat_q, List.map, List.sum_cons, List.sum_nil]; omega))
      exact ⟨rfl, rfl⟩
  refine k_aload_n B dL_may_0 rfl (by first | exact kRf_r _ | exact kRf_q _ | exact kRf_n) ?_
  refine k_aload_n B dL_may_1 rfl (by first | exact kRf_r _ | exact kRf_q _ | exact kRf_n) ?_
  refine k_iconst B (v := 5) dL_may_2 (by decide) ?_
  refine k_ald B 5 dL_may_3 hc (by rfl) (by first | omega | decide) (by decide) (c5) ?_
  refine k_iconst B (v := 0) dL_may_4 (by decide) ?_
  refine cl_L_52 B (c_X9_cellOf hl hs h) (h.rv.choose_spec) dL_may_5 (by first | exact Nat.le_of_ble_eq_true rfl | omega | (simp only [kR, Value.category, kCat_q, List.map, List.sum_cons, List.sum_nil]; omega)) (by first | exact Nat.le_of_ble_eq_true rfl | omega | (simp only [kR, Value.category, kCat_q, List.map, List.sum_cons, List.sum_nil]; omega)) (by first | exact Nat.le_of_ble_eq_true rfl | omega | (simp only [kR, Value.category, kCat_q, List.map, List.sum_cons, List.sum_nil]; omega)) (by first | exact Nat.le_of_ble_eq_true rfl | omega | (simp only [kR, Value.category, kCat_q, List.map, List.sum_cons, List.sum_nil]; omega)) (by first | exact Nat.le_of_ble_eq_true rfl | omega | (simp only [kR, Value.category, kCat_q, List.map, List.sum_cons, List.sum_nil]; omega)) (noE (gCl hd ⟨by decide, by decide⟩)) (rdI (rCl0 hd) ?_)
  refine k_istore B dL_may_8 (by decide) ?_
  try refine kK.set1 (by first | exact True.intro | rfl | exact kCat_q _) ?_
  refine k_iload B dL_may_10 rfl ?_
  refine k_aload_n B dL_may_12 rfl (by first | exact kRf_r _ | exact kRf_q _ | exact kRf_n) ?_
  refine k_bipush B (v := 7) dL_may_13 (by decide) ?_
  refine k_ald B 7 dL_may_15 hc (by rfl) (by first | omega | decide) (by decide) (c7) ?_
  refine k_icmp_ge B 23 dL_may_16 (by decide) (fun c16 => ?_) (fun c16 => ?_)
  · have q := (nI_leI (by omega) (by omega)).mp c16
    refine k_iload B dL_may_23 rfl ?_
    refine k_aload_n B dL_may_25 rfl (by first | exact kRf_r _ | exact kRf_q _ | exact kRf_n) ?_
    refine k_bipush B (v := 6) dL_may_26 (by decide) ?_
    refine k_ald B 6 dL_may_28 hc (by rfl) (by first | omega | decide) (by decide) (c6) ?_
    refine k_icmp_ge B 43 dL_may_29 (by decide) (fun c29 => ?_) (fun c29 => ?_)
    · have q2 := (nI_leI (by omega) (by omega)).mp c29
      refine k_aload_n B dL_may_43 rfl (by first | exact kRf_r _ | exact kRf_q _ | exact kRf_n) ?_
      refine k_bipush B (v := 6) dL_may_44 (by decide) ?_
      refine k_iload_n B dL_may_46 rfl ?_
      refine k_iadd B dL_may_47 ?_
      refine k_ald B (6 + i) dL_may_48 hw (nI_add 6 i) (by first | omega | decide) (by decide) (w1) ?_
      exact tail _ hp1 (by rw [rMay, if_neg (by omega), if_neg (by omega)])
    · have q2 : ¬ sL1 z ≤ unS (sR z (sDr z)) := fun q => c29 ((nI_leI (by omega) (by omega)).mpr q)
      refine k_aload_n B dL_may_32 rfl (by first | exact kRf_r _ | exact kRf_q _ | exact kRf_n) ?_
      refine k_bipush B (v := 6) dL_may_33 (by decide) ?_
      refine k_iload_n B dL_may_35 rfl ?_
      refine k_iadd B dL_may_36 ?_
      refine k_ald B (6 + i) dL_may_37 hw (nI_add 6 i) (by first | omega | decide) (by decide) (w1) ?_
      refine k_iconst B (v := 2) dL_may_38 (by decide) ?_
      refine k_idiv B dL_may_39 (by decide) ?_
      refine kK.rei (y := nI ((sW z i).2.1 / 2)) (pk_div (d := 2) (by omega) (by decide) (by decide)) ?_
      refine k_goto B 49 dL_may_40 (by decide) ?_
      exact tail _ (by omega) (by rw [rMay, if_neg (by omega), if_pos (by omega)])
  · have q : ¬ sL2 z ≤ unS (sR z (sDr z)) := fun q => c16 ((nI_leI (by omega) (by omega)).mpr q)
    refine k_iconst B (v := 0) dL_may_19 (by decide) ?_
    refine k_goto B 49 dL_may_20 (by decide) ?_
    exact tail 0 (by omega) (by rw [rMay, if_pos (by omega)])
set_option maxRecDepth 100000 in
theorem c_L_isWater (hl : l.stackTraces = false) (hs : sOk z) (h : cl9 D aO z J F σ) (hz : zI z) (hc : σ ac = some (iA D 8 fc)) (c3 : fc 3 = sFb z) {i : Nat} (hi : i < sLn z) {k9 : Int32} (hk : k9 = 0 ∨ k9 = 1 ∨ k9 = 2) : kMh hL_isWater l D yL_isWater 9 10 60 [.ref aO, .int (nI i), .int k9, .ref ac] σ (fun v s2 => v = some (.int (bI (kindB z (nI i) k9))) ∧ s2 = σ) (fun _ => False) := by
  refine kM_of (L := [some (.ref aO), some (.int (nI i)), some (.int k9), some (.ref ac), none, none, none, none]) (by decide +kernel) hl (List.forall_mem_cons.mpr ⟨rfl, (List.forall_mem_cons.mpr ⟨rfl, (List.forall_mem_cons.mpr ⟨rfl, (List.forall_mem_cons.mpr ⟨rfl, (fun _ h => absurd h List.not_mem_nil)⟩)⟩)⟩)⟩) (Nat.le_of_ble_eq_true rfl) rfl ?_
  intro p e s m args below meth c B hr hex hnm
  have B : kB p l s m args meth c D (kA σ s.heap.size) 8 cL_isWater RL := B
  have h40 := hs.2.2.2.1.1
  have hni := (hs.lot hi).1
  have hun := (hs.lot hi).2
  obtain ⟨x, hx, ex⟩ := (hz.2.2.1 i hi).1
  obtain ⟨y, hy, ey⟩ := hz.2.1
  have no : kindB z (nI i) k9 = false → ∀ (L2 : List (Option Value)) (k n : Nat), k ≤ 10 → n ≤ 60 → kK p l e (kR 9 10 60) s m args below meth c D (kA σ s.heap.size) 8 (kQ below args s D σ (fun v s2 => v = some (.int (bI (kindB z (nI i) k9))) ∧ s2 = σ) (fun _ => False) 10 60) σ k n 117 L2 [] := by
    intro hq L2 k n hk hn
    refine k_iconst B (v := 0) dL_isWater_117 (by decide) ?_
    refine k_zret B hr dL_isWater_118 (by rfl) ?_ (by first | exact Nat.le_of_ble_eq_true rfl | omega | (simp only [kR, Value.category, kCat_q, List.map, List.sum_cons, List.sum_nil]; omega)) (by first | exact Nat.le_of_ble_eq_true rfl | omega | (simp only [kR, Value.category, kCat_q, List.map, List.sum_cons, List.sum_nil]; omega))
    exact ⟨by rw [hq]; rfl, rfl⟩
  have ye : kindB z (nI i) k9 = true → ∀ (L2 : List (Option Value)) (k n : Nat), k ≤ 10 → n ≤ 60 → kK p l e (kR 9 10 60) s m args below meth c D (kA σ s.heap.size) 8 (kQ below args s D σ (fun v s2 => v = some (.int (bI (kindB z (nI i) k9))) ∧ s2 = σ) (fun _ => False) 10 60) σ k n 113 L2 [] := by
    intro hq L2 k n hk hn
    refine k_iconst B (v := 1) dL_isWater_113 (by decide) ?_
    refine k_goto B 118 dL_isWater_114 (by decide) ?_
    refine k_zret B hr dL_isWater_118 (by rfl) ?_ (by first | exact Nat.le_of_ble_eq_true rfl | omega | (simp only [kR, Value.category, kCat_q, List.map, List.sum_cons, List.sum_nil]; omega)) (by first | exact Nat.le_of_ble_eq_true rfl | omega | (simp only [kR, Value.category, kCat_q, List.map, List.sum_cons, List.sum_nil]; omega))
    exact ⟨by rw [hq]; rfl, rfl⟩
  rw [kindB_nI (by omega)] at no ye ⊢
  rcases hk with rfl | rfl | rfl
  · have tail : ∀ bd : Int32, (bd = 0 ∧ (sLo z i).2.2.1 &&& ((1 &&& (sFb z ^^^ (-1))) ^^^ (-1)) = 0) ∨ (bd = 1 ∧ ¬ (sLo z i).2.2.1 &&& ((1 &&& (sFb z ^^^ (-1))) ^^^ (-1)) = 0) → kK p l e (kR 9 10 60) s m args below meth c D (kA σ s.heap.size) 8 (kQ below args s D σ (fun v s2 => v = some (.int (bI (okB 0 (sFb z) (sLo z i).2.2.1 (sLo z i).2.1 (sR z (11 + i))))) ∧ s2 = σ) (fun _ => False) 10 60) σ 2 12 40 [some (.ref aO), some (.int (nI i)), some (.int 0), some (.ref ac), some (.int (sLo z i).2.2.1), none, none, none] [.int bd] := by
      intro bd hb
      refine k_istore B dL_isWater_40 (by decide) ?_
      try refine kK.set1 (by first | exact True.intro | rfl | exact kCat_q _) ?_
      refine k_aload_n B dL_isWater_42 rfl (by first | exact kRf_r _ | exact kRf_q _ | exact kRf_n) ?_
      refine k_iload_n B dL_isWater_43 rfl ?_
      refine k_iconst B (v := 1) dL_isWater_44 (by decide) ?_
      refine cl_L_36 B (c_X9_lotOf hl hs h) (h.rv.choose_spec) dL_isWater_45 (by first | exact Nat.le_of_ble_eq_true rfl | omega | (simp only [kR, Value.category, kCat_q, List.map, List.sum_cons, List.sum_nil]; omega)) (by first | exact Nat.le_of_ble_eq_true rfl | omega | (simp only [kR, Value.category, kCat_q, List.map, List.sum_cons, List.sum_nil]; omega)) (by first | exact Nat.le_of_ble_eq_true rfl | omega | (simp only [kR, Value.category, kCat_q, List.map, List.sum_cons, List.sum_nil]; omega)) (by first | exact Nat.le_of_ble_eq_true rfl | omega | (simp only [kR, Value.category, kCat_q, List.map, List.sum_cons, List.sum_nil]; omega)) (by first | exact Nat.le_of_ble_eq_true rfl | omega | (simp only [kR, Value.category, kCat_q, List.map, List.sum_cons, List.sum_nil]; omega)) (noE (gLf hi hs.2.2.2.1.1 ⟨by decide, by decide⟩)) (rdI (rLo1 (Nat.lt_of_lt_of_le hi hs.2.2.2.1.1)) ?_)
      refine k_i2l B dL_isWater_48 ?_
      refine kK.rel (y := nL (unS (sR z (11 + i)))) (nI_L (by omega)) ?_
      refine k_lstore B dL_isWater_49 (by decide) ?_
      refine k_iload_n B dL_isWater_51 rfl ?_
      refine k_iconst B (v := 2) dL_isWater_52 (by decide) ?_
      refine k_icmp_eq B 113 dL_isWater_53 (by decide) (fun c9 => absurd c9 (by decide)) (fun _ => ?_)
      refine k_iload B dL_isWater_56 rfl ?_
      rcases hb with ⟨rfl, hb⟩ | ⟨rfl, hb⟩
      · refine k_if_ne B 117 dL_isWater_58 (by decide) (fun c9 => (c9 (rfl)).elim) (fun _ => ?_)
        refine k_aload_n B dL_isWater_61 rfl (by first | exact kRf_r _ | exact kRf_q _ | exact kRf_n) ?_
        refine k_iload_n B dL_isWater_62 rfl ?_
        refine k_iconst B (v := 2) dL_isWater_63 (by decide) ?_
        refine cl_L_36 B (c_X9_lotOf hl hs h) (h.rv.choose_spec) dL_isWater_64 (by first | exact Nat.le_of_ble_eq_true rfl | omega | (simp only [kR, Value.category, kCat_q, List.map, List.sum_cons, List.sum_nil]; omega)) (by first | exact Nat.le_of_ble_eq_true rfl | omega | (simp only [kR, Value.category, kCat_q, List.map, List.sum_cons, List.sum_nil]; omega)) (by first | exact Nat.le_of_ble_eq_true rfl | omega | (simp only [kR, Value.category, kCat_q, List.map, List.sum_cons, List.sum_nil]; omega)) (by first | exact Nat.le_of_ble_eq_true rfl | omega | (simp only [kR, Value.category, kCat_q, List.map, List.sum_cons, List.sum_nil]; omega)) (by first | exact Nat.le_of_ble_eq_true rfl | omega | (simp only [kR, Value.category, kCat_q, List.map, List.sum_cons, List.sum_nil]; omega)) (noE (gLf hi hs.2.2.2.1.1 ⟨by decide, by decide⟩)) (rdI (rLo2 (Nat.lt_of_lt_of_le hi hs.2.2.2.1.1)) ?_)
        refine k_i2l B dL_isWater_67 ?_
        refine kK.rel (y := nL (niS (sR z (11 + i)))) (nI_L (by omega)) ?_
        refine k_iload_n B dL_isWater_68 rfl ?_
        refine k_if_ne B 78 dL_isWater_69 (by decide) (fun c9 => (c9 (by decide)).elim) (fun _ => ?_)
        refine k_ldc2 B qw679 dL_isWater_72 ?_
        refine k_goto B 81 dL_isWater_75 (by decide) ?_
        refine k_lload B dL_isWater_81 rfl ?_
        refine k_lmul B dL_isWater_83 ?_
        refine kK.rel (y := nL (5 * unS (sR z (11 + i)))) (nL_mul 5 _) ?_
        refine k_lcmp B dL_isWater_84 ?_
        refine k_if_gt B 117 dL_isWater_85 (by decide) (fun c85 => ?_) (fun c85 => ?_)
        · have q := (nL_lt (by omega) (by omega)).mp ((lg_cmp_gt _ _).mp c85)
          exact no (by rw [okB, if_pos rfl, hamB, decide_eq_false (show ¬ niS (sR z (11 + i)) ≤ 5 * unS (sR z (11 + i)) by omega), Bool.and_false]; rfl) _ _ _ (by decide) (by decide)
        · have q : niS (sR z (11 + i)) ≤ 5 * unS (sR z (11 + i)) := Nat.le_of_not_lt (fun q => c85 ((lg_cmp_gt _ _).mpr ((nL_lt (by omega) (by omega)).mpr q)))
          have hh : hamB (sLo z i).2.2.1 (1 &&& (sFb z ^^^ (-1))) 5 (sR z (11 + i)) = true := by rw [hamB, decide_eq_true hb, decide_eq_true q]; rfl
          refine k_iload_n B dL_isWater_88 rfl ?_
          refine k_iconst B (v := 1) dL_isWater_89 (by decide) ?_
          refine k_icmp_eq B 113 dL_isWater_90 (by decide) (fun c9 => absurd c9 (by decide)) (fun _ => ?_)
          refine k_aload_n B dL_isWater_93 rfl (by first | exact kRf_r _ | exact kRf_q _ | exact kRf_n) ?_
          refine k_iload_n B dL_isWater_94 rfl ?_
          refine k_iconst B (v := 4) dL_isWater_95 (by decide) ?_
          refine cl_L_36 B (c_X9_lotOf hl hs h) (h.rv.choose_spec) dL_isWater_96 (by first | exact Nat.le_of_ble_eq_true rfl | omega | (simp only [kR, Value.category, kCat_q, List.map, List.sum_cons, List.sum_nil]; omega)) (by first | exact Nat.le_of_ble_eq_true rfl | omega | (simp only [kR, Value.category, kCat_q, List.map, List.sum_cons, List.sum_nil]; omega)) (by first | exact Nat.le_of_ble_eq_true rfl | omega | (simp only [kR, Value.category, kCat_q, List.map, List.sum_cons, List.sum_nil]; omega)) (by first | exact Nat.le_of_ble_eq_true rfl | omega | (simp only [kR, Value.category, kCat_q, List.map, List.sum_cons, List.sum_nil]; omega)) (by first | exact Nat.le_of_ble_eq_true rfl | omega | (simp only [kR, Value.category, kCat_q, List.map, List.sum_cons, List.sum_nil]; omega)) (noE (gLf hi hs.2.2.2.1.1 ⟨by decide, by decide⟩)) (rdI (rLo4 (Nat.lt_of_lt_of_le hi hs.2.2.2.1.1)) ?_)
          refine k_if_ne B 117 dL_isWater_99 (by decide) (fun c99 => ?_) (fun c99 => ?_)
          · exact no (by rw [okB, if_pos rfl, hh, decide_eq_false c99]; rfl) _ _ _ (by decide) (by decide)
          · refine k_aload_n B dL_isWater_102 rfl (by first | exact kRf_r _ | exact kRf_q _ | exact kRf_n) ?_
            refine k_iload_n B dL_isWater_103 rfl ?_
            refine k_iconst B (v := 5) dL_isWater_104 (by decide) ?_
            refine cl_L_36 B (c_X9_lotOf hl hs h) (h.rv.choose_spec) dL_isWater_105 (by first | exact Nat.le_of_ble_eq_true rfl | omega | (simp only [kR, Value.category, kCat_q, List.map, List.sum_cons, List.sum_nil]; omega)) (by first | exact Nat.le_of_ble_eq_true rfl | omega | (simp only [kR, Value.category, kCat_q, List.map, List.sum_cons, List.sum_nil]; omega)) (by first | exact Nat.le_of_ble_eq_true rfl | omega | (simp only [kR, Value.category, kCat_q, List.map, List.sum_cons, List.sum_nil]; omega)) (by first | exact Nat.le_of_ble_eq_true rfl | omega | (simp only [kR, Value.category, kCat_q, List.map, List.sum_cons, List.sum_nil]; omega)) (by first | exact Nat.le_of_ble_eq_true rfl | omega | (simp only [kR, Value.category, kCat_q, List.map, List.sum_cons, List.sum_nil]; omega)) (noE (gLf hi hs.2.2.2.1.1 ⟨by decide, by decide⟩)) (rdI (rLo5 (Nat.lt_of_lt_of_le hi hs.2.2.2.1.1)) ?_)
            refine k_bipush B (v := 9) dL_isWater_108 (by decide) ?_
            refine k_icmp_le B 117 dL_isWater_110 (by decide) (fun c110 => ?_) (fun c110 => ?_)
            · exact no (by rw [okB, if_pos rfl, decide_eq_false (le9.mp c110), Bool.and_false]) _ _ _ (by decide) (by decide)
            · exact ye (by rw [okB, if_pos rfl, hh, decide_eq_true c99, decide_eq_true (Classical.not_not.mp (fun q => c110 (le9.mpr q)))]; rfl) _ _ _ (by decide) (by decide)
      · refine k_if_ne B 117 dL_isWater_58 (by decide) (fun _ => ?_) (fun c9 => absurd c9 (by decide))
        exact no (by rw [okB, if_pos rfl, hamB, decide_eq_false hb]; rfl) _ _ _ (by decide) (by decide)
    refine k_aload_n B dL_isWater_0 rfl (by first | exact kRf_r _ | exact kRf_q _ | exact kRf_n) ?_
    refine k_iload_n B dL_isWater_1 rfl ?_
    refine k_bipush B (v := 7) dL_isWater_2 (by decide) ?_
    refine cl_L_36 B (c_X9_lotOf hl hs h) (h.rv.choose_spec) dL_isWater_4 (by first | exact Nat.le_of_ble_eq_true rfl | omega | (simp only [kR, Value.category, kCat_q, List.map, List.sum_cons, List.sum_nil]; omega)) (by first | exact Nat.le_of_ble_eq_true rfl | omega | (simp only [kR, Value.category, kCat_q, List.map, List.sum_cons, List.sum_nil]; omega)) (by first | exact Nat.le_of_ble_eq_true rfl | omega | (simp only [kR, Value.category, kCat_q, List.map, List.sum_cons, List.sum_nil]; omega)) (by first | exact Nat.le_of_ble_eq_true rfl | omega | (simp only [kR, Value.category, kCat_q, List.map, List.sum_cons, List.sum_nil]; omega)) (by first | exact Nat.le_of_ble_eq_true rfl | omega | (simp only [kR, Value.category, kCat_q, List.map, List.sum_cons, List.sum_nil]; omega)) (noE (gLf hi hs.2.2.2.1.1 ⟨by decide, by decide⟩)) (rdI (rLo7 (Nat.lt_of_lt_of_le hi hs.2.2.2.1.1)) ?_)
    refine k_istore B dL_isWater_7 (by decide) ?_
    try refine kK.set1 (by first | exact True.intro | rfl | exact kCat_q _) ?_
    refine k_iload B dL_isWater_9 rfl ?_
    refine k_aload_n B dL_isWater_11 rfl (by first | exact kRf_r _ | exact kRf_q _ | exact kRf_n) ?_
    refine k_iconst B (v := 3) dL_isWater_12 (by decide) ?_
    refine k_ald B 3 dL_isWater_13 hc (by rfl) (by first | omega | decide) (by decide) (c3) ?_
    refine k_iand B dL_isWater_14 ?_
    refine k_if_ne B 35 dL_isWater_15 (by decide) (fun c15 => ?_) (fun c15 => ?_)
    · refine k_iconst B (v := 1) dL_isWater_35 (by decide) ?_
      refine k_goto B 40 dL_isWater_36 (by decide) ?_
      exact tail 1 (Or.inr ⟨rfl, fun q => c15 (by rw [ex, ey] at q ⊢; exact ((wat0 x hx y hy).mp q).1)⟩)
    · refine k_iload B dL_isWater_18 rfl ?_
      refine k_iload_n B dL_isWater_20 rfl ?_
      refine k_if_ne B 29 dL_isWater_21 (by decide) (fun c9 => (c9 (by decide)).elim) (fun _ => ?_)
      refine k_bipush B (v := 62) dL_isWater_24 (by decide) ?_
      refine k_goto B 31 dL_isWater_26 (by decide) ?_
      refine k_iand B dL_isWater_31 ?_
      refine k_if_eq B 39 dL_isWater_32 (by decide) (fun c32 => ?_) (fun c32 => ?_)
      · refine k_iconst B (v := 0) dL_isWater_39 (by decide) ?_
        exact tail 0 (Or.inl ⟨rfl, by rw [ex, ey] at c15 ⊢; rw [ex] at c32; exact (wat0 x hx y hy).mpr ⟨c15, c32⟩⟩)
      · refine k_iconst B (v := 1) dL_isWater_35 (by decide) ?_
        refine k_goto B 40 dL_isWater_36 (by decide) ?_
        exact tail 1 (Or.inr ⟨rfl, fun q => c32 (by rw [ex, ey] at q; rw [ex]; exact ((wat0 x hx y hy).mp q).2)⟩)
  · have tail : ∀ bd : Int32, (bd = 0 ∧ (sLo z i).2.2.1 &&& ((3 &&& (sFb z ^^^ (-1))) ^^^ (-1)) = 0) ∨ (bd = 1 ∧ ¬ (sLo z i).2.2.1 &&& ((3 &&& (sFb z ^^^ (-1))) ^^^ (-1)) = 0) → kK p l e (kR 9 10 60) s m args below meth c D (kA σ s.heap.size) 8 (kQ below args s D σ (fun v s2 => v = some (.int (bI (okB 1 (sFb z) (sLo z i).2.2.1 (sLo z i).2.1 (sR z (11 + i))))) ∧ s2 = σ) (fun _ => False) 10 60) σ 2 12 40 [some (.ref aO), some (.int (nI i)), some (.int 1), some (.ref ac), some (.int (sLo z i).2.2.1), none, none, none] [.int bd] := by
      intro bd hb
      refine k_istore B dL_isWater_40 (by decide) ?_
      try refine kK.set1 (by first | exact True.intro | rfl | exact kCat_q _) ?_
      refine k_aload_n B dL_isWater_42 rfl (by first | exact kRf_r _ | exact kRf_q _ | exact kRf_n) ?_
      refine k_iload_n B dL_isWater_43 rfl ?_
      refine k_iconst B (v := 1) dL_isWater_44 (by decide) ?_
      refine cl_L_36 B (c_X9_lotOf hl hs h) (h.rv.choose_spec) dL_isWater_45 (by first | exact Nat.le_of_ble_eq_true rfl | omega | (simp only [kR, Value.category, kCat_q, List.map, List.sum_cons, List.sum_nil]; omega)) (by first | exact Nat.le_of_ble_eq_true rfl | omega | (simp only [kR, Value.category, kCat_q, List.map, List.sum_cons, List.sum_nil]; omega)) (by first | exact Nat.le_of_ble_eq_true rfl | omega | (simp only [kR, Value.category, kCat_q, List.map, List.sum_cons, List.sum_nil]; omega)) (by first | exact Nat.le_of_ble_eq_true rfl | omega | (simp only [kR, Value.category, kCat_q, List.map, List.sum_cons, List.sum_nil]; omega)) (by first | exact Nat.le_of_ble_eq_true rfl | omega | (simp only [kR, Value.category, kCat_q, List.map, List.sum_cons, List.sum_nil]; omega)) (noE (gLf hi hs.2.2.2.1.1 ⟨by decide, by decide⟩)) (rdI (rLo1 (Nat.lt_of_lt_of_le hi hs.2.2.2.1.1)) ?_)
      refine k_i2l B dL_isWater_48 ?_
      refine kK.rel (y := nL (unS (sR z (11 + i)))) (nI_L (by omega)) ?_
      refine k_lstore B dL_isWater_49 (by decide) ?_
      refine k_iload_n B dL_isWater_51 rfl ?_
      refine k_iconst B (v := 2) dL_isWater_52 (by decide) ?_
      refine k_icmp_eq B 113 dL_isWater_53 (by decide) (fun c9 => absurd c9 (by decide)) (fun _ => ?_)
      refine k_iload B dL_isWater_56 rfl ?_
      rcases hb with ⟨rfl, hb⟩ | ⟨rfl, hb⟩
      · refine k_if_ne B 117 dL_isWater_58 (by decide) (fun c9 => (c9 (rfl)).elim) (fun _ => ?_)
        refine k_aload_n B dL_isWater_61 rfl (by first | exact kRf_r _ | exact kRf_q _ | exact kRf_n) ?_
        refine k_iload_n B dL_isWater_62 rfl ?_
        refine k_iconst B (v := 2) dL_isWater_63 (by decide) ?_
        refine cl_L_36 B (c_X9_lotOf hl hs h) (h.rv.choose_spec) dL_isWater_64 (by first | exact Nat.le_of_ble_eq_true rfl | omega | (simp only [kR, Value.category, kCat_q, List.map, List.sum_cons, List.sum_nil]; omega)) (by first | exact Nat.le_of_ble_eq_true rfl | omega | (simp only [kR, Value.category, kCat_q, List.map, List.sum_cons, List.sum_nil]; omega)) (by first | exact Nat.le_of_ble_eq_true rfl | omega | (simp only [kR, Value.category, kCat_q, List.map, List.sum_cons, List.sum_nil]; omega)) (by first | exact Nat.le_of_ble_eq_true rfl | omega | (simp only [kR, Value.category, kCat_q, List.map, List.sum_cons, List.sum_nil]; omega)) (by first | exact Nat.le_of_ble_eq_true rfl | omega | (simp only [kR, Value.category, kCat_q, List.map, List.sum_cons, List.sum_nil]; omega)) (noE (gLf hi hs.2.2.2.1.1 ⟨by decide, by decide⟩)) (rdI (rLo2 (Nat.lt_of_lt_of_le hi hs.2.2.2.1.1)) ?_)
        refine k_i2l B dL_isWater_67 ?_
        refine kK.rel (y := nL (niS (sR z (11 + i)))) (nI_L (by omega)) ?_
        refine k_iload_n B dL_isWater_68 rfl ?_
        refine k_if_ne B 78 dL_isWater_69 (by decide) (fun _ => ?_) (fun c9 => absurd c9 (by decide))
        refine k_ldc2 B qw680 dL_isWater_78 ?_
        refine k_lload B dL_isWater_81 rfl ?_
        refine k_lmul B dL_isWater_83 ?_
        refine kK.rel (y := nL (8 * unS (sR z (11 + i)))) (nL_mul 8 _) ?_
        refine k_lcmp B dL_isWater_84 ?_
        refine k_if_gt B 117 dL_isWater_85 (by decide) (fun c85 => ?_) (fun c85 => ?_)
        · have q := (nL_lt (by omega) (by omega)).mp ((lg_cmp_gt _ _).mp c85)
          exact no (by rw [okB, if_neg (by decide), if_pos rfl, hamB, decide_eq_false (show ¬ niS (sR z (11 + i)) ≤ 8 * unS (sR z (11 + i)) by omega), Bool.and_false]) _ _ _ (by decide) (by decide)
        · have q : niS (sR z (11 + i)) ≤ 8 * unS (sR z (11 + i)) := Nat.le_of_not_lt (fun q => c85 ((lg_cmp_gt _ _).mpr ((nL_lt (by omega) (by omega)).mpr q)))
          refine k_iload_n B dL_isWater_88 rfl ?_
          refine k_iconst B (v := 1) dL_isWater_89 (by decide) ?_
          refine k_icmp_eq B 113 dL_isWater_90 (by decide) (fun _ => ?_) (fun c9 => (c9 (rfl)).elim)
          exact ye (by rw [okB, if_neg (by decide), if_pos rfl, hamB, decide_eq_true hb, decide_eq_true q]; rfl) _ _ _ (by decide) (by decide)
      · refine k_if_ne B 117 dL_isWater_58 (by decide) (fun _ => ?_) (fun c9 => absurd c9 (by decide))
        exact no (by rw [okB, if_neg (by decide), if_pos rfl, hamB, decide_eq_false hb]; rfl) _ _ _ (by decide) (by decide)
    refine k_aload_n B dL_isWater_0 rfl (by first | exact kRf_r _ | exact kRf_q _ | exact kRf_n) ?_
    refine k_iload_n B dL_isWater_1 rfl ?_
    refine k_bipush B (v := 7) dL_isWater_2 (by decide) ?_
    refine cl_L_36 B (c_X9_lotOf hl hs h) (h.rv.choose_spec) dL_isWater_4 (by first | exact Nat.le_of_ble_eq_true rfl | omega | (simp only [kR, Value.category, kCat_q, List.map, List.sum_cons, List.sum_nil]; omega)) (by first | exact Nat.le_of_ble_eq_true rfl | omega | (simp only [kR, Value.category, kCat_q, List.map, List.sum_cons, List.sum_nil]; omega)) (by first | exact Nat.le_of_ble_eq_true rfl | omega | (simp only [kR, Value.category, kCat_q, List.map, List.sum_cons, List.sum_nil]; omega)) (by first | exact Nat.le_of_ble_eq_true rfl | omega | (simp only [kR, Value.category, kCat_q, List.map, List.sum_cons, List.sum_nil]; omega)) (by first | exact Nat.le_of_ble_eq_true rfl | omega | (simp only [kR, Value.category, kCat_q, List.map, List.sum_cons, List.sum_nil]; omega)) (noE (gLf hi hs.2.2.2.1.1 ⟨by decide, by decide⟩)) (rdI (rLo7 (Nat.lt_of_lt_of_le hi hs.2.2.2.1.1)) ?_)
    refine k_istore B dL_isWater_7 (by decide) ?_
    try refine kK.set1 (by first | exact True.intro | rfl | exact kCat_q _) ?_
    refine k_iload B dL_isWater_9 rfl ?_
    refine k_aload_n B dL_isWater_11 rfl (by first | exact kRf_r _ | exact kRf_q _ | exact kRf_n) ?_
    refine k_iconst B (v := 3) dL_isWater_12 (by decide) ?_
    refine k_ald B 3 dL_isWater_13 hc (by rfl) (by first | omega | decide) (by decide) (c3) ?_
    refine k_iand B dL_isWater_14 ?_
    refine k_if_ne B 35 dL_isWater_15 (by decide) (fun c15 => ?_) (fun c15 => ?_)
    · refine k_iconst B (v := 1) dL_isWater_35 (by decide) ?_
      refine k_goto B 40 dL_isWater_36 (by decide) ?_
      exact tail 1 (Or.inr ⟨rfl, fun q => c15 (by rw [ex, ey] at q ⊢; exact ((wat1 x hx y hy).mp q).1)⟩)
    · refine k_iload B dL_isWater_18 rfl ?_
      refine k_iload_n B dL_isWater_20 rfl ?_
      refine k_if_ne B 29 dL_isWater_21 (by decide) (fun _ => ?_) (fun c9 => absurd c9 (by decide))
      refine k_bipush B (v := 60) dL_isWater_29 (by decide) ?_
      refine k_iand B dL_isWater_31 ?_
      refine k_if_eq B 39 dL_isWater_32 (by decide) (fun c32 => ?_) (fun c32 => ?_)
      · refine k_iconst B (v := 0) dL_isWater_39 (by decide) ?_
        exact tail 0 (Or.inl ⟨rfl, by rw [ex, ey] at c15 ⊢; rw [ex] at c32; exact (wat1 x hx y hy).mpr ⟨c15, c32⟩⟩)
      · refine k_iconst B (v := 1) dL_isWater_35 (by decide) ?_
        refine k_goto B 40 dL_isWater_36 (by decide) ?_
        exact tail 1 (Or.inr ⟨rfl, fun q => c32 (by rw [ex, ey] at q; rw [ex]; exact ((wat1 x hx y hy).mp q).2)⟩)
  · have tail : ∀ bd : Int32, kK p l e (kR 9 10 60) s m args below meth c D (kA σ s.heap.size) 8 (kQ below args s D σ (fun v s2 => v = some (.int (bI (okB 2 (sFb z) (sLo z i).2.2.1 (sLo z i).2.1 (sR z (11 + i))))) ∧ s2 = σ) (fun _ => False) 10 60) σ 2 12 40 [some (.ref aO), some (.int (nI i)), some (.int 2), some (.ref ac), some (.int (sLo z i).2.2.1), none, none, none] [.int bd] := by
      intro bd
      refine k_istore B dL_isWater_40 (by decide) ?_
      try refine kK.set1 (by first | exact True.intro | rfl | exact kCat_q _) ?_
      refine k_aload_n B dL_isWater_42 rfl (by first | exact kRf_r _ | exact kRf_q _ | exact kRf_n) ?_
      refine k_iload_n B dL_isWater_43 rfl ?_
      refine k_iconst B (v := 1) dL_isWater_44 (by decide) ?_
      refine cl_L_36 B (c_X9_lotOf hl hs h) (h.rv.choose_spec) dL_isWater_45 (by first | exact Nat.le_of_ble_eq_true rfl | omega | (simp only [kR, Value.category, kCat_q, List.map, List.sum_cons, List.sum_nil]; omega)) (by first | exact Nat.le_of_ble_eq_true rfl | omega | (simp only [kR, Value.category, kCat_q, List.map, List.sum_cons, List.sum_nil]; omega)) (by first | exact Nat.le_of_ble_eq_true rfl | omega | (simp only [kR, Value.category, kCat_q, List.map, List.sum_cons, List.sum_nil]; omega)) (by first | exact Nat.le_of_ble_eq_true rfl | omega | (simp only [kR, Value.category, kCat_q, List.map, List.sum_cons, List.sum_nil]; omega)) (by first | exact Nat.le_of_ble_eq_true rfl | omega | (simp only [kR, Value.category, kCat_q, List.map, List.sum_cons, List.sum_nil]; omega)) (noE (gLf hi hs.2.2.2.1.1 ⟨by decide, by decide⟩)) (rdI (rLo1 (Nat.lt_of_lt_of_le hi hs.2.2.2.1.1)) ?_)
      refine k_i2l B dL_isWater_48 ?_
      refine kK.rel (y := nL (unS (sR z (11 + i)))) (nI_L (by omega)) ?_
      refine k_lstore B dL_isWater_49 (by decide) ?_
      refine k_iload_n B dL_isWater_51 rfl ?_
      refine k_iconst B (v := 2) dL_isWater_52 (by decide) ?_
      refine k_icmp_eq B 113 dL_isWater_53 (by decide) (fun _ => ?_) (fun c9 => (c9 (rfl)).elim)
      exact ye (by rw [okB, if_neg (by decide), if_neg (by decide)]) _ _ _ (by decide) (by decide)
    refine k_aload_n B dL_isWater_0 rfl (by first | exact kRf_r _ | exact kRf_q _ | exact kRf_n) ?_
    refine k_iload_n B dL_isWater_1 rfl ?_
    refine k_bipush B (v := 7) dL_isWater_2 (by decide) ?_
    refine cl_L_36 B (c_X9_lotOf hl hs h) (h.rv.choose_spec) dL_isWater_4 (by first | exact Nat.le_of_ble_eq_true rfl | omega | (simp only [kR, Value.category, kCat_q, List.map, List.sum_cons, List.sum_nil]; omega)) (by first | exact Nat.le_of_ble_eq_true rfl | omega | (simp only [kR, Value.category, kCat_q, List.map, List.sum_cons, List.sum_nil]; omega)) (by first | exact Nat.le_of_ble_eq_true rfl | omega | (simp only [kR, Value.category, kCat_q, List.map, List.sum_cons, List.sum_nil]; omega)) (by first | exact Nat.le_of_ble_eq_true rfl | omega | (simp only [kR, Value.category, kCat_q, List.map, List.sum_cons, List.sum_nil]; omega)) (by first | exact Nat.le_of_ble_eq_true rfl | omega | (simp only [kR, Value.category, kCat_q, List.map, List.sum_cons, List.sum_nil]; omega)) (noE (gLf hi hs.2.2.2.1.1 ⟨by decide, by decide⟩)) (rdI (rLo7 (Nat.lt_of_lt_of_le hi hs.2.2.2.1.1)) ?_)
    refine k_istore B dL_isWater_7 (by decide) ?_
    try refine kK.set1 (by first | exact True.intro | rfl | exact kCat_q _) ?_
    refine k_iload B dL_isWater_9 rfl ?_
    refine k_aload_n B dL_isWater_11 rfl (by first | exact kRf_r _ | exact kRf_q _ | exact kRf_n) ?_
    refine k_iconst B (v := 3) dL_isWater_12 (by decide) ?_
    refine k_ald B 3 dL_isWater_13 hc (by rfl) (by first | omega | decide) (by decide) (c3) ?_
    refine k_iand B dL_isWater_14 ?_
    refine k_if_ne B 35 dL_isWater_15 (by decide) (fun c15 => ?_) (fun c15 => ?_)
    · refine k_iconst B (v := 1) dL_isWater_35 (by decide) ?_
      refine k_goto B 40 dL_isWater_36 (by decide) ?_
      exact tail 1
    · refine k_iload B dL_isWater_18 rfl ?_
      refine k_iload_n B dL_isWater_20 rfl ?_
      refine k_if_ne B 29 dL_isWater_21 (by decide) (fun _ => ?_) (fun c9 => absurd c9 (by decide))
      refine k_bipush B (v := 60) dL_isWater_29 (by decide) ?_
      refine k_iand B dL_isWater_31 ?_
      refine k_if_eq B 39 dL_isWater_32 (by decide) (fun c32 => ?_) (fun c32 => ?_)
      · refine k_iconst B (v := 0) dL_isWater_39 (by decide) ?_
        exact tail 0
      · refine k_iconst B (v := 1) dL_isWater_35 (by decide) ?_
        refine k_goto B 40 dL_isWater_36 (by decide) ?_
        exact tail 1
end May
