theorem trv_congr {K K2 : Nat → kCl} (h : ∀ c, (K2 c).1 = (K c).1 ∧ (K2 c).2.1 = (K c).2.1) : ∀ n c, trvF K2 n c = trvF K n c := by
  intro n
  induction n with
  | zero => intro c; rfl
  | succ n ih =>
    intro c
    simp only [trvF, (h c).1, (h c).2]
    cases (K c).1 with
    | none => rfl
    | some d => simp only [ih]
theorem upK {K : Nat → kCl} {k : Nat} {c : kCl} (h1 : c.1 = (K k).1) (h2 : c.2.1 = (K k).2.1) : ∀ i, (upN K k c i).1 = (K i).1 ∧ (upN K k c i).2.1 = (K i).2.1 := by
  intro i
  by_cases q : i = k
  · rw [q, upN_eq]; exact ⟨h1, h2⟩
  · rw [upN_ne q]; exact ⟨rfl, rfl⟩
theorem bit_self {j : Nat} (hj : j < 8) : ¬ (bitI (nI j) &&& bitI (nI j) = 0) := by
  have : j = 0 ∨ j = 1 ∨ j = 2 ∨ j = 3 ∨ j = 4 ∨ j = 5 ∨ j = 6 ∨ j = 7 := by omega
  rcases this with q | q | q | q | q | q | q | q <;> subst q <;> decide
theorem or_twice (x y : Int32) : (x ||| y) ||| y = x ||| y := by rw [Int32.or_assoc, Int32.or_self]
section OthersP
variable {D : va_G} {aO ac ap aw ah : Nat} {z : kSt} {J : List kJe} {F : kF} {s2 : kS} {fc fp fw fh : Nat → Int32}
theorem lPs_cell {k : Nat} {c9 : kCl} {fp2 : Nat → Int32} (hs2 : sOk (z.1, upN (sK z) k c9, z.2.2)) (hz : zI z) (hJ : jR z J) (h2 : cl9 D aO (z.1, upN (sK z) k c9, z.2.2) J F s2) (a2 : ar4 D ac ap aw ah fc fp2 fw fh s2) (hcA : cA z fc) (hwA : wA z fw) (hhA : hA z fh) (hp1 : k < 10 → fp2 k = nI c9.2.2.2.2.1) (hp2 : ∀ i, i < 10 → i ≠ k → fp2 i = nI (sK z i).2.2.2.2.1) : lPs D aO ac ap aw ah z F (some (.int 1)) s2 := by
  refine ⟨rfl, _, J, hs2, zI_K hz _, jR_same hJ rfl rfl rfl, Nat.le_succ _, h2, fc, fp2, fw, fh, a2, hcA, fun i hi => ?_, hwA, hhA⟩
  show fp2 i = nI (upN (sK z) k c9 i).2.2.2.2.1
  by_cases q : i = k
  · rw [q, upN_eq]; exact hp1 (q ▸ hi)
  · rw [upN_ne q]; exact hp2 i hi q
end OthersP
section Others
variable {l : Launch} {D : va_G} {σ : kS} {aO ac ap aw ah : Nat} {z : kSt} {J : List kJe} {F : kF}
set_option maxHeartbeats 8000000 in
set_option maxRecDepth 100000 in
theorem c_L_others (hl : l.stackTraces = false) (hs : sOk z) (hz : zI z) (hJ : jR z J) (hW9 : lW D aO ac ap aw ah z J F σ) {x y : Nat} (hx : x < 2 ^ 30) (hy : y < 2 ^ 30) : kMh hL_others l D yL_others 10 40 250 [.ref aO, .int (nI x), .int (nI y), .ref ac, .ref ap, .ref aw] σ (lPs D aO ac ap aw ah z F) (fun _ => False) := by
  refine kM_of (L := [some (.ref aO), some (.int (nI x)), some (.int (nI y)), some (.ref ac), some (.ref ap), some (.ref aw), none, none, none, none]) (by decide +kernel) hl (List.forall_mem_cons.mpr ⟨rfl, (List.forall_mem_cons.mpr ⟨rfl, (List.forall_mem_cons.mpr ⟨rfl, (List.forall_mem_cons.mpr ⟨rfl, (List.forall_mem_cons.mpr ⟨rfl, (List.forall_mem_cons.mpr ⟨rfl, (fun _ h => absurd h List.not_mem_nil)⟩)⟩)⟩)⟩)⟩)⟩) (Nat.le_of_ble_eq_true rfl) rfl ?_
  intro p e s m args below meth c B hr hex hnm
  have B : kB p l s m args meth c D (kA σ s.heap.size) 10 cL_others RL := B
  obtain ⟨h, fc, fp, fw, fh, ha, hcA, hpA, hwA, hhA⟩ := id hW9
  obtain ⟨c0, c1, c2, c3, c4, c5, c6, c7⟩ := id hcA
  have h40 := hs.2.2.2.1.1
  have h6 := hs.2.2.1.1
  obtain ⟨w, hw⟩ : ∃ w, w = x % 7 := ⟨_, rfl⟩
  obtain ⟨k9, hk9⟩ : ∃ k9, k9 = x / 7 % 10 := ⟨_, rfl⟩
  have hk : k9 < 10 := by omega
  have hck : cN (nI k9) = k9 := cN_nI (by omega)
  refine k_iload_n B dL_others_0 rfl ?_
  refine k_bipush B (v := 7) dL_others_1 (by decide) ?_
  refine k_irem B dL_others_3 (by decide) ?_
  refine kK.rei (y := nI w) (by rw [hw]; exact nI_rem (b := 7) (by omega) (by decide) (by decide)) ?_
  refine k_istore B dL_others_4 (by decide) ?_
  try refine kK.set1 (by first | exact True.intro | rfl | exact kCat_q _) ?_
  refine k_iload_n B dL_others_6 rfl ?_
  refine k_bipush B (v := 7) dL_others_7 (by decide) ?_
  refine k_idiv B dL_others_9 (by decide) ?_
  refine kK.rei (y := nI (x / 7)) (pk_div (d := 7) (by omega) (by decide) (by decide)) ?_
  refine k_bipush B (v := 10) dL_others_10 (by decide) ?_
  refine k_irem B dL_others_12 (by decide) ?_
  refine kK.rei (y := nI k9) (by rw [hk9]; exact nI_rem (b := 10) (by omega) (by decide) (by decide)) ?_
  refine k_istore B dL_others_13 (by decide) ?_
  try refine kK.set1 (by first | exact True.intro | rfl | exact kCat_q _) ?_
  have hcl := hs.2.1 k9 hk
  rcases (show w = 0 ∨ w = 1 ∨ w = 2 ∨ w = 3 ∨ w = 4 ∨ w = 5 ∨ w = 6 by omega) with q | q | q | q | q | q | q
  · -- rock
    clear hw
    subst q
    obtain ⟨u, hu⟩ : ∃ u, u = 1 + y % 40 := ⟨_, rfl⟩
    have hu1 : inR (nI u) 1 40 := ⟨nI_le (a := 1) (by omega) (by omega), nI_le (b := 40) (by omega) (by decide)⟩
    have g0 : gRock (nI k9) (nI u) = none := (gCell_p (nI_10 hk)).trans (gRg_p hu1)
    have en : nRock z (nI k9) (nI u) = (z.1, upN (sK z) k9 ((sK z k9).1, u, (sK z k9).2.2), z.2.2) := by rw [nRock, hck, cN_nI (by omega)]
    have hs2 := ok_rock hs g0
    refine k_iload B dL_others_15 rfl ?_
    refine k_if_ne B 68 dL_others_17 (by decide) (fun c9 => (c9 (nI_0)).elim) (fun _ => ?_)
    refine k_aload_n B dL_others_20 rfl (by first | exact kRf_r _ | exact kRf_q _ | exact kRf_n) ?_
    refine k_iload B dL_others_21 rfl ?_
    refine k_iconst B (v := 1) dL_others_23 (by decide) ?_
    refine cl_L_52 B (c_X9_cellOf hl hs h) (h.rv.choose_spec) dL_others_24 (by first | exact Nat.le_of_ble_eq_true rfl | omega | (simp only [kR, Value.category, kCat_q, List.map, List.sum_cons, List.sum_nil]; omega)) (by first | exact Nat.le_of_ble_eq_true rfl | omega | (simp only [kR, Value.category, kCat_q, List.map, List.sum_cons, List.sum_nil]; omega)) (by first | exact Nat.le_of_ble_eq_true rfl | omega | (simp only [kR, Value.category, kCat_q, List.map, List.sum_cons, List.sum_nil]; omega)) (by first | exact Nat.le_of_ble_eq_true rfl | omega | (simp only [kR, Value.category, kCat_q, List.map, List.sum_cons, List.sum_nil]; omega)) (by first | exact Nat.le_of_ble_eq_true rfl | omega | (simp only [kR, Value.category, kCat_q, List.map, List.sum_cons, List.sum_nil]; omega)) (noE (gCl hk ⟨by decide, by decide⟩)) (rdI (rCl1 hk) ?_)
    refine k_istore B dL_others_27 (by decide) ?_
    try refine kK.set1 (by first | exact True.intro | rfl | exact kCat_q _) ?_
    refine k_aload_n B dL_others_29 rfl (by first | exact kRf_r _ | exact kRf_q _ | exact kRf_n) ?_
    refine k_iload B dL_others_30 rfl ?_
    refine k_iconst B (v := 1) dL_others_32 (by decide) ?_
    refine k_iload_n B dL_others_33 rfl ?_
    refine k_bipush B (v := 40) dL_others_34 (by decide) ?_
    refine k_irem B dL_others_36 (by decide) ?_
    refine kK.rei (y := nI (y % 40)) (nI_rem (b := 40) (by omega) (by decide) (by decide)) ?_
    refine k_iadd B dL_others_37 ?_
    refine kK.rei (y := nI u) (by rw [hu]; exact nI_add 1 (y % 40)) ?_
    refine cl_L_113 B (c_X9_rock hl hs h) (h.rv.choose_spec) dL_others_38 (by first | exact Nat.le_of_ble_eq_true rfl | omega | (simp only [kR, Value.category, kCat_q, List.map, List.sum_cons, List.sum_nil]; omega)) (by first | exact Nat.le_of_ble_eq_true rfl | omega | (simp only [kR, Value.category, kCat_q, List.map, List.sum_cons, List.sum_nil]; omega)) (by first | exact Nat.le_of_ble_eq_true rfl | omega | (simp only [kR, Value.category, kCat_q, List.map, List.sum_cons, List.sum_nil]; omega)) (by first | exact Nat.le_of_ble_eq_true rfl | omega | (simp only [kR, Value.category, kCat_q, List.map, List.sum_cons, List.sum_nil]; omega)) (by first | exact Nat.le_of_ble_eq_true rfl | omega | (simp only [kR, Value.category, kCat_q, List.map, List.sum_cons, List.sum_nil]; omega)) (noE g0) (fun v38 s38 hp38 => ?_)
    obtain ⟨-, rfl, h2, f2⟩ := hp38
    rw [en] at h2 hs2
    have a2 := ha.keep f2
    refine kK.rev (y := .int (nI (sK z k9).2.1)) (by rw [rRock, hck]) ?_
    refine k_iload B dL_others_41 rfl ?_
    refine k_icmp_ne B 66 dL_others_43 (by decide) (fun c9 => (c9 (rfl)).elim) (fun _ => ?_)
    refine k_aload_n B dL_others_46 rfl (by first | exact kRf_r _ | exact kRf_q _ | exact kRf_n) ?_
    refine k_iload B dL_others_47 rfl ?_
    refine k_iconst B (v := 1) dL_others_49 (by decide) ?_
    refine cl_L_52 B (c_X9_cellOf hl hs2 h2) (h2.rv.choose_spec) dL_others_50 (by first | exact Nat.le_of_ble_eq_true rfl | omega | (simp only [kR, Value.category, kCat_q, List.map, List.sum_cons, List.sum_nil]; omega)) (by first | exact Nat.le_of_ble_eq_true rfl | omega | (simp only [kR, Value.category, kCat_q, List.map, List.sum_cons, List.sum_nil]; omega)) (by first | exact Nat.le_of_ble_eq_true rfl | omega | (simp only [kR, Value.category, kCat_q, List.map, List.sum_cons, List.sum_nil]; omega)) (by first | exact Nat.le_of_ble_eq_true rfl | omega | (simp only [kR, Value.category, kCat_q, List.map, List.sum_cons, List.sum_nil]; omega)) (by first | exact Nat.le_of_ble_eq_true rfl | omega | (simp only [kR, Value.category, kCat_q, List.map, List.sum_cons, List.sum_nil]; omega)) (noE (gCl hk ⟨by decide, by decide⟩)) (rdI (rCl1 hk) ?_)
    refine kK.rei (y := nI u) (congrArg nI (congrArg (fun c : kCl => c.2.1) upN_eq)) ?_
    refine k_iconst B (v := 1) dL_others_53 (by decide) ?_
    refine k_iload_n B dL_others_54 rfl ?_
    refine k_bipush B (v := 40) dL_others_55 (by decide) ?_
    refine k_irem B dL_others_57 (by decide) ?_
    refine kK.rei (y := nI (y % 40)) (nI_rem (b := 40) (by omega) (by decide) (by decide)) ?_
    refine k_iadd B dL_others_58 ?_
    refine kK.rei (y := nI u) (by rw [hu]; exact nI_add 1 (y % 40)) ?_
    refine k_icmp_ne B 66 dL_others_59 (by decide) (fun c9 => (c9 (rfl)).elim) (fun _ => ?_)
    refine k_iconst B (v := 1) dL_others_62 (by decide) ?_
    refine k_goto B 67 dL_others_63 (by decide) ?_
    refine k_zret B hr dL_others_67 (by rfl) ?_ (by first | exact Nat.le_of_ble_eq_true rfl | omega | (simp only [kR, Value.category, kCat_q, List.map, List.sum_cons, List.sum_nil]; omega)) (by first | exact Nat.le_of_ble_eq_true rfl | omega | (simp only [kR, Value.category, kCat_q, List.map, List.sum_cons, List.sum_nil]; omega))
    exact lPs_cell hs2 hz hJ h2 a2 hcA hwA hhA (fun _ => hpA k9 hk) (fun i hi _ => hpA i hi)
  · -- land
    clear hw
    subst q
    obtain ⟨u, hu⟩ : ∃ u, u = y % 3 := ⟨_, rfl⟩
    have hu1 : inR (nI u) 0 2 := ⟨nI_pos' (by omega), nI_le (b := 2) (by omega) (by decide)⟩
    have gg : gLand z (nI k9) (nI u) = gSt (decide ((sK z k9).2.2.2.1 = 0)) := by rw [gLand, gCell_p (nI_10 hk), gRg_p hu1, hck]
    have en : nLand z (nI k9) (nI u) = (z.1, upN (sK z) k9 ((sK z k9).1, (sK z k9).2.1, u, (sK z k9).2.2.2), z.2.2) := by rw [nLand, hck, cN_nI (by omega)]
    have hk5 := hcl.2.2.2.2.1
    refine k_iload B dL_others_15 rfl ?_
    refine k_if_ne B 68 dL_others_17 (by decide) (fun _ => ?_) (fun c9 => absurd c9 (by decide))
    refine k_iload B dL_others_68 rfl ?_
    refine k_iconst B (v := 1) dL_others_70 (by decide) ?_
    refine k_icmp_ne B 158 dL_others_71 (by decide) (fun c9 => (c9 (rfl)).elim) (fun _ => ?_)
    refine k_aload_n B dL_others_74 rfl (by first | exact kRf_r _ | exact kRf_q _ | exact kRf_n) ?_
    refine k_iload B dL_others_75 rfl ?_
    refine k_iconst B (v := 2) dL_others_77 (by decide) ?_
    refine cl_L_52 B (c_X9_cellOf hl hs h) (h.rv.choose_spec) dL_others_78 (by first | exact Nat.le_of_ble_eq_true rfl | omega | (simp only [kR, Value.category, kCat_q, List.map, List.sum_cons, List.sum_nil]; omega)) (by first | exact Nat.le_of_ble_eq_true rfl | omega | (simp only [kR, Value.category, kCat_q, List.map, List.sum_cons, List.sum_nil]; omega)) (by first | exact Nat.le_of_ble_eq_true rfl | omega | (simp only [kR, Value.category, kCat_q, List.map, List.sum_cons, List.sum_nil]; omega)) (by first | exact Nat.le_of_ble_eq_true rfl | omega | (simp only [kR, Value.category, kCat_q, List.map, List.sum_cons, List.sum_nil]; omega)) (by first | exact Nat.le_of_ble_eq_true rfl | omega | (simp only [kR, Value.category, kCat_q, List.map, List.sum_cons, List.sum_nil]; omega)) (noE (gCl hk ⟨by decide, by decide⟩)) (rdI (rCl2 hk) ?_)
    refine k_istore B dL_others_81 (by decide) ?_
    try refine kK.set1 (by first | exact True.intro | rfl | exact kCat_q _) ?_
    refine k_aload_n B dL_others_83 rfl (by first | exact kRf_r _ | exact kRf_q _ | exact kRf_n) ?_
    refine k_iconst B (v := 5) dL_others_84 (by decide) ?_
    refine k_iload B dL_others_85 rfl ?_
    refine k_iload_n B dL_others_87 rfl ?_
    refine k_iconst B (v := 3) dL_others_88 (by decide) ?_
    refine k_irem B dL_others_89 (by decide) ?_
    refine kK.rei (y := nI u) (by rw [hu]; exact nI_rem (b := 3) (by omega) (by decide) (by decide)) ?_
    refine cl_L_90 B (c_L_asks5 hl hs h) dL_others_90 (by first | exact Nat.le_of_ble_eq_true rfl | omega | (simp only [kR, Value.category, kCat_q, List.map, List.sum_cons, List.sum_nil]; omega)) (by first | exact Nat.le_of_ble_eq_true rfl | omega | (simp only [kR, Value.category, kCat_q, List.map, List.sum_cons, List.sum_nil]; omega)) (by first | exact Nat.le_of_ble_eq_true rfl | omega | (simp only [kR, Value.category, kCat_q, List.map, List.sum_cons, List.sum_nil]; omega)) (by first | exact Nat.le_of_ble_eq_true rfl | omega | (simp only [kR, Value.category, kCat_q, List.map, List.sum_cons, List.sum_nil]; omega)) (by first | exact Nat.le_of_ble_eq_true rfl | omega | (simp only [kR, Value.category, kCat_q, List.map, List.sum_cons, List.sum_nil]; omega)) (fun _ hx => hx.elim) (fun v90 s90 hp90 => ?_)
    by_cases hcy : (sK z k9).2.2.2.1 = 0
    · have g0 : gLand z (nI k9) (nI u) = none := by rw [gg, decide_eq_true hcy]; rfl
      have hs2 := ok_land hs g0
      rcases hp90 with ⟨-, rfl, h2, f2⟩ | ⟨E, hE, -⟩
      · rw [en] at h2 hs2
        have a2 := ha.keep f2
        refine kK.rev (y := .int (nI (sK z k9).2.2.1)) (by rw [rLand, hck]) ?_
        refine k_istore B dL_others_93 (by decide) ?_
        try refine kK.set1 (by first | exact True.intro | rfl | exact kCat_q _) ?_
        refine k_aload_n B dL_others_95 rfl (by first | exact kRf_r _ | exact kRf_q _ | exact kRf_n) ?_
        refine k_iload B dL_others_96 rfl ?_
        refine k_iconst B (v := 5) dL_others_98 (by decide) ?_
        refine cl_L_52 B (c_X9_cellOf hl hs2 h2) (h2.rv.choose_spec) dL_others_99 (by first | exact Nat.le_of_ble_eq_true rfl | omega | (simp only [kR, Value.category, kCat_q, List.map, List.sum_cons, List.sum_nil]; omega)) (by first | exact Nat.le_of_ble_eq_true rfl | omega | (simp only [kR, Value.category, kCat_q, List.map, List.sum_cons, List.sum_nil]; omega)) (by first | exact Nat.le_of_ble_eq_true rfl | omega | (simp only [kR, Value.category, kCat_q, List.map, List.sum_cons, List.sum_nil]; omega)) (by first | exact Nat.le_of_ble_eq_true rfl | omega | (simp only [kR, Value.category, kCat_q, List.map, List.sum_cons, List.sum_nil]; omega)) (by first | exact Nat.le_of_ble_eq_true rfl | omega | (simp only [kR, Value.category, kCat_q, List.map, List.sum_cons, List.sum_nil]; omega)) (noE (gCl hk ⟨by decide, by decide⟩)) (rdI (rCl5 hk) ?_)
        refine kK.rei (y := 0) (by show nI (upN (sK z) k9 _ k9).2.2.2.1 = 0; rw [upN_eq]; show nI (sK z k9).2.2.2.1 = 0; rw [hcy]; exact nI_0) ?_
        refine k_if_le B 132 dL_others_102 (by decide) (fun _ => ?_) (fun c9 => (c9 (by decide)).elim)
        refine k_iload B dL_others_132 rfl ?_
        refine k_iload B dL_others_134 rfl ?_
        refine k_icmp_ne B 156 dL_others_136 (by decide) (fun c9 => (c9 (rfl)).elim) (fun _ => ?_)
        refine k_aload_n B dL_others_139 rfl (by first | exact kRf_r _ | exact kRf_q _ | exact kRf_n) ?_
        refine k_iload B dL_others_140 rfl ?_
        refine k_iconst B (v := 2) dL_others_142 (by decide) ?_
        refine cl_L_52 B (c_X9_cellOf hl hs2 h2) (h2.rv.choose_spec) dL_others_143 (by first | exact Nat.le_of_ble_eq_true rfl | omega | (simp only [kR, Value.category, kCat_q, List.map, List.sum_cons, List.sum_nil]; omega)) (by first | exact Nat.le_of_ble_eq_true rfl | omega | (simp only [kR, Value.category, kCat_q, List.map, List.sum_cons, List.sum_nil]; omega)) (by first | exact Nat.le_of_ble_eq_true rfl | omega | (simp only [kR, Value.category, kCat_q, List.map, List.sum_cons, List.sum_nil]; omega)) (by first | exact Nat.le_of_ble_eq_true rfl | omega | (simp only [kR, Value.category, kCat_q, List.map, List.sum_cons, List.sum_nil]; omega)) (by first | exact Nat.le_of_ble_eq_true rfl | omega | (simp only [kR, Value.category, kCat_q, List.map, List.sum_cons, List.sum_nil]; omega)) (noE (gCl hk ⟨by decide, by decide⟩)) (rdI (rCl2 hk) ?_)
        refine kK.rei (y := nI u) (congrArg nI (congrArg (fun c : kCl => c.2.2.1) upN_eq)) ?_
        refine k_iload_n B dL_others_146 rfl ?_
        refine k_iconst B (v := 3) dL_others_147 (by decide) ?_
        refine k_irem B dL_others_148 (by decide) ?_
        refine kK.rei (y := nI u) (by rw [hu]; exact nI_rem (b := 3) (by omega) (by decide) (by decide)) ?_
        refine k_icmp_ne B 156 dL_others_149 (by decide) (fun c9 => (c9 (rfl)).elim) (fun _ => ?_)
        refine k_iconst B (v := 1) dL_others_152 (by decide) ?_
        refine k_goto B 157 dL_others_153 (by decide) ?_
        refine k_zret B hr dL_others_157 (by rfl) ?_ (by first | exact Nat.le_of_ble_eq_true rfl | omega | (simp only [kR, Value.category, kCat_q, List.map, List.sum_cons, List.sum_nil]; omega)) (by first | exact Nat.le_of_ble_eq_true rfl | omega | (simp only [kR, Value.category, kCat_q, List.map, List.sum_cons, List.sum_nil]; omega))
        exact lPs_cell hs2 hz hJ h2 a2 hcA hwA hhA (fun _ => hpA k9 hk) (fun i hi _ => hpA i hi)
      · rw [g0] at hE; cases hE
    · have g0 : gLand z (nI k9) (nI u) = some eS := by rw [gg, decide_eq_false hcy]; rfl
      rcases hp90 with ⟨g, -⟩ | ⟨E, hE, rfl, e90⟩
      · rw [g0] at g; cases g
      · rw [g0] at hE
        cases hE
        rw [e90]
        refine kK.rev (y := .int (-70008)) (by rw [aCd_S]) ?_
        refine k_istore B dL_others_93 (by decide) ?_
        try refine kK.set1 (by first | exact True.intro | rfl | exact kCat_q _) ?_
        refine k_aload_n B dL_others_95 rfl (by first | exact kRf_r _ | exact kRf_q _ | exact kRf_n) ?_
        refine k_iload B dL_others_96 rfl ?_
        refine k_iconst B (v := 5) dL_others_98 (by decide) ?_
        refine cl_L_52 B (c_X9_cellOf hl hs h) (h.rv.choose_spec) dL_others_99 (by first | exact Nat.le_of_ble_eq_true rfl | omega | (simp only [kR, Value.category, kCat_q, List.map, List.sum_cons, List.sum_nil]; omega)) (by first | exact Nat.le_of_ble_eq_true rfl | omega | (simp only [kR, Value.category, kCat_q, List.map, List.sum_cons, List.sum_nil]; omega)) (by first | exact Nat.le_of_ble_eq_true rfl | omega | (simp only [kR, Value.category, kCat_q, List.map, List.sum_cons, List.sum_nil]; omega)) (by first | exact Nat.le_of_ble_eq_true rfl | omega | (simp only [kR, Value.category, kCat_q, List.map, List.sum_cons, List.sum_nil]; omega)) (by first | exact Nat.le_of_ble_eq_true rfl | omega | (simp only [kR, Value.category, kCat_q, List.map, List.sum_cons, List.sum_nil]; omega)) (noE (gCl hk ⟨by decide, by decide⟩)) (rdI (rCl5 hk) ?_)
        refine k_if_le B 132 dL_others_102 (by decide) (fun c9 => absurd c9 (nI_nle (by omega) (by omega))) (fun _ => ?_)
        refine k_iload B dL_others_105 rfl ?_
        refine k_ldc B qw628 dL_others_107 ?_
        refine k_icmp_ne B 128 dL_others_109 (by decide) (fun c9 => (c9 (rfl)).elim) (fun _ => ?_)
        refine k_aload_n B dL_others_112 rfl (by first | exact kRf_r _ | exact kRf_q _ | exact kRf_n) ?_
        refine k_iload B dL_others_113 rfl ?_
        refine k_iconst B (v := 2) dL_others_115 (by decide) ?_
        refine cl_L_52 B (c_X9_cellOf hl hs h) (h.rv.choose_spec) dL_others_116 (by first | exact Nat.le_of_ble_eq_true rfl | omega | (simp only [kR, Value.category, kCat_q, List.map, List.sum_cons, List.sum_nil]; omega)) (by first | exact Nat.le_of_ble_eq_true rfl | omega | (simp only [kR, Value.category, kCat_q, List.map, List.sum_cons, List.sum_nil]; omega)) (by first | exact Nat.le_of_ble_eq_true rfl | omega | (simp only [kR, Value.category, kCat_q, List.map, List.sum_cons, List.sum_nil]; omega)) (by first | exact Nat.le_of_ble_eq_true rfl | omega | (simp only [kR, Value.category, kCat_q, List.map, List.sum_cons, List.sum_nil]; omega)) (by first | exact Nat.le_of_ble_eq_true rfl | omega | (simp only [kR, Value.category, kCat_q, List.map, List.sum_cons, List.sum_nil]; omega)) (noE (gCl hk ⟨by decide, by decide⟩)) (rdI (rCl2 hk) ?_)
        refine k_iload B dL_others_119 rfl ?_
        refine k_icmp_ne B 128 dL_others_121 (by decide) (fun c9 => (c9 (rfl)).elim) (fun _ => ?_)
        refine k_iconst B (v := 1) dL_others_124 (by decide) ?_
        refine k_goto B 157 dL_others_125 (by decide) ?_
        refine k_zret B hr dL_others_157 (by rfl) ?_ (by first | exact Nat.le_of_ble_eq_true rfl | omega | (simp only [kR, Value.category, kCat_q, List.map, List.sum_cons, List.sum_nil]; omega)) (by first | exact Nat.le_of_ble_eq_true rfl | omega | (simp only [kR, Value.category, kCat_q, List.map, List.sum_cons, List.sum_nil]; omega))
        exact ⟨rfl, z, J, hs, hz, hJ, by omega, hW9⟩
  · -- lead
    clear hw
    subst q
    obtain ⟨t, ht⟩ : ∃ t : Int32, t = nI (y % 11) - 1 := ⟨_, rfl⟩
    refine k_iload B dL_others_15 rfl ?_
    refine k_if_ne B 68 dL_others_17 (by decide) (fun _ => ?_) (fun c9 => absurd c9 (by decide))
    refine k_iload B dL_others_68 rfl ?_
    refine k_iconst B (v := 1) dL_others_70 (by decide) ?_
    refine k_icmp_ne B 158 dL_others_71 (by decide) (fun _ => ?_) (fun c9 => absurd c9 (by decide))
    refine k_iload B dL_others_158 rfl ?_
    refine k_iconst B (v := 2) dL_others_160 (by decide) ?_
    refine k_icmp_ne B 238 dL_others_161 (by decide) (fun c9 => (c9 (rfl)).elim) (fun _ => ?_)
    refine k_iload_n B dL_others_164 rfl ?_
    refine k_bipush B (v := 11) dL_others_165 (by decide) ?_
    refine k_irem B dL_others_167 (by decide) ?_
    refine kK.rei (y := nI (y % 11)) (nI_rem (b := 11) (by omega) (by decide) (by decide)) ?_
    refine k_iconst B (v := 1) dL_others_168 (by decide) ?_
    refine k_isub B dL_others_169 ?_
    refine kK.rei (y := t) (ht.symm) ?_
    refine k_istore B dL_others_170 (by decide) ?_
    try refine kK.set1 (by first | exact True.intro | rfl | exact kCat_q _) ?_
    refine k_aload_n B dL_others_172 rfl (by first | exact kRf_r _ | exact kRf_q _ | exact kRf_n) ?_
    refine k_iload B dL_others_173 rfl ?_
    refine k_iconst B (v := 3) dL_others_175 (by decide) ?_
    refine cl_L_52 B (c_X9_cellOf hl hs h) (h.rv.choose_spec) dL_others_176 (by first | exact Nat.le_of_ble_eq_true rfl | omega | (simp only [kR, Value.category, kCat_q, List.map, List.sum_cons, List.sum_nil]; omega)) (by first | exact Nat.le_of_ble_eq_true rfl | omega | (simp only [kR, Value.category, kCat_q, List.map, List.sum_cons, List.sum_nil]; omega)) (by first | exact Nat.le_of_ble_eq_true rfl | omega | (simp only [kR, Value.category, kCat_q, List.map, List.sum_cons, List.sum_nil]; omega)) (by first | exact Nat.le_of_ble_eq_true rfl | omega | (simp only [kR, Value.category, kCat_q, List.map, List.sum_cons, List.sum_nil]; omega)) (by first | exact Nat.le_of_ble_eq_true rfl | omega | (simp only [kR, Value.category, kCat_q, List.map, List.sum_cons, List.sum_nil]; omega)) (noE (gCl hk ⟨by decide, by decide⟩)) (rdI (rCl3 hk) ?_)
    refine k_istore B dL_others_179 (by decide) ?_
    try refine kK.set1 (by first | exact True.intro | rfl | exact kCat_q _) ?_
    refine k_aload_n B dL_others_181 rfl (by first | exact kRf_r _ | exact kRf_q _ | exact kRf_n) ?_
    refine k_bipush B (v := 6) dL_others_182 (by decide) ?_
    refine k_iload B dL_others_184 rfl ?_
    refine k_iload B dL_others_186 rfl ?_
    refine cl_L_90 B (c_L_asks6 hl hs h) dL_others_188 (by first | exact Nat.le_of_ble_eq_true rfl | omega | (simp only [kR, Value.category, kCat_q, List.map, List.sum_cons, List.sum_nil]; omega)) (by first | exact Nat.le_of_ble_eq_true rfl | omega | (simp only [kR, Value.category, kCat_q, List.map, List.sum_cons, List.sum_nil]; omega)) (by first | exact Nat.le_of_ble_eq_true rfl | omega | (simp only [kR, Value.category, kCat_q, List.map, List.sum_cons, List.sum_nil]; omega)) (by first | exact Nat.le_of_ble_eq_true rfl | omega | (simp only [kR, Value.category, kCat_q, List.map, List.sum_cons, List.sum_nil]; omega)) (by first | exact Nat.le_of_ble_eq_true rfl | omega | (simp only [kR, Value.category, kCat_q, List.map, List.sum_cons, List.sum_nil]; omega)) (fun _ hx => hx.elim) (fun v188 s188 hp188 => ?_)
    have ok : ∀ tt : Option Nat, t = ldI tt → gLead (nI k9) t = none → (if t = -1 then none else some (cN t)) = tt → t < nI k9 → ∀ (v2 : Option Value) (s4 : kS), v2 = some (.int (rLead z (nI k9))) → cl9 D aO (nLead z (nI k9) t) J F s4 → kFr k9F σ s4 → kK p l e (kR 10 40 250) s m args below meth c D (kA σ s.heap.size) 10 (kQ below args s D σ (lPs D aO ac ap aw ah z F) (fun _ => False) 40 250) s4 (0 + 2 + 3) (0 + 12 + 18) 191 [some (.ref aO), some (.int (nI x)), some (.int (nI y)), some (.ref ac), some (.ref ap), some (.ref aw), some (.int (nI 2)), some (.int (nI k9)), some (.int t), some (.int (ldI (sK z k9).1))] (v2.toList ++ []) := by
      intro tt e1 g0 e2 e3 v2 s4 ev h2 f2
      subst ev
      have hs2 := ok_lead hs g0
      have en : nLead z (nI k9) t = (z.1, upN (sK z) k9 (tt, (sK z k9).2), z.2.2) := by rw [nLead, hck, e2]
      rw [en] at h2 hs2
      have a2 := ha.keep f2
      refine kK.rev (y := .int (ldI (sK z k9).1)) (by rw [rLead, hck]) ?_
      refine k_iload B dL_others_191 rfl ?_
      refine k_iload B dL_others_193 rfl ?_
      refine k_icmp_ge B 203 dL_others_195 (by decide) (fun c9 => absurd c9 (fun q => i32_lt_nle e3 q)) (fun _ => ?_)
      refine k_iload B dL_others_198 rfl ?_
      refine k_goto B 205 dL_others_200 (by decide) ?_
      refine k_icmp_ne B 236 dL_others_205 (by decide) (fun c9 => (c9 (rfl)).elim) (fun _ => ?_)
      refine k_aload_n B dL_others_208 rfl (by first | exact kRf_r _ | exact kRf_q _ | exact kRf_n) ?_
      refine k_iload B dL_others_209 rfl ?_
      refine k_iconst B (v := 3) dL_others_211 (by decide) ?_
      refine cl_L_52 B (c_X9_cellOf hl hs2 h2) (h2.rv.choose_spec) dL_others_212 (by first | exact Nat.le_of_ble_eq_true rfl | omega | (simp only [kR, Value.category, kCat_q, List.map, List.sum_cons, List.sum_nil]; omega)) (by first | exact Nat.le_of_ble_eq_true rfl | omega | (simp only [kR, Value.category, kCat_q, List.map, List.sum_cons, List.sum_nil]; omega)) (by first | exact Nat.le_of_ble_eq_true rfl | omega | (simp only [kR, Value.category, kCat_q, List.map, List.sum_cons, List.sum_nil]; omega)) (by first | exact Nat.le_of_ble_eq_true rfl | omega | (simp only [kR, Value.category, kCat_q, List.map, List.sum_cons, List.sum_nil]; omega)) (by first | exact Nat.le_of_ble_eq_true rfl | omega | (simp only [kR, Value.category, kCat_q, List.map, List.sum_cons, List.sum_nil]; omega)) (noE (gCl hk ⟨by decide, by decide⟩)) (rdI (rCl3 hk) ?_)
      refine kK.rei (y := t) ((congrArg ldI (congrArg (fun c : kCl => c.1) upN_eq)).trans e1.symm) ?_
      refine k_iload B dL_others_215 rfl ?_
      refine k_iload B dL_others_217 rfl ?_
      refine k_icmp_ge B 227 dL_others_219 (by decide) (fun c9 => absurd c9 (fun q => i32_lt_nle e3 q)) (fun _ => ?_)
      refine k_iload B dL_others_222 rfl ?_
      refine k_goto B 229 dL_others_224 (by decide) ?_
      refine k_icmp_ne B 236 dL_others_229 (by decide) (fun c9 => (c9 (rfl)).elim) (fun _ => ?_)
      refine k_iconst B (v := 1) dL_others_232 (by decide) ?_
      refine k_goto B 237 dL_others_233 (by decide) ?_
      refine k_zret B hr dL_others_237 (by rfl) ?_ (by first | exact Nat.le_of_ble_eq_true rfl | omega | (simp only [kR, Value.category, kCat_q, List.map, List.sum_cons, List.sum_nil]; omega)) (by first | exact Nat.le_of_ble_eq_true rfl | omega | (simp only [kR, Value.category, kCat_q, List.map, List.sum_cons, List.sum_nil]; omega))
      exact lPs_cell hs2 hz hJ h2 a2 hcA hwA hhA (fun _ => hpA k9 hk) (fun i hi _ => hpA i hi)
    by_cases h0 : y % 11 = 0
    · have et : t = -1 := by rw [ht, h0]; decide
      have e3 : t < nI k9 := by
        rw [et]
        exact Int32.lt_of_lt_of_le (show (-1 : Int32) < 0 by decide) (nI_pos' (by omega))
      have g0 : gLead (nI k9) t = none := by rw [gLead, gCell_p (nI_10 hk), if_pos et, decide_eq_true e3]; rfl
      rcases hp188 with ⟨-, ev, h2, f2⟩ | ⟨E, hE, -⟩
      · exact ok none et g0 (if_pos et) e3 _ _ ev h2 f2
      · rw [g0] at hE; cases hE
    · obtain ⟨d, hd⟩ : ∃ d, d = y % 11 - 1 := ⟨_, rfl⟩
      have hd10 : d < 10 := by omega
      have et : t = nI d := by rw [ht, show y % 11 = d + 1 by omega]; exact nI_pred d
      have etn : ¬ t = -1 := fun q => by
        have := nI_pos' (n := d) (by omega)
        rw [← et, q] at this
        exact absurd this (by decide)
      by_cases hlt : d < k9
      · have e3 : t < nI k9 := by rw [et]; exact nI_lt hlt (by omega)
        have g0 : gLead (nI k9) t = none := by
          rw [gLead, gCell_p (nI_10 hk), if_neg etn, et, gCell_p (nI_10 hd10), ← et, decide_eq_true e3]; rfl
        rcases hp188 with ⟨-, ev, h2, f2⟩ | ⟨E, hE, -⟩
        · exact ok (some d) et g0 (by rw [if_neg etn, et, cN_nI (by omega)]) e3 _ _ ev h2 f2
        · rw [g0] at hE; cases hE
      · have e3 : ¬ t < nI k9 := by rw [et]; exact nI_nlt (by omega) (by omega)
        have g0 : gLead (nI k9) t = some eA := by
          rw [gLead, gCell_p (nI_10 hk), if_neg etn, et, gCell_p (nI_10 hd10), ← et, decide_eq_false e3]; rfl
        rcases hp188 with ⟨g, -⟩ | ⟨E, hE, rfl, e90⟩
        · rw [g0] at g; cases g
        · rw [g0] at hE
          cases hE
          rw [e90]
          refine kK.rev (y := .int (-70009)) (by rw [aCd_A]) ?_
          refine k_iload B dL_others_191 rfl ?_
          refine k_iload B dL_others_193 rfl ?_
          refine k_icmp_ge B 203 dL_others_195 (by decide) (fun _ => ?_) (fun c9 => (c9 (Int32.not_lt.mp e3)).elim)
          refine k_ldc B qw627 dL_others_203 ?_
          refine k_icmp_ne B 236 dL_others_205 (by decide) (fun c9 => (c9 (rfl)).elim) (fun _ => ?_)
          refine k_aload_n B dL_others_208 rfl (by first | exact kRf_r _ | exact kRf_q _ | exact kRf_n) ?_
          refine k_iload B dL_others_209 rfl ?_
          refine k_iconst B (v := 3) dL_others_211 (by decide) ?_
          refine cl_L_52 B (c_X9_cellOf hl hs h) (h.rv.choose_spec) dL_others_212 (by first | exact Nat.le_of_ble_eq_true rfl | omega | (simp only [kR, Value.category, kCat_q, List.map, List.sum_cons, List.sum_nil]; omega)) (by first | exact Nat.le_of_ble_eq_true rfl | omega | (simp only [kR, Value.category, kCat_q, List.map, List.sum_cons, List.sum_nil]; omega)) (by first | exact Nat.le_of_ble_eq_true rfl | omega | (simp only [kR, Value.category, kCat_q, List.map, List.sum_cons, List.sum_nil]; omega)) (by first | exact Nat.le_of_ble_eq_true rfl | omega | (simp only [kR, Value.category, kCat_q, List.map, List.sum_cons, List.sum_nil]; omega)) (by first | exact Nat.le_of_ble_eq_true rfl | omega | (simp only [kR, Value.category, kCat_q, List.map, List.sum_cons, List.sum_nil]; omega)) (noE (gCl hk ⟨by decide, by decide⟩)) (rdI (rCl3 hk) ?_)
          refine k_iload B dL_others_215 rfl ?_
          refine k_iload B dL_others_217 rfl ?_
          refine k_icmp_ge B 227 dL_others_219 (by decide) (fun _ => ?_) (fun c9 => (c9 (Int32.not_lt.mp e3)).elim)
          refine k_iload B dL_others_227 rfl ?_
          refine k_icmp_ne B 236 dL_others_229 (by decide) (fun c9 => (c9 (rfl)).elim) (fun _ => ?_)
          refine k_iconst B (v := 1) dL_others_232 (by decide) ?_
          refine k_goto B 237 dL_others_233 (by decide) ?_
          refine k_zret B hr dL_others_237 (by rfl) ?_ (by first | exact Nat.le_of_ble_eq_true rfl | omega | (simp only [kR, Value.category, kCat_q, List.map, List.sum_cons, List.sum_nil]; omega)) (by first | exact Nat.le_of_ble_eq_true rfl | omega | (simp only [kR, Value.category, kCat_q, List.map, List.sum_cons, List.sum_nil]; omega))
          exact ⟨rfl, z, J, hs, hz, hJ, by omega, hW9⟩
  · -- spill
    clear hw
    subst q
    obtain ⟨u, hu⟩ : ∃ u, u = y % 8 := ⟨_, rfl⟩
    have hu8 : u < 8 := by omega
    have hu1 : 0 ≤ nI u ∧ nI u < 8 := ⟨nI_pos' (by omega), nI_lt (b := 8) hu8 (by decide)⟩
    have gg : ∀ z : kSt, gSpill z (nI k9) (nI u) = gSt (decide (¬ trvI z (nI k9) ≤ 5)) := fun z => by rw [gSpill, gCell_p (nI_10 hk), gIx_p hu1]
    have htv : trvI z (nI k9) = nI (trvF (sK z) (k9 + 1) k9) := by rw [trvI, hck]
    have htl := trv_le hs hk
    refine k_iload B dL_others_15 rfl ?_
    refine k_if_ne B 68 dL_others_17 (by decide) (fun _ => ?_) (fun c9 => absurd c9 (by decide))
    refine k_iload B dL_others_68 rfl ?_
    refine k_iconst B (v := 1) dL_others_70 (by decide) ?_
    refine k_icmp_ne B 158 dL_others_71 (by decide) (fun _ => ?_) (fun c9 => absurd c9 (by decide))
    refine k_iload B dL_others_158 rfl ?_
    refine k_iconst B (v := 2) dL_others_160 (by decide) ?_
    refine k_icmp_ne B 238 dL_others_161 (by decide) (fun _ => ?_) (fun c9 => absurd c9 (by decide))
    refine k_iload B dL_others_238 rfl ?_
    refine k_iconst B (v := 3) dL_others_240 (by decide) ?_
    refine k_icmp_ne B 318 dL_others_241 (by decide) (fun c9 => (c9 (rfl)).elim) (fun _ => ?_)
    refine k_aload_n B dL_others_244 rfl (by first | exact kRf_r _ | exact kRf_q _ | exact kRf_n) ?_
    refine k_iconst B (v := 4) dL_others_245 (by decide) ?_
    refine k_iload B dL_others_246 rfl ?_
    refine k_iload_n B dL_others_248 rfl ?_
    refine k_bipush B (v := 8) dL_others_249 (by decide) ?_
    refine k_irem B dL_others_251 (by decide) ?_
    refine kK.rei (y := nI u) (by rw [hu]; exact nI_rem (b := 8) (by omega) (by decide) (by decide)) ?_
    refine cl_L_90 B (c_L_asks4 hl hs h) dL_others_252 (by first | exact Nat.le_of_ble_eq_true rfl | omega | (simp only [kR, Value.category, kCat_q, List.map, List.sum_cons, List.sum_nil]; omega)) (by first | exact Nat.le_of_ble_eq_true rfl | omega | (simp only [kR, Value.category, kCat_q, List.map, List.sum_cons, List.sum_nil]; omega)) (by first | exact Nat.le_of_ble_eq_true rfl | omega | (simp only [kR, Value.category, kCat_q, List.map, List.sum_cons, List.sum_nil]; omega)) (by first | exact Nat.le_of_ble_eq_true rfl | omega | (simp only [kR, Value.category, kCat_q, List.map, List.sum_cons, List.sum_nil]; omega)) (by first | exact Nat.le_of_ble_eq_true rfl | omega | (simp only [kR, Value.category, kCat_q, List.map, List.sum_cons, List.sum_nil]; omega)) (fun _ hx => hx.elim) (fun v252 s252 hp252 => ?_)
    by_cases ht : trvI z (nI k9) ≤ 5
    · have g0 : gSpill z (nI k9) (nI u) = some eS := by rw [gg, decide_eq_false (fun q => q ht)]; rfl
      rcases hp252 with ⟨g, -⟩ | ⟨E, hE, rfl, e90⟩
      · rw [g0] at g; cases g
      · rw [g0] at hE
        cases hE
        rw [e90]
        refine kK.rev (y := .int (-70008)) (by rw [aCd_S]) ?_
        refine k_istore B dL_others_255 (by decide) ?_
        try refine kK.set1 (by first | exact True.intro | rfl | exact kCat_q _) ?_
        refine k_aload_n B dL_others_257 rfl (by first | exact kRf_r _ | exact kRf_q _ | exact kRf_n) ?_
        refine k_iload B dL_others_258 rfl ?_
        refine k_iconst B (v := 4) dL_others_260 (by decide) ?_
        refine cl_L_52 B (c_X9_cellOf hl hs h) (h.rv.choose_spec) dL_others_261 (by first | exact Nat.le_of_ble_eq_true rfl | omega | (simp only [kR, Value.category, kCat_q, List.map, List.sum_cons, List.sum_nil]; omega)) (by first | exact Nat.le_of_ble_eq_true rfl | omega | (simp only [kR, Value.category, kCat_q, List.map, List.sum_cons, List.sum_nil]; omega)) (by first | exact Nat.le_of_ble_eq_true rfl | omega | (simp only [kR, Value.category, kCat_q, List.map, List.sum_cons, List.sum_nil]; omega)) (by first | exact Nat.le_of_ble_eq_true rfl | omega | (simp only [kR, Value.category, kCat_q, List.map, List.sum_cons, List.sum_nil]; omega)) (by first | exact Nat.le_of_ble_eq_true rfl | omega | (simp only [kR, Value.category, kCat_q, List.map, List.sum_cons, List.sum_nil]; omega)) (noE (gCl hk ⟨by decide, by decide⟩)) (rdI (rCl4 hk) ?_)
        refine kK.rei (y := trvI z (nI k9)) (htv.symm) ?_
        refine k_iconst B (v := 5) dL_others_264 (by decide) ?_
        refine k_icmp_gt B 283 dL_others_265 (by decide) (fun c9 => absurd c9 (fun q => i32_lt_nle q ht)) (fun _ => ?_)
        refine k_iload B dL_others_268 rfl ?_
        refine k_ldc B qw628 dL_others_270 ?_
        refine k_icmp_ne B 279 dL_others_272 (by decide) (fun c9 => (c9 (rfl)).elim) (fun _ => ?_)
        refine k_iconst B (v := 1) dL_others_275 (by decide) ?_
        refine k_goto B 317 dL_others_276 (by decide) ?_
        refine k_zret B hr dL_others_317 (by rfl) ?_ (by first | exact Nat.le_of_ble_eq_true rfl | omega | (simp only [kR, Value.category, kCat_q, List.map, List.sum_cons, List.sum_nil]; omega)) (by first | exact Nat.le_of_ble_eq_true rfl | omega | (simp only [kR, Value.category, kCat_q, List.map, List.sum_cons, List.sum_nil]; omega))
        exact ⟨rfl, z, J, hs, hz, hJ, by omega, hW9⟩
    · have g0 : gSpill z (nI k9) (nI u) = none := by rw [gg, decide_eq_true ht]; rfl
      rcases hp252 with ⟨-, rfl, h2, f2⟩ | ⟨E, hE, -⟩
      · have en : nSpill z (nI k9) (nI u) = (z.1, upN (sK z) k9 ((sK z k9).1, (sK z k9).2.1, (sK z k9).2.2.1, (sK z k9).2.2.2.1, (sK z k9).2.2.2.2.1, (sK z k9).2.2.2.2.2 ||| bitI (nI u)), z.2.2) := by rw [nSpill, rSpill, hck]
        have hs2 : sOk (nSpill z (nI k9) (nI u)) := ok_spill hs
        rw [en] at h2 hs2
        have a2 := ha.keep f2
        have htv2 : trvF (upN (sK z) k9 ((sK z k9).1, (sK z k9).2.1, (sK z k9).2.2.1, (sK z k9).2.2.2.1, (sK z k9).2.2.2.2.1, (sK z k9).2.2.2.2.2 ||| bitI (nI u))) (k9 + 1) k9 = trvF (sK z) (k9 + 1) k9 := trv_congr (fun i => (by by_cases q : i = k9; { rw [q, upN_eq]; exact ⟨rfl, rfl⟩ }; { rw [upN_ne q]; exact ⟨rfl, rfl⟩ })) _ _
        have ht2 : ¬ trvI (z.1, upN (sK z) k9 ((sK z k9).1, (sK z k9).2.1, (sK z k9).2.2.1, (sK z k9).2.2.2.1, (sK z k9).2.2.2.2.1, (sK z k9).2.2.2.2.2 ||| bitI (nI u)), z.2.2) (nI k9) ≤ 5 := by
          rw [trvI, hck]
          show ¬ nI (trvF (upN (sK z) k9 _) (k9 + 1) k9) ≤ 5
          rw [htv2, ← htv]
          exact ht
        have g2 := (gg (z.1, upN (sK z) k9 ((sK z k9).1, (sK z k9).2.1, (sK z k9).2.2.1, (sK z k9).2.2.2.1, (sK z k9).2.2.2.2.1, (sK z k9).2.2.2.2.2 ||| bitI (nI u)), z.2.2)).trans (gSt_t (decide_eq_true ht2))
        refine kK.rev (y := .int ((sK z k9).2.2.2.2.2 ||| bitI (nI u))) (by rw [rSpill, hck]) ?_
        refine k_istore B dL_others_255 (by decide) ?_
        try refine kK.set1 (by first | exact True.intro | rfl | exact kCat_q _) ?_
        refine k_aload_n B dL_others_257 rfl (by first | exact kRf_r _ | exact kRf_q _ | exact kRf_n) ?_
        refine k_iload B dL_others_258 rfl ?_
        refine k_iconst B (v := 4) dL_others_260 (by decide) ?_
        refine cl_L_52 B (c_X9_cellOf hl hs2 h2) (h2.rv.choose_spec) dL_others_261 (by first | exact Nat.le_of_ble_eq_true rfl | omega | (simp only [kR, Value.category, kCat_q, List.map, List.sum_cons, List.sum_nil]; omega)) (by first | exact Nat.le_of_ble_eq_true rfl | omega | (simp only [kR, Value.category, kCat_q, List.map, List.sum_cons, List.sum_nil]; omega)) (by first | exact Nat.le_of_ble_eq_true rfl | omega | (simp only [kR, Value.category, kCat_q, List.map, List.sum_cons, List.sum_nil]; omega)) (by first | exact Nat.le_of_ble_eq_true rfl | omega | (simp only [kR, Value.category, kCat_q, List.map, List.sum_cons, List.sum_nil]; omega)) (by first | exact Nat.le_of_ble_eq_true rfl | omega | (simp only [kR, Value.category, kCat_q, List.map, List.sum_cons, List.sum_nil]; omega)) (noE (gCl hk ⟨by decide, by decide⟩)) (rdI (rCl4 hk) ?_)
        refine kK.rei (y := trvI z (nI k9)) ((congrArg nI htv2).trans htv.symm) ?_
        refine k_iconst B (v := 5) dL_others_264 (by decide) ?_
        refine k_icmp_gt B 283 dL_others_265 (by decide) (fun _ => ?_) (fun c9 => (c9 (Int32.not_le.mp ht)).elim)
        refine k_iload B dL_others_283 rfl ?_
        refine k_iload_n B dL_others_285 rfl ?_
        refine k_bipush B (v := 8) dL_others_286 (by decide) ?_
        refine k_irem B dL_others_288 (by decide) ?_
        refine kK.rei (y := nI u) (by rw [hu]; exact nI_rem (b := 8) (by omega) (by decide) (by decide)) ?_
        refine k_ishr B dL_others_289 ?_
        refine k_iconst B (v := 1) dL_others_290 (by decide) ?_
        refine k_iand B dL_others_291 ?_
        refine k_iconst B (v := 1) dL_others_292 (by decide) ?_
        refine k_icmp_ne B 316 dL_others_293 (by decide) (fun c9 => (c9 ((bit_t _ hu8).mpr (fun q => bit_self hu8 ((or_bit _ _ hu8).mp q).2))).elim) (fun _ => ?_)
        refine k_aload_n B dL_others_296 rfl (by first | exact kRf_r _ | exact kRf_q _ | exact kRf_n) ?_
        refine k_iconst B (v := 4) dL_others_297 (by decide) ?_
        refine k_iload B dL_others_298 rfl ?_
        refine k_iload_n B dL_others_300 rfl ?_
        refine k_bipush B (v := 8) dL_others_301 (by decide) ?_
        refine k_irem B dL_others_303 (by decide) ?_
        refine kK.rei (y := nI u) (by rw [hu]; exact nI_rem (b := 8) (by omega) (by decide) (by decide)) ?_
        refine cl_L_90 B (c_L_asks4 hl hs2 h2) dL_others_304 (by first | exact Nat.le_of_ble_eq_true rfl | omega | (simp only [kR, Value.category, kCat_q, List.map, List.sum_cons, List.sum_nil]; omega)) (by first | exact Nat.le_of_ble_eq_true rfl | omega | (simp only [kR, Value.category, kCat_q, List.map, List.sum_cons, List.sum_nil]; omega)) (by first | exact Nat.le_of_ble_eq_true rfl | omega | (simp only [kR, Value.category, kCat_q, List.map, List.sum_cons, List.sum_nil]; omega)) (by first | exact Nat.le_of_ble_eq_true rfl | omega | (simp only [kR, Value.category, kCat_q, List.map, List.sum_cons, List.sum_nil]; omega)) (by first | exact Nat.le_of_ble_eq_true rfl | omega | (simp only [kR, Value.category, kCat_q, List.map, List.sum_cons, List.sum_nil]; omega)) (fun _ hx => hx.elim) (fun v304 s304 hp304 => ?_)
        rcases hp304 with ⟨-, rfl, h4, f4⟩ | ⟨E, hE, -⟩
        · refine kK.rev (y := .int ((sK z k9).2.2.2.2.2 ||| bitI (nI u))) ?_ ?_
          · show Value.int (rSpill _ _ _) = _
            rw [rSpill, hck]
            show Value.int ((upN (sK z) k9 _ k9).2.2.2.2.2 ||| bitI (nI u)) = _
            rw [upN_eq]
            exact congrArg Value.int (or_twice _ _)
          refine k_iload B dL_others_307 rfl ?_
          refine k_icmp_ne B 316 dL_others_309 (by decide) (fun c9 => (c9 (rfl)).elim) (fun _ => ?_)
          refine k_iconst B (v := 1) dL_others_312 (by decide) ?_
          refine k_goto B 317 dL_others_313 (by decide) ?_
          refine k_zret B hr dL_others_317 (by rfl) ?_ (by first | exact Nat.le_of_ble_eq_true rfl | omega | (simp only [kR, Value.category, kCat_q, List.map, List.sum_cons, List.sum_nil]; omega)) (by first | exact Nat.le_of_ble_eq_true rfl | omega | (simp only [kR, Value.category, kCat_q, List.map, List.sum_cons, List.sum_nil]; omega))
          have hs4 := ok_spill hs2 (c := nI k9) (y := nI u)
          have en4 : nSpill (z.1, upN (sK z) k9 ((sK z k9).1, (sK z k9).2.1, (sK z k9).2.2.1, (sK z k9).2.2.2.1, (sK z k9).2.2.2.2.1, (sK z k9).2.2.2.2.2 ||| bitI (nI u)), z.2.2) (nI k9) (nI u) = (z.1, upN (sK z) k9 ((sK z k9).1, (sK z k9).2.1, (sK z k9).2.2.1, (sK z k9).2.2.2.1, (sK z k9).2.2.2.2.1, (sK z k9).2.2.2.2.2 ||| bitI (nI u)), z.2.2) := by
            rw [nSpill, rSpill, hck]
            show (z.1, upN (upN (sK z) k9 _) k9 ((upN (sK z) k9 _ k9).1, (upN (sK z) k9 _ k9).2.1, (upN (sK z) k9 _ k9).2.2.1, (upN (sK z) k9 _ k9).2.2.2.1, (upN (sK z) k9 _ k9).2.2.2.2.1, (upN (sK z) k9 _ k9).2.2.2.2.2 ||| bitI (nI u)), z.2.2) = _
            rw [upN_eq]
            show (z.1, upN (upN (sK z) k9 _) k9 ((sK z k9).1, (sK z k9).2.1, (sK z k9).2.2.1, (sK z k9).2.2.2.1, (sK z k9).2.2.2.2.1, ((sK z k9).2.2.2.2.2 ||| bitI (nI u)) ||| bitI (nI u)), z.2.2) = _
            rw [or_twice]
            congr 2
            funext i
            by_cases q : i = k9
            · rw [q, upN_eq, upN_eq]
            · rw [upN_ne q]
          rw [en4] at h4 hs4
          exact lPs_cell hs4 hz hJ h4 (a2.keep f4) hcA hwA hhA (fun _ => hpA k9 hk) (fun i hi _ => hpA i hi)
        · rw [g2] at hE; cases hE
      · rw [g0] at hE; cases hE
  · -- contract
    clear hw
    subst q
    obtain ⟨u, hu⟩ : ∃ u, u = 1 + y % 30 := ⟨_, rfl⟩
    obtain ⟨v9, hv9⟩ : ∃ v9, v9 = y / 30 % 1001 := ⟨_, rfl⟩
    have hu1 : inR (nI u) 1 30 := ⟨nI_le (a := 1) (by omega) (by omega), nI_le (b := 30) (by omega) (by decide)⟩
    have hv1 : inR (nI v9) 0 1000 := ⟨nI_pos' (by omega), nI_le (b := 1000) (by omega) (by decide)⟩
    have gg : gContract z (nI k9) (nI u) (nI v9) = gSt (decide ((sK z k9).2.2.1 = 2) && decide ((sK z k9).2.2.2.1 = 0)) := by rw [gContract, gCell_p (nI_10 hk), gRg_p hu1, gRg_p hv1, hck]
    have gS : ∀ E, gContract z (nI k9) (nI u) (nI v9) = some E → E = eS := fun E hE => gSt_s (gg.symm.trans hE)
    have hk3 := hcl.2.2.2.1
    have hk5 := hcl.2.2.2.2.1
    refine k_iload B dL_others_15 rfl ?_
    refine k_if_ne B 68 dL_others_17 (by decide) (fun _ => ?_) (fun c9 => absurd c9 (by decide))
    refine k_iload B dL_others_68 rfl ?_
    refine k_iconst B (v := 1) dL_others_70 (by decide) ?_
    refine k_icmp_ne B 158 dL_others_71 (by decide) (fun _ => ?_) (fun c9 => absurd c9 (by decide))
    refine k_iload B dL_others_158 rfl ?_
    refine k_iconst B (v := 2) dL_others_160 (by decide) ?_
    refine k_icmp_ne B 238 dL_others_161 (by decide) (fun _ => ?_) (fun c9 => absurd c9 (by decide))
    refine k_iload B dL_others_238 rfl ?_
    refine k_iconst B (v := 3) dL_others_240 (by decide) ?_
    refine k_icmp_ne B 318 dL_others_241 (by decide) (fun _ => ?_) (fun c9 => absurd c9 (by decide))
    refine k_iload B dL_others_318 rfl ?_
    refine k_iconst B (v := 4) dL_others_320 (by decide) ?_
    refine k_icmp_ne B 430 dL_others_321 (by decide) (fun c9 => (c9 (rfl)).elim) (fun _ => ?_)
    refine k_aload_n B dL_others_324 rfl (by first | exact kRf_r _ | exact kRf_q _ | exact kRf_n) ?_
    refine k_iload B dL_others_325 rfl ?_
    refine k_iconst B (v := 2) dL_others_327 (by decide) ?_
    refine cl_L_52 B (c_X9_cellOf hl hs h) (h.rv.choose_spec) dL_others_328 (by first | exact Nat.le_of_ble_eq_true rfl | omega | (simp only [kR, Value.category, kCat_q, List.map, List.sum_cons, List.sum_nil]; omega)) (by first | exact Nat.le_of_ble_eq_true rfl | omega | (simp only [kR, Value.category, kCat_q, List.map, List.sum_cons, List.sum_nil]; omega)) (by first | exact Nat.le_of_ble_eq_true rfl | omega | (simp only [kR, Value.category, kCat_q, List.map, List.sum_cons, List.sum_nil]; omega)) (by first | exact Nat.le_of_ble_eq_true rfl | omega | (simp only [kR, Value.category, kCat_q, List.map, List.sum_cons, List.sum_nil]; omega)) (by first | exact Nat.le_of_ble_eq_true rfl | omega | (simp only [kR, Value.category, kCat_q, List.map, List.sum_cons, List.sum_nil]; omega)) (noE (gCl hk ⟨by decide, by decide⟩)) (rdI (rCl2 hk) ?_)
    have bad : gContract z (nI k9) (nI u) (nI v9) = some eS → ∀ k n, k ≤ 6 → n ≤ 36 → kK p l e (kR 10 40 250) s m args below meth c D (kA σ s.heap.size) 10 (kQ below args s D σ (lPs D aO ac ap aw ah z F) (fun _ => False) 40 250) σ k n 349 [some (.ref aO), some (.int (nI x)), some (.int (nI y)), some (.ref ac), some (.ref ap), some (.ref aw), some (.int (nI 4)), some (.int (nI k9)), none, none] [] := by
      intro g0 k n hk8 hn8
      refine k_iconst B (v := 0) dL_others_349 (by decide) ?_
      refine k_istore B dL_others_350 (by decide) ?_
      try refine kK.set1 (by first | exact True.intro | rfl | exact kCat_q _) ?_
      refine k_aload B dL_others_352 rfl (by first | exact kRf_r _ | exact kRf_q _ | exact kRf_n) ?_
      refine k_iload B dL_others_354 rfl ?_
      refine k_iload B dL_others_356 rfl ?_
      refine k_if_eq B 372 dL_others_358 (by decide) (fun _ => ?_) (fun c9 => (c9 (rfl)).elim)
      refine k_aload B dL_others_372 rfl (by first | exact kRf_r _ | exact kRf_q _ | exact kRf_n) ?_
      refine k_iload B dL_others_374 rfl ?_
      refine k_ald B k9 dL_others_376 ha.2.1 (by rfl) (by first | omega | decide) (by decide) (rfl) ?_
      refine k_aupG B k9 dL_others_377 ha.2.1 (by rfl) (by first | omega | decide) (by decide) (fun s377 ha377 ho377 => ?_)
      have h3 := h.outI ha.2.1 ho377
      have a3 := ha.p ho377 ha377
      refine k_aload_n B dL_others_378 rfl (by first | exact kRf_r _ | exact kRf_q _ | exact kRf_n) ?_
      refine k_iload B dL_others_379 rfl ?_
      refine k_iconst B (v := 1) dL_others_381 (by decide) ?_
      refine k_iload_n B dL_others_382 rfl ?_
      refine k_bipush B (v := 30) dL_others_383 (by decide) ?_
      refine k_irem B dL_others_385 (by decide) ?_
      refine kK.rei (y := nI (y % 30)) (nI_rem (b := 30) (by omega) (by decide) (by decide)) ?_
      refine k_iadd B dL_others_386 ?_
      refine kK.rei (y := nI u) (by rw [hu]; exact nI_add 1 (y % 30)) ?_
      refine k_iload_n B dL_others_387 rfl ?_
      refine k_bipush B (v := 30) dL_others_388 (by decide) ?_
      refine k_idiv B dL_others_390 (by decide) ?_
      refine kK.rei (y := nI (y / 30)) (pk_div (d := 30) (by omega) (by decide) (by decide)) ?_
      refine k_sipush B (v := 1001) dL_others_391 (by decide) ?_
      refine k_irem B dL_others_394 (by decide) ?_
      refine kK.rei (y := nI v9) (by rw [hv9]; exact nI_rem (b := 1001) (by omega) (by decide) (by decide)) ?_
      refine cl_L_116 B (c_L_isContract hl hs h3 gS) dL_others_395 (by first | exact Nat.le_of_ble_eq_true rfl | omega | (simp only [kR, Value.category, kCat_q, List.map, List.sum_cons, List.sum_nil]; omega)) (by first | exact Nat.le_of_ble_eq_true rfl | omega | (simp only [kR, Value.category, kCat_q, List.map, List.sum_cons, List.sum_nil]; omega)) (by first | exact Nat.le_of_ble_eq_true rfl | omega | (simp only [kR, Value.category, kCat_q, List.map, List.sum_cons, List.sum_nil]; omega)) (by first | exact Nat.le_of_ble_eq_true rfl | omega | (simp only [kR, Value.category, kCat_q, List.map, List.sum_cons, List.sum_nil]; omega)) (by first | exact Nat.le_of_ble_eq_true rfl | omega | (simp only [kR, Value.category, kCat_q, List.map, List.sum_cons, List.sum_nil]; omega)) (fun _ hx => hx.elim) (fun v395 s395 hp395 => ?_)
      rcases hp395 with ⟨g, -⟩ | ⟨-, rfl, e95⟩
      · rw [g0] at g; cases g
      · rw [e95]
        refine kK.rev (y := .int 0) rfl ?_
        refine k_iload B dL_others_398 rfl ?_
        refine k_icmp_ne B 428 dL_others_400 (by decide) (fun c9 => (c9 (rfl)).elim) (fun _ => ?_)
        refine k_iload B dL_others_403 rfl ?_
        refine k_if_eq B 424 dL_others_405 (by decide) (fun _ => ?_) (fun c9 => (c9 (rfl)).elim)
        refine k_iconst B (v := 1) dL_others_424 (by decide) ?_
        refine k_goto B 429 dL_others_425 (by decide) ?_
        refine k_zret B hr dL_others_429 (by rfl) ?_ (by first | exact Nat.le_of_ble_eq_true rfl | omega | (simp only [kR, Value.category, kCat_q, List.map, List.sum_cons, List.sum_nil]; omega)) (by first | exact Nat.le_of_ble_eq_true rfl | omega | (simp only [kR, Value.category, kCat_q, List.map, List.sum_cons, List.sum_nil]; omega))
        refine ⟨rfl, z, J, hs, hz, hJ, by omega, h3, fc, _, fw, fh, a3, hcA, fun i hi => ?_, hwA, hhA⟩
        by_cases q : i = k9
        · rw [q, upN_eq]; exact hpA k9 hk
        · rw [upN_ne q]; exact hpA i hi
    by_cases h2 : (sK z k9).2.2.1 = 2
    · by_cases h5 : (sK z k9).2.2.2.1 = 0
      · have g0 : gContract z (nI k9) (nI u) (nI v9) = none := by rw [gg, decide_eq_true h2, decide_eq_true h5]; rfl
        have en : nContract z (nI k9) (nI u) (nI v9) = (z.1, upN (sK z) k9 ((sK z k9).1, (sK z k9).2.1, (sK z k9).2.2.1, u, v9, (sK z k9).2.2.2.2.2), z.2.2) := by rw [nContract, hck, cN_nI (by omega), cN_nI (by omega)]
        have hs2 := ok_contract hs g0
        rw [en] at hs2
        refine k_iconst B (v := 2) dL_others_331 (by decide) ?_
        refine k_icmp_ne B 349 dL_others_332 (by decide) (fun c9 => (c9 (by rw [h2]; rfl)).elim) (fun _ => ?_)
        refine k_aload_n B dL_others_335 rfl (by first | exact kRf_r _ | exact kRf_q _ | exact kRf_n) ?_
        refine k_iload B dL_others_336 rfl ?_
        refine k_iconst B (v := 5) dL_others_338 (by decide) ?_
        refine cl_L_52 B (c_X9_cellOf hl hs h) (h.rv.choose_spec) dL_others_339 (by first | exact Nat.le_of_ble_eq_true rfl | omega | (simp only [kR, Value.category, kCat_q, List.map, List.sum_cons, List.sum_nil]; omega)) (by first | exact Nat.le_of_ble_eq_true rfl | omega | (simp only [kR, Value.category, kCat_q, List.map, List.sum_cons, List.sum_nil]; omega)) (by first | exact Nat.le_of_ble_eq_true rfl | omega | (simp only [kR, Value.category, kCat_q, List.map, List.sum_cons, List.sum_nil]; omega)) (by first | exact Nat.le_of_ble_eq_true rfl | omega | (simp only [kR, Value.category, kCat_q, List.map, List.sum_cons, List.sum_nil]; omega)) (by first | exact Nat.le_of_ble_eq_true rfl | omega | (simp only [kR, Value.category, kCat_q, List.map, List.sum_cons, List.sum_nil]; omega)) (noE (gCl hk ⟨by decide, by decide⟩)) (rdI (rCl5 hk) ?_)
        refine k_if_ne B 349 dL_others_342 (by decide) (fun c9 => (c9 (by rw [h5]; rfl)).elim) (fun _ => ?_)
        refine k_iconst B (v := 1) dL_others_345 (by decide) ?_
        refine k_goto B 350 dL_others_346 (by decide) ?_
        refine k_istore B dL_others_350 (by decide) ?_
        try refine kK.set1 (by first | exact True.intro | rfl | exact kCat_q _) ?_
        refine k_aload B dL_others_352 rfl (by first | exact kRf_r _ | exact kRf_q _ | exact kRf_n) ?_
        refine k_iload B dL_others_354 rfl ?_
        refine k_iload B dL_others_356 rfl ?_
        refine k_if_eq B 372 dL_others_358 (by decide) (fun c9 => absurd c9 (by decide)) (fun _ => ?_)
        refine k_iload_n B dL_others_361 rfl ?_
        refine k_bipush B (v := 30) dL_others_362 (by decide) ?_
        refine k_idiv B dL_others_364 (by decide) ?_
        refine kK.rei (y := nI (y / 30)) (pk_div (d := 30) (by omega) (by decide) (by decide)) ?_
        refine k_sipush B (v := 1001) dL_others_365 (by decide) ?_
        refine k_irem B dL_others_368 (by decide) ?_
        refine kK.rei (y := nI v9) (by rw [hv9]; exact nI_rem (b := 1001) (by omega) (by decide) (by decide)) ?_
        refine k_goto B 377 dL_others_369 (by decide) ?_
        refine k_aupG B k9 dL_others_377 ha.2.1 (by rfl) (by first | omega | decide) (by decide) (fun s377 ha377 ho377 => ?_)
        have h3 := h.outI ha.2.1 ho377
        have a3 := ha.p ho377 ha377
        refine k_aload_n B dL_others_378 rfl (by first | exact kRf_r _ | exact kRf_q _ | exact kRf_n) ?_
        refine k_iload B dL_others_379 rfl ?_
        refine k_iconst B (v := 1) dL_others_381 (by decide) ?_
        refine k_iload_n B dL_others_382 rfl ?_
        refine k_bipush B (v := 30) dL_others_383 (by decide) ?_
        refine k_irem B dL_others_385 (by decide) ?_
        refine kK.rei (y := nI (y % 30)) (nI_rem (b := 30) (by omega) (by decide) (by decide)) ?_
        refine k_iadd B dL_others_386 ?_
        refine kK.rei (y := nI u) (by rw [hu]; exact nI_add 1 (y % 30)) ?_
        refine k_iload_n B dL_others_387 rfl ?_
        refine k_bipush B (v := 30) dL_others_388 (by decide) ?_
        refine k_idiv B dL_others_390 (by decide) ?_
        refine kK.rei (y := nI (y / 30)) (pk_div (d := 30) (by omega) (by decide) (by decide)) ?_
        refine k_sipush B (v := 1001) dL_others_391 (by decide) ?_
        refine k_irem B dL_others_394 (by decide) ?_
        refine kK.rei (y := nI v9) (by rw [hv9]; exact nI_rem (b := 1001) (by omega) (by decide) (by decide)) ?_
        refine cl_L_116 B (c_L_isContract hl hs h3 gS) dL_others_395 (by first | exact Nat.le_of_ble_eq_true rfl | omega | (simp only [kR, Value.category, kCat_q, List.map, List.sum_cons, List.sum_nil]; omega)) (by first | exact Nat.le_of_ble_eq_true rfl | omega | (simp only [kR, Value.category, kCat_q, List.map, List.sum_cons, List.sum_nil]; omega)) (by first | exact Nat.le_of_ble_eq_true rfl | omega | (simp only [kR, Value.category, kCat_q, List.map, List.sum_cons, List.sum_nil]; omega)) (by first | exact Nat.le_of_ble_eq_true rfl | omega | (simp only [kR, Value.category, kCat_q, List.map, List.sum_cons, List.sum_nil]; omega)) (by first | exact Nat.le_of_ble_eq_true rfl | omega | (simp only [kR, Value.category, kCat_q, List.map, List.sum_cons, List.sum_nil]; omega)) (fun _ hx => hx.elim) (fun v395 s395 hp395 => ?_)
        rcases hp395 with ⟨-, rfl, h4, f4⟩ | ⟨g, -⟩
        · rw [en] at h4
          refine kK.rev (y := .int 1) rfl ?_
          refine k_iload B dL_others_398 rfl ?_
          refine k_icmp_ne B 428 dL_others_400 (by decide) (fun c9 => (c9 (rfl)).elim) (fun _ => ?_)
          refine k_iload B dL_others_403 rfl ?_
          refine k_if_eq B 424 dL_others_405 (by decide) (fun c9 => absurd c9 (by decide)) (fun _ => ?_)
          refine k_aload_n B dL_others_408 rfl (by first | exact kRf_r _ | exact kRf_q _ | exact kRf_n) ?_
          refine k_iload B dL_others_409 rfl ?_
          refine k_iconst B (v := 5) dL_others_411 (by decide) ?_
          refine cl_L_52 B (c_X9_cellOf hl hs2 h4) (h4.rv.choose_spec) dL_others_412 (by first | exact Nat.le_of_ble_eq_true rfl | omega | (simp only [kR, Value.category, kCat_q, List.map, List.sum_cons, List.sum_nil]; omega)) (by first | exact Nat.le_of_ble_eq_true rfl | omega | (simp only [kR, Value.category, kCat_q, List.map, List.sum_cons, List.sum_nil]; omega)) (by first | exact Nat.le_of_ble_eq_true rfl | omega | (simp only [kR, Value.category, kCat_q, List.map, List.sum_cons, List.sum_nil]; omega)) (by first | exact Nat.le_of_ble_eq_true rfl | omega | (simp only [kR, Value.category, kCat_q, List.map, List.sum_cons, List.sum_nil]; omega)) (by first | exact Nat.le_of_ble_eq_true rfl | omega | (simp only [kR, Value.category, kCat_q, List.map, List.sum_cons, List.sum_nil]; omega)) (noE (gCl hk ⟨by decide, by decide⟩)) (rdI (rCl5 hk) ?_)
          refine kK.rei (y := nI u) (congrArg nI (congrArg (fun c : kCl => c.2.2.2.1) upN_eq)) ?_
          refine k_iconst B (v := 1) dL_others_415 (by decide) ?_
          refine k_iload_n B dL_others_416 rfl ?_
          refine k_bipush B (v := 30) dL_others_417 (by decide) ?_
          refine k_irem B dL_others_419 (by decide) ?_
          refine kK.rei (y := nI (y % 30)) (nI_rem (b := 30) (by omega) (by decide) (by decide)) ?_
          refine k_iadd B dL_others_420 ?_
          refine kK.rei (y := nI u) (by rw [hu]; exact nI_add 1 (y % 30)) ?_
          refine k_icmp_ne B 428 dL_others_421 (by decide) (fun c9 => (c9 (rfl)).elim) (fun _ => ?_)
          refine k_iconst B (v := 1) dL_others_424 (by decide) ?_
          refine k_goto B 429 dL_others_425 (by decide) ?_
          refine k_zret B hr dL_others_429 (by rfl) ?_ (by first | exact Nat.le_of_ble_eq_true rfl | omega | (simp only [kR, Value.category, kCat_q, List.map, List.sum_cons, List.sum_nil]; omega)) (by first | exact Nat.le_of_ble_eq_true rfl | omega | (simp only [kR, Value.category, kCat_q, List.map, List.sum_cons, List.sum_nil]; omega))
          exact lPs_cell hs2 hz hJ h4 (a3.keep f4) hcA hwA hhA (fun _ => upN_eq) (fun i hi q => by rw [upN_ne q]; exact hpA i hi)
        · rw [g0] at g; cases g
      · refine k_iconst B (v := 2) dL_others_331 (by decide) ?_
        refine k_icmp_ne B 349 dL_others_332 (by decide) (fun c9 => (c9 (by rw [h2]; rfl)).elim) (fun _ => ?_)
        refine k_aload_n B dL_others_335 rfl (by first | exact kRf_r _ | exact kRf_q _ | exact kRf_n) ?_
        refine k_iload B dL_others_336 rfl ?_
        refine k_iconst B (v := 5) dL_others_338 (by decide) ?_
        refine cl_L_52 B (c_X9_cellOf hl hs h) (h.rv.choose_spec) dL_others_339 (by first | exact Nat.le_of_ble_eq_true rfl | omega | (simp only [kR, Value.category, kCat_q, List.map, List.sum_cons, List.sum_nil]; omega)) (by first | exact Nat.le_of_ble_eq_true rfl | omega | (simp only [kR, Value.category, kCat_q, List.map, List.sum_cons, List.sum_nil]; omega)) (by first | exact Nat.le_of_ble_eq_true rfl | omega | (simp only [kR, Value.category, kCat_q, List.map, List.sum_cons, List.sum_nil]; omega)) (by first | exact Nat.le_of_ble_eq_true rfl | omega | (simp only [kR, Value.category, kCat_q, List.map, List.sum_cons, List.sum_nil]; omega)) (by first | exact Nat.le_of_ble_eq_true rfl | omega | (simp only [kR, Value.category, kCat_q, List.map, List.sum_cons, List.sum_nil]; omega)) (noE (gCl hk ⟨by decide, by decide⟩)) (rdI (rCl5 hk) ?_)
        refine k_if_ne B 349 dL_others_342 (by decide) (fun _ => ?_) (fun c9 => absurd c9 (nI_ne0 (by omega) (by omega)))
        exact bad (by rw [gg, decide_eq_false h5, Bool.and_false]; rfl) _ _ (by decide) (by decide)
    · refine k_iconst B (v := 2) dL_others_331 (by decide) ?_
      refine k_icmp_ne B 349 dL_others_332 (by decide) (fun _ => ?_) (fun c9 => absurd c9 (fun q => h2 ((nI_eq (b := 2) (by omega) (by decide)).mp q)))
      exact bad (by rw [gg, decide_eq_false h2, Bool.false_and]; rfl) _ _ (by decide) (by decide)
  · -- drought, share
    clear hw
    subst q
    obtain ⟨sh, hsh⟩ : ∃ sh, sh = y % 101 := ⟨_, rfl⟩
    obtain ⟨a9, ha9⟩ : ∃ a9, a9 = y / 101 % 400 := ⟨_, rfl⟩
    obtain ⟨b9, hb9⟩ : ∃ b9, b9 = y / 40400 % (a9 + 1) := ⟨_, rfl⟩
    have hab : b9 ≤ a9 := by rw [hb9]; exact Nat.le_of_lt_succ (Nat.mod_lt _ (Nat.succ_pos _))
    have ha4 : a9 < 400 := by omega
    have hy4 : y / 40400 < 2 ^ 31 := by omega
    have gD : gDrought (nI k9) (nI a9) (nI b9) = none := (gCell_p (nI_10 hk)).trans ((gRg_p ⟨nI_pos' (by omega), nI_le (b := 100000) (by omega) (by decide)⟩).trans (gRg_p ⟨nI_pos' (by omega), nI_le hab (by omega)⟩))
    have gH : gShare (nI sh) = none := gRg_p ⟨nI_pos' (by omega), nI_le (b := 100) (by omega) (by decide)⟩
    have hs2 := ok_drought hs gD
    have hs4 := ok_share hs2 gH
    refine k_iload B dL_others_15 rfl ?_
    refine k_if_ne B 68 dL_others_17 (by decide) (fun _ => ?_) (fun c9 => absurd c9 (by decide))
    refine k_iload B dL_others_68 rfl ?_
    refine k_iconst B (v := 1) dL_others_70 (by decide) ?_
    refine k_icmp_ne B 158 dL_others_71 (by decide) (fun _ => ?_) (fun c9 => absurd c9 (by decide))
    refine k_iload B dL_others_158 rfl ?_
    refine k_iconst B (v := 2) dL_others_160 (by decide) ?_
    refine k_icmp_ne B 238 dL_others_161 (by decide) (fun _ => ?_) (fun c9 => absurd c9 (by decide))
    refine k_iload B dL_others_238 rfl ?_
    refine k_iconst B (v := 3) dL_others_240 (by decide) ?_
    refine k_icmp_ne B 318 dL_others_241 (by decide) (fun _ => ?_) (fun c9 => absurd c9 (by decide))
    refine k_iload B dL_others_318 rfl ?_
    refine k_iconst B (v := 4) dL_others_320 (by decide) ?_
    refine k_icmp_ne B 430 dL_others_321 (by decide) (fun _ => ?_) (fun c9 => absurd c9 (by decide))
    refine k_iload B dL_others_430 rfl ?_
    refine k_iconst B (v := 5) dL_others_432 (by decide) ?_
    refine k_icmp_ne B 513 dL_others_433 (by decide) (fun c9 => (c9 (rfl)).elim) (fun _ => ?_)
    refine k_aload_n B dL_others_436 rfl (by first | exact kRf_r _ | exact kRf_q _ | exact kRf_n) ?_
    refine k_iconst B (v := 4) dL_others_437 (by decide) ?_
    refine k_ald B 4 dL_others_438 ha.1 (by rfl) (by first | omega | decide) (by decide) (c4) ?_
    refine k_istore B dL_others_439 (by decide) ?_
    try refine kK.set1 (by first | exact True.intro | rfl | exact kCat_q _) ?_
    refine k_aload_n B dL_others_441 rfl (by first | exact kRf_r _ | exact kRf_q _ | exact kRf_n) ?_
    refine k_iconst B (v := 4) dL_others_442 (by decide) ?_
    refine k_iload_n B dL_others_443 rfl ?_
    refine k_bipush B (v := 101) dL_others_444 (by decide) ?_
    refine k_irem B dL_others_446 (by decide) ?_
    refine kK.rei (y := nI sh) (by rw [hsh]; exact nI_rem (b := 101) (by omega) (by decide) (by decide)) ?_
    refine k_aupG B 4 dL_others_447 ha.1 (by rfl) (by first | omega | decide) (by decide) (fun s447 ha447 ho447 => ?_)
    have a1 := ha.c ho447 ha447
    have h1 := h.outI ha.1 ho447
    refine k_aload_n B dL_others_448 rfl (by first | exact kRf_r _ | exact kRf_q _ | exact kRf_n) ?_
    refine k_iconst B (v := 5) dL_others_449 (by decide) ?_
    refine k_iload B dL_others_450 rfl ?_
    refine k_aupG B 5 dL_others_452 a1.1 (by rfl) (by first | omega | decide) (by decide) (fun s452 ha452 ho452 => ?_)
    have a2 := a1.c ho452 ha452
    have h2 := h1.outI a1.1 ho452
    refine k_aload_n B dL_others_453 rfl (by first | exact kRf_r _ | exact kRf_q _ | exact kRf_n) ?_
    refine k_bipush B (v := 6) dL_others_454 (by decide) ?_
    refine k_iload_n B dL_others_456 rfl ?_
    refine k_bipush B (v := 101) dL_others_457 (by decide) ?_
    refine k_idiv B dL_others_459 (by decide) ?_
    refine kK.rei (y := nI (y / 101)) (pk_div (d := 101) (by omega) (by decide) (by decide)) ?_
    refine k_sipush B (v := 400) dL_others_460 (by decide) ?_
    refine k_irem B dL_others_463 (by decide) ?_
    refine kK.rei (y := nI a9) (by rw [ha9]; exact nI_rem (b := 400) (by omega) (by decide) (by decide)) ?_
    refine k_aupG B 6 dL_others_464 a2.1 (by rfl) (by first | omega | decide) (by decide) (fun s464 ha464 ho464 => ?_)
    have a3 := a2.c ho464 ha464
    have h3 := h2.outI a2.1 ho464
    refine k_aload_n B dL_others_465 rfl (by first | exact kRf_r _ | exact kRf_q _ | exact kRf_n) ?_
    refine k_bipush B (v := 7) dL_others_466 (by decide) ?_
    refine k_iload_n B dL_others_468 rfl ?_
    refine k_ldc B qw636 dL_others_469 ?_
    refine k_idiv B dL_others_471 (by decide) ?_
    refine kK.rei (y := nI (y / 40400)) (pk_div (d := 40400) (by omega) (by decide) (by decide)) ?_
    refine k_aload_n B dL_others_472 rfl (by first | exact kRf_r _ | exact kRf_q _ | exact kRf_n) ?_
    refine k_bipush B (v := 6) dL_others_473 (by decide) ?_
    refine k_ald B 6 dL_others_475 a3.1 (by rfl) (by first | omega | decide) (by decide) (upN_eq) ?_
    refine k_iconst B (v := 1) dL_others_476 (by decide) ?_
    refine k_iadd B dL_others_477 ?_
    refine kK.rei (y := nI (a9 + 1)) (nI_1 _) ?_
    refine k_irem B dL_others_478 (nI_ne0 (by omega) (by omega)) ?_
    refine kK.rei (y := nI b9) (by rw [hb9]; exact nI_rem hy4 (by omega) (by omega)) ?_
    refine k_aupG B 7 dL_others_479 a3.1 (by rfl) (by first | omega | decide) (by decide) (fun s479 ha479 ho479 => ?_)
    have a4 := a3.c ho479 ha479
    have h4 := h3.outI a3.1 ho479
    refine k_aload_n B dL_others_480 rfl (by first | exact kRf_r _ | exact kRf_q _ | exact kRf_n) ?_
    refine k_aload_n B dL_others_481 rfl (by first | exact kRf_r _ | exact kRf_q _ | exact kRf_n) ?_
    refine k_iconst B (v := 5) dL_others_482 (by decide) ?_
    refine k_ald B 5 dL_others_483 a4.1 (by rfl) (by first | omega | decide) (by decide) ((upN_ne (by decide)).trans ((upN_ne (by decide)).trans upN_eq)) ?_
    refine k_aload_n B dL_others_484 rfl (by first | exact kRf_r _ | exact kRf_q _ | exact kRf_n) ?_
    refine k_bipush B (v := 6) dL_others_485 (by decide) ?_
    refine k_ald B 6 dL_others_487 a4.1 (by rfl) (by first | omega | decide) (by decide) ((upN_ne (by decide)).trans upN_eq) ?_
    refine k_aload_n B dL_others_488 rfl (by first | exact kRf_r _ | exact kRf_q _ | exact kRf_n) ?_
    refine k_bipush B (v := 7) dL_others_489 (by decide) ?_
    refine k_ald B 7 dL_others_491 a4.1 (by rfl) (by first | omega | decide) (by decide) (upN_eq) ?_
    refine cl_L_121 B (c_X9_drought hl hs h4) (h4.rv.choose_spec) dL_others_492 (by first | exact Nat.le_of_ble_eq_true rfl | omega | (simp only [kR, Value.category, kCat_q, List.map, List.sum_cons, List.sum_nil]; omega)) (by first | exact Nat.le_of_ble_eq_true rfl | omega | (simp only [kR, Value.category, kCat_q, List.map, List.sum_cons, List.sum_nil]; omega)) (by first | exact Nat.le_of_ble_eq_true rfl | omega | (simp only [kR, Value.category, kCat_q, List.map, List.sum_cons, List.sum_nil]; omega)) (by first | exact Nat.le_of_ble_eq_true rfl | omega | (simp only [kR, Value.category, kCat_q, List.map, List.sum_cons, List.sum_nil]; omega)) (by first | exact Nat.le_of_ble_eq_true rfl | omega | (simp only [kR, Value.category, kCat_q, List.map, List.sum_cons, List.sum_nil]; omega)) (noE gD) (fun v492 s492 hp492 => ?_)
    obtain ⟨-, rfl, h5, f5⟩ := hp492
    have a5 := a4.keep f5
    refine k_aload_n B dL_others_495 rfl (by first | exact kRf_r _ | exact kRf_q _ | exact kRf_n) ?_
    refine k_aload_n B dL_others_496 rfl (by first | exact kRf_r _ | exact kRf_q _ | exact kRf_n) ?_
    refine k_iconst B (v := 4) dL_others_497 (by decide) ?_
    refine k_ald B 4 dL_others_498 a5.1 (by rfl) (by first | omega | decide) (by decide) ((upN_ne (by decide)).trans ((upN_ne (by decide)).trans ((upN_ne (by decide)).trans upN_eq))) ?_
    refine cl_L_124 B (c_X9_share hl h5) (h5.rv.choose_spec) dL_others_499 (by first | exact Nat.le_of_ble_eq_true rfl | omega | (simp only [kR, Value.category, kCat_q, List.map, List.sum_cons, List.sum_nil]; omega)) (by first | exact Nat.le_of_ble_eq_true rfl | omega | (simp only [kR, Value.category, kCat_q, List.map, List.sum_cons, List.sum_nil]; omega)) (by first | exact Nat.le_of_ble_eq_true rfl | omega | (simp only [kR, Value.category, kCat_q, List.map, List.sum_cons, List.sum_nil]; omega)) (by first | exact Nat.le_of_ble_eq_true rfl | omega | (simp only [kR, Value.category, kCat_q, List.map, List.sum_cons, List.sum_nil]; omega)) (by first | exact Nat.le_of_ble_eq_true rfl | omega | (simp only [kR, Value.category, kCat_q, List.map, List.sum_cons, List.sum_nil]; omega)) (noE gH) (fun v499 s499 hp499 => ?_)
    obtain ⟨-, rfl, h7, f7⟩ := hp499
    refine kK.rev (y := .int (nI (sCen z))) rfl ?_
    refine k_iload B dL_others_502 rfl ?_
    refine k_icmp_ne B 511 dL_others_504 (by decide) (fun c9 => (c9 (rfl)).elim) (fun _ => ?_)
    refine k_iconst B (v := 1) dL_others_507 (by decide) ?_
    refine k_goto B 512 dL_others_508 (by decide) ?_
    refine k_zret B hr dL_others_512 (by rfl) ?_ (by first | exact Nat.le_of_ble_eq_true rfl | omega | (simp only [kR, Value.category, kCat_q, List.map, List.sum_cons, List.sum_nil]; omega)) (by first | exact Nat.le_of_ble_eq_true rfl | omega | (simp only [kR, Value.category, kCat_q, List.map, List.sum_cons, List.sum_nil]; omega))
    refine ⟨rfl, _, J, hs4, hz, jR_same hJ rfl rfl rfl, Nat.le_succ _, h7, _, fp, fw, fh, a5.keep f7, ⟨?_, ?_, ?_, ?_, ?_, ?_, ?_, ?_⟩, hpA, hwA, hhA⟩
    · rw [upN_ne (by decide), upN_ne (by decide), upN_ne (by decide), upN_ne (by decide)]; exact c0
    · rw [upN_ne (by decide), upN_ne (by decide), upN_ne (by decide), upN_ne (by decide)]; exact c1
    · rw [upN_ne (by decide), upN_ne (by decide), upN_ne (by decide), upN_ne (by decide)]; exact c2
    · rw [upN_ne (by decide), upN_ne (by decide), upN_ne (by decide), upN_ne (by decide)]; exact c3
    · rw [upN_ne (by decide), upN_ne (by decide), upN_ne (by decide), upN_eq]
      show nI sh = nI (cN (nI sh))
      rw [cN_nI (by omega)]
    · rw [upN_ne (by decide), upN_ne (by decide), upN_eq]
      show nI k9 = nI (cN (nI k9))
      rw [hck]
    · rw [upN_ne (by decide), upN_eq]
      show nI a9 = nI (cN (nI a9))
      rw [cN_nI (by omega)]
    · rw [upN_eq]
      show nI b9 = nI (cN (nI b9))
      rw [cN_nI (by omega)]
  · -- well
    clear hw
    subst q
    obtain ⟨pm, hpm⟩ : ∃ pm, pm = y % 200 := ⟨_, rfl⟩
    by_cases hw6 : sWn z = 6
    · refine k_iload B dL_others_15 rfl ?_
      refine k_if_ne B 68 dL_others_17 (by decide) (fun _ => ?_) (fun c9 => absurd c9 (by decide))
      refine k_iload B dL_others_68 rfl ?_
      refine k_iconst B (v := 1) dL_others_70 (by decide) ?_
      refine k_icmp_ne B 158 dL_others_71 (by decide) (fun _ => ?_) (fun c9 => absurd c9 (by decide))
      refine k_iload B dL_others_158 rfl ?_
      refine k_iconst B (v := 2) dL_others_160 (by decide) ?_
      refine k_icmp_ne B 238 dL_others_161 (by decide) (fun _ => ?_) (fun c9 => absurd c9 (by decide))
      refine k_iload B dL_others_238 rfl ?_
      refine k_iconst B (v := 3) dL_others_240 (by decide) ?_
      refine k_icmp_ne B 318 dL_others_241 (by decide) (fun _ => ?_) (fun c9 => absurd c9 (by decide))
      refine k_iload B dL_others_318 rfl ?_
      refine k_iconst B (v := 4) dL_others_320 (by decide) ?_
      refine k_icmp_ne B 430 dL_others_321 (by decide) (fun _ => ?_) (fun c9 => absurd c9 (by decide))
      refine k_iload B dL_others_430 rfl ?_
      refine k_iconst B (v := 5) dL_others_432 (by decide) ?_
      refine k_icmp_ne B 513 dL_others_433 (by decide) (fun _ => ?_) (fun c9 => absurd c9 (by decide))
      refine k_aload_n B dL_others_513 rfl (by first | exact kRf_r _ | exact kRf_q _ | exact kRf_n) ?_
      refine k_iconst B (v := 1) dL_others_514 (by decide) ?_
      refine k_ald B 1 dL_others_515 ha.1 (by rfl) (by first | omega | decide) (by decide) (c1) ?_
      refine k_bipush B (v := 6) dL_others_516 (by decide) ?_
      refine k_icmp_ne B 523 dL_others_518 (by decide) (fun c9 => (c9 (by rw [hw6]; rfl)).elim) (fun _ => ?_)
      refine k_iconst B (v := 1) dL_others_521 (by decide) ?_
      refine k_zret B hr dL_others_522 (by rfl) ?_ (by first | exact Nat.le_of_ble_eq_true rfl | omega | (simp only [kR, Value.category, kCat_q, List.map, List.sum_cons, List.sum_nil]; omega)) (by first | exact Nat.le_of_ble_eq_true rfl | omega | (simp only [kR, Value.category, kCat_q, List.map, List.sum_cons, List.sum_nil]; omega))
      exact ⟨rfl, z, J, hs, hz, hJ, by omega, hW9⟩
    · have hw5 : sWn z < 6 := by omega
      have hp1 : inR (nI pm) 0 10000 := ⟨nI_pos' (by omega), nI_le (b := 10000) (by omega) (by decide)⟩
      have g0 : gWell z (nI k9) (nI pm) = none := by rw [gWell, gCell_p (nI_10 hk), gRg_p hp1, decide_eq_true hw5]; rfl
      have hs2 := ok_well hs g0
      have en : nWell z (nI k9) (nI pm) = (z.1, z.2.1, z.2.2.1, (sWn z + 1, upN (sW z) (sWn z) (k9, pm, 0)), z.2.2.2.2) := by rw [nWell, hck, cN_nI (by omega)]
      refine k_iload B dL_others_15 rfl ?_
      refine k_if_ne B 68 dL_others_17 (by decide) (fun _ => ?_) (fun c9 => absurd c9 (by decide))
      refine k_iload B dL_others_68 rfl ?_
      refine k_iconst B (v := 1) dL_others_70 (by decide) ?_
      refine k_icmp_ne B 158 dL_others_71 (by decide) (fun _ => ?_) (fun c9 => absurd c9 (by decide))
      refine k_iload B dL_others_158 rfl ?_
      refine k_iconst B (v := 2) dL_others_160 (by decide) ?_
      refine k_icmp_ne B 238 dL_others_161 (by decide) (fun _ => ?_) (fun c9 => absurd c9 (by decide))
      refine k_iload B dL_others_238 rfl ?_
      refine k_iconst B (v := 3) dL_others_240 (by decide) ?_
      refine k_icmp_ne B 318 dL_others_241 (by decide) (fun _ => ?_) (fun c9 => absurd c9 (by decide))
      refine k_iload B dL_others_318 rfl ?_
      refine k_iconst B (v := 4) dL_others_320 (by decide) ?_
      refine k_icmp_ne B 430 dL_others_321 (by decide) (fun _ => ?_) (fun c9 => absurd c9 (by decide))
      refine k_iload B dL_others_430 rfl ?_
      refine k_iconst B (v := 5) dL_others_432 (by decide) ?_
      refine k_icmp_ne B 513 dL_others_433 (by decide) (fun _ => ?_) (fun c9 => absurd c9 (by decide))
      refine k_aload_n B dL_others_513 rfl (by first | exact kRf_r _ | exact kRf_q _ | exact kRf_n) ?_
      refine k_iconst B (v := 1) dL_others_514 (by decide) ?_
      refine k_ald B 1 dL_others_515 ha.1 (by rfl) (by first | omega | decide) (by decide) (c1) ?_
      refine k_bipush B (v := 6) dL_others_516 (by decide) ?_
      refine k_icmp_ne B 523 dL_others_518 (by decide) (fun _ => ?_) (fun c9 => absurd c9 (fun q => hw6 ((nI_eq (b := 6) (by omega) (by decide)).mp q)))
      refine k_aload B dL_others_523 rfl (by first | exact kRf_r _ | exact kRf_q _ | exact kRf_n) ?_
      refine k_aload_n B dL_others_525 rfl (by first | exact kRf_r _ | exact kRf_q _ | exact kRf_n) ?_
      refine k_iconst B (v := 1) dL_others_526 (by decide) ?_
      refine k_ald B 1 dL_others_527 ha.1 (by rfl) (by first | omega | decide) (by decide) (c1) ?_
      refine k_iload B dL_others_528 rfl ?_
      refine k_aupG B (sWn z) dL_others_530 ha.2.2.1 (by rfl) (by first | omega | decide) (by decide) (fun s530 ha530 ho530 => ?_)
      have a1 := ha.w ho530 ha530
      have h1 := h.outI ha.2.2.1 ho530
      refine k_aload B dL_others_531 rfl (by first | exact kRf_r _ | exact kRf_q _ | exact kRf_n) ?_
      refine k_bipush B (v := 6) dL_others_533 (by decide) ?_
      refine k_aload_n B dL_others_535 rfl (by first | exact kRf_r _ | exact kRf_q _ | exact kRf_n) ?_
      refine k_iconst B (v := 1) dL_others_536 (by decide) ?_
      refine k_ald B 1 dL_others_537 a1.1 (by rfl) (by first | omega | decide) (by decide) (c1) ?_
      refine k_iadd B dL_others_538 ?_
      refine k_iload_n B dL_others_539 rfl ?_
      refine k_sipush B (v := 200) dL_others_540 (by decide) ?_
      refine k_irem B dL_others_543 (by decide) ?_
      refine kK.rei (y := nI pm) (by rw [hpm]; exact nI_rem (b := 200) (by omega) (by decide) (by decide)) ?_
      refine k_aupG B (6 + sWn z) dL_others_544 a1.2.2.1 (nI_add 6 (sWn z)) (by first | omega | decide) (by decide) (fun s544 ha544 ho544 => ?_)
      have a2 := a1.w ho544 ha544
      have h2 := h1.outI a1.2.2.1 ho544
      refine k_aload B dL_others_545 rfl (by first | exact kRf_r _ | exact kRf_q _ | exact kRf_n) ?_
      refine k_bipush B (v := 12) dL_others_547 (by decide) ?_
      refine k_aload_n B dL_others_549 rfl (by first | exact kRf_r _ | exact kRf_q _ | exact kRf_n) ?_
      refine k_iconst B (v := 1) dL_others_550 (by decide) ?_
      refine k_ald B 1 dL_others_551 a2.1 (by rfl) (by first | omega | decide) (by decide) (c1) ?_
      refine k_iadd B dL_others_552 ?_
      refine k_iconst B (v := 0) dL_others_553 (by decide) ?_
      refine k_aupG B (12 + sWn z) dL_others_554 a2.2.2.1 (nI_add 12 (sWn z)) (by first | omega | decide) (by decide) (fun s554 ha554 ho554 => ?_)
      have a3 := a2.w ho554 ha554
      have h3 := h2.outI a2.2.2.1 ho554
      refine k_aload_n B dL_others_555 rfl (by first | exact kRf_r _ | exact kRf_q _ | exact kRf_n) ?_
      refine k_iconst B (v := 1) dL_others_556 (by decide) ?_
      refine k_dup2 B dL_others_557 rfl rfl ?_
      refine k_ald B 1 dL_others_558 a3.1 (by rfl) (by first | omega | decide) (by decide) (c1) ?_
      refine k_iconst B (v := 1) dL_others_559 (by decide) ?_
      refine k_iadd B dL_others_560 ?_
      refine kK.rei (y := nI (sWn z + 1)) (nI_1 _) ?_
      refine k_aupG B 1 dL_others_561 a3.1 (by rfl) (by first | omega | decide) (by decide) (fun s561 ha561 ho561 => ?_)
      have a4 := a3.c ho561 ha561
      have h4 := h3.outI a3.1 ho561
      refine k_aload_n B dL_others_562 rfl (by first | exact kRf_r _ | exact kRf_q _ | exact kRf_n) ?_
      refine k_iload B dL_others_563 rfl ?_
      refine k_iload_n B dL_others_565 rfl ?_
      refine k_sipush B (v := 200) dL_others_566 (by decide) ?_
      refine k_irem B dL_others_569 (by decide) ?_
      refine kK.rei (y := nI pm) (by rw [hpm]; exact nI_rem (b := 200) (by omega) (by decide) (by decide)) ?_
      refine cl_L_127 B (c_X9_well hl hs h4) (h4.rv.choose_spec) dL_others_570 (by first | exact Nat.le_of_ble_eq_true rfl | omega | (simp only [kR, Value.category, kCat_q, List.map, List.sum_cons, List.sum_nil]; omega)) (by first | exact Nat.le_of_ble_eq_true rfl | omega | (simp only [kR, Value.category, kCat_q, List.map, List.sum_cons, List.sum_nil]; omega)) (by first | exact Nat.le_of_ble_eq_true rfl | omega | (simp only [kR, Value.category, kCat_q, List.map, List.sum_cons, List.sum_nil]; omega)) (by first | exact Nat.le_of_ble_eq_true rfl | omega | (simp only [kR, Value.category, kCat_q, List.map, List.sum_cons, List.sum_nil]; omega)) (by first | exact Nat.le_of_ble_eq_true rfl | omega | (simp only [kR, Value.category, kCat_q, List.map, List.sum_cons, List.sum_nil]; omega)) (noE g0) (fun v570 s570 hp570 => ?_)
      obtain ⟨-, rfl, h5, f5⟩ := hp570
      rw [en] at h5 hs2
      have a5 := a4.keep f5
      refine kK.rev (y := .int (nI (sWn z))) rfl ?_
      refine k_aload_n B dL_others_573 rfl (by first | exact kRf_r _ | exact kRf_q _ | exact kRf_n) ?_
      refine k_iconst B (v := 1) dL_others_574 (by decide) ?_
      refine k_ald B 1 dL_others_575 a5.1 (by rfl) (by first | omega | decide) (by decide) (upN_eq) ?_
      refine k_iconst B (v := 1) dL_others_576 (by decide) ?_
      refine k_isub B dL_others_577 ?_
      refine kK.rei (y := nI (sWn z)) (nI_pred _) ?_
      refine k_icmp_ne B 585 dL_others_578 (by decide) (fun c9 => (c9 (rfl)).elim) (fun _ => ?_)
      refine k_iconst B (v := 1) dL_others_581 (by decide) ?_
      refine k_goto B 586 dL_others_582 (by decide) ?_
      refine k_zret B hr dL_others_586 (by rfl) ?_ (by first | exact Nat.le_of_ble_eq_true rfl | omega | (simp only [kR, Value.category, kCat_q, List.map, List.sum_cons, List.sum_nil]; omega)) (by first | exact Nat.le_of_ble_eq_true rfl | omega | (simp only [kR, Value.category, kCat_q, List.map, List.sum_cons, List.sum_nil]; omega))
      refine ⟨rfl, _, J, hs2, hz, jR_same hJ rfl rfl rfl, Nat.le_succ _, h5, _, fp, _, fh, a5, ⟨?_, ?_, ?_, ?_, ?_, ?_, ?_, ?_⟩, hpA, fun i hi => ?_, hhA⟩
      · rw [upN_ne (by decide)]; exact c0
      · exact upN_eq
      · rw [upN_ne (by decide)]; exact c2
      · rw [upN_ne (by decide)]; exact c3
      · rw [upN_ne (by decide)]; exact c4
      · rw [upN_ne (by decide)]; exact c5
      · rw [upN_ne (by decide)]; exact c6
      · rw [upN_ne (by decide)]; exact c7
      · have hi : i < sWn z + 1 := hi
        show _ = nI (upN (sW z) (sWn z) (k9, pm, 0) i).1 ∧ _ = nI (upN (sW z) (sWn z) (k9, pm, 0) i).2.1 ∧ _ = nI (upN (sW z) (sWn z) (k9, pm, 0) i).2.2
        by_cases q : i = sWn z
        · rw [q, upN_eq, upN_ne (by omega), upN_ne (by omega), upN_eq, upN_ne (by omega), upN_eq, upN_eq]
          exact ⟨rfl, rfl, nI_0.symm⟩
        · obtain ⟨w0, w1, w2⟩ := hwA i (by omega)
          rw [upN_ne (show i ≠ sWn z from q), upN_ne (by omega), upN_ne (by omega), upN_ne (by omega), upN_ne (by omega), upN_ne (by omega), upN_ne (by omega), upN_ne (by omega), upN_ne (by omega), upN_ne (by omega)]
          exact ⟨w0, w1, w2⟩
end Others
