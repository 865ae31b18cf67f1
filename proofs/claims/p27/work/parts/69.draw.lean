/-! ===== a number of the script ===== -/
theorem and_max (v : Int32) : ∃ q, q < 2 ^ 31 ∧ v &&& 2147483647 = nI q := by
  refine nI_of (fun h => ?_)
  rw [Int32.lt_iff_toInt_lt] at h
  have h1 : (v &&& 2147483647).toBitVec.msb = false := by
    rw [Int32.toBitVec_and, BitVec.msb_and, show (2147483647 : Int32).toBitVec.msb = false by decide, Bool.and_false]
  have h2 := BitVec.toInt_nonneg_of_msb_false h1
  have h3 : (v &&& 2147483647).toInt = (v &&& 2147483647).toBitVec.toInt := rfl
  rw [h3, show (0 : Int32).toInt = 0 from rfl] at h
  omega
theorem e30 : (1073741824 : Int32) = nI 1073741824 := by decide +kernel
theorem nI_remC {a b : Nat} {c9 : Int32} (hc : c9 = nI b) (ha : a < 2 ^ 31) (hb : 1 ≤ b) (hb2 : b < 2 ^ 31) : nI a - nI a / c9 * c9 = nI (a % b) := by
  rw [hc]; exact nI_rem ha hb hb2
theorem ne30 : ¬ (1073741824 : Int32) = 0 := by decide +kernel
section Draw
variable {l : Launch} {D : va_G} {σ : kS} {b9 N9 : Nat} {xs9 : Nat → Int32}
set_option maxRecDepth 100000 in
theorem c_L_draw (hl : l.stackTraces = false) (hN : N9 ≤ 260) {k9 : Nat} (hk : k9 < 1000) : kMx hL_draw l D b9 N9 xs9 yL_draw 1 0 0 [.ref b9, .int (nI k9), .int 1073741824] σ (fun v s2 => (∃ r, r < 1073741824 ∧ v = some (.int (nI r))) ∧ s2 = σ) (fun _ => False) := by
  refine kM_ofS (L := [some (.ref b9), some (.int (nI k9)), some (.int 1073741824), none]) (by decide +kernel) hl (List.forall_mem_cons.mpr ⟨rfl, (List.forall_mem_cons.mpr ⟨rfl, (List.forall_mem_cons.mpr ⟨rfl, (fun _ h => absurd h List.not_mem_nil)⟩)⟩)⟩) (Nat.le_of_ble_eq_true rfl) rfl ?_
  intro p e s m args below meth c B hr hex hnm hX hbl hbA
  have B : kB p l s m args meth c D (kA σ s.heap.size) 4 cL_draw RL := B
  have tail : ∀ v9 : Int32, kK p l e (kR 1 0 0) s m args below meth c D (kA σ s.heap.size) 4 (kQ below args s D σ (fun v s2 => (∃ r, r < 1073741824 ∧ v = some (.int (nI r))) ∧ s2 = σ) (fun _ => False) 0 0) σ 0 0 23 [some (.ref b9), some (.int (nI k9)), some (.int 1073741824), none] [.int v9] := by
    intro v9
    obtain ⟨q, hq, eq⟩ := and_max v9
    refine k_istore_n B dL_draw_23 (by decide) ?_
    try refine kK.set1 (by first | exact True.intro | rfl | exact kCat_q _) ?_
    refine k_iload_n B dL_draw_24 rfl ?_
    refine k_ldc B qw212 dL_draw_25 ?_
    refine k_iand B dL_draw_27 ?_
    refine kK.rei (y := nI q) (eq) ?_
    refine k_iload_n B dL_draw_28 rfl ?_
    refine k_irem B dL_draw_29 ne30 ?_
    refine kK.rei (y := nI (q % 1073741824)) (nI_remC e30 hq (Nat.le_of_ble_eq_true rfl) (Nat.le_of_ble_eq_true rfl)) ?_
    refine k_iret B hr dL_draw_30 ?_ (by first | exact Nat.le_of_ble_eq_true rfl | omega | (simp only [kR, Value.category, kCat_q, List.map, List.sum_cons, List.sum_nil]; omega)) (by first | exact Nat.le_of_ble_eq_true rfl | omega | (simp only [kR, Value.category, kCat_q, List.map, List.sum_cons, List.sum_nil]; omega))
    exact ⟨⟨_, Nat.mod_lt _ (Nat.le_of_ble_eq_true rfl), rfl⟩, rfl⟩
  refine k_iload_n B dL_draw_0 rfl ?_
  refine k_aload_n B dL_draw_1 rfl (by first | exact kRf_r _ | exact kRf_q _ | exact kRf_n) ?_
  refine k_slen B hX hbl hbA dL_draw_2 ?_
  refine k_icmp_ge B 12 dL_draw_3 (by decide) (fun c3 => ?_) (fun c3 => ?_)
  · refine k_ldc B qw210 dL_draw_12 ?_
    refine k_iload_n B dL_draw_14 rfl ?_
    refine k_sipush B (v := 1109) dL_draw_15 (by decide) ?_
    refine k_iadd B dL_draw_18 ?_
    refine k_imul B dL_draw_19 ?_
    refine k_ldc B qw211 dL_draw_20 ?_
    refine k_iadd B dL_draw_22 ?_
    exact tail _
  · have hlt : k9 < N9 := (nI_ltI (by omega) (by omega)).mp (Int32.not_le.mp c3)
    refine k_aload_n B dL_draw_6 rfl (by first | exact kRf_r _ | exact kRf_q _ | exact kRf_n) ?_
    refine k_iload_n B dL_draw_7 rfl ?_
    refine k_sld B hX hbl hbA (vp_in_nI hlt (by omega)) dL_draw_8 ?_
    refine k_goto B 23 dL_draw_9 (by decide) ?_
    exact tail _
end Draw
