/-! ===== the reference: its small methods ===== -/
section Refs
variable {l : Launch} {D : va_G} {σ : kS}
set_option maxRecDepth 100000 in
theorem c_X10_isIn (hl : l.stackTraces = false) {x lo hi : Int32} : kMh hX10_isIn l D yX10_isIn 1 0 0 [.int x, .int lo, .int hi] σ (fun v s2 => v = some (.int (bI (decide (lo ≤ x ∧ x ≤ hi)))) ∧ s2 = σ) (fun _ => False) := by
  refine kM_of (L := [some (.int x), some (.int lo), some (.int hi)]) (by decide +kernel) hl (List.forall_mem_cons.mpr ⟨rfl, (List.forall_mem_cons.mpr ⟨rfl, (List.forall_mem_cons.mpr ⟨rfl, (fun _ h => absurd h List.not_mem_nil)⟩)⟩)⟩) (Nat.le_of_ble_eq_true rfl) rfl ?_
  intro p e s m args below meth c B hr hex hnm
  have B : kB p l s m args meth c D (kA σ s.heap.size) 3 cX10_isIn RX10 := B
  refine k_iload_n B dX10_isIn_0 rfl ?_
  refine k_iload_n B dX10_isIn_1 rfl ?_
  refine k_icmp_lt B 14 dX10_isIn_2 (by decide) (fun c2 => ?_) (fun c2 => ?_)
  · refine k_iconst B (v := 0) dX10_isIn_14 (by decide) ?_
    refine k_zret B hr dX10_isIn_15 (by rfl) ?_ (by first | exact Nat.le_of_ble_eq_true rfl | omega | (simp only [kR, Value.category, kCat_q, List.map, List.sum_cons, List.sum_nil]; omega)) (by first | exact Nat.le_of_ble_eq_true rfl | omega | (simp only [kR, Value.category, kCat_q, List.map, List.sum_cons, List.sum_nil]; omega))
    exact ⟨by rw [bI_f (by rw [decide_eq_false (fun h => i32_lt_nle c2 h.1)]; decide)], rfl⟩
  · refine k_iload_n B dX10_isIn_5 rfl ?_
    refine k_iload_n B dX10_isIn_6 rfl ?_
    refine k_icmp_gt B 14 dX10_isIn_7 (by decide) (fun c7 => ?_) (fun c7 => ?_)
    · refine k_iconst B (v := 0) dX10_isIn_14 (by decide) ?_
      refine k_zret B hr dX10_isIn_15 (by rfl) ?_ (by first | exact Nat.le_of_ble_eq_true rfl | omega | (simp only [kR, Value.category, kCat_q, List.map, List.sum_cons, List.sum_nil]; omega)) (by first | exact Nat.le_of_ble_eq_true rfl | omega | (simp only [kR, Value.category, kCat_q, List.map, List.sum_cons, List.sum_nil]; omega))
      exact ⟨by rw [bI_f (by rw [decide_eq_false (fun h => i32_lt_nle c7 h.2)]; decide)], rfl⟩
    · refine k_iconst B (v := 1) dX10_isIn_10 (by decide) ?_
      refine k_goto B 15 dX10_isIn_11 (by decide) ?_
      refine k_zret B hr dX10_isIn_15 (by rfl) ?_ (by first | exact Nat.le_of_ble_eq_true rfl | omega | (simp only [kR, Value.category, kCat_q, List.map, List.sum_cons, List.sum_nil]; omega)) (by first | exact Nat.le_of_ble_eq_true rfl | omega | (simp only [kR, Value.category, kCat_q, List.map, List.sum_cons, List.sum_nil]; omega))
      exact ⟨by rw [bI_t (decide_eq_true ⟨i32_nlt c2, i32_nlt c7⟩)], rfl⟩
set_option maxRecDepth 100000 in
theorem c_X10_isCell (hl : l.stackTraces = false) {x : Int32} : kMh hX10_isCell l D yX10_isCell 2 0 0 [.int x] σ (fun v s2 => v = some (.int (bI (decide (0 ≤ x ∧ x ≤ 9)))) ∧ s2 = σ) (fun _ => False) := by
  refine kM_of (L := [some (.int x)]) (by decide +kernel) hl (List.forall_mem_cons.mpr ⟨rfl, (fun _ h => absurd h List.not_mem_nil)⟩) (Nat.le_of_ble_eq_true rfl) rfl ?_
  intro p e s m args below meth c B hr hex hnm
  have B : kB p l s m args meth c D (kA σ s.heap.size) 1 cX10_isCell RX10 := B
  refine k_iload_n B dX10_isCell_0 rfl ?_
  refine k_iconst B (v := 0) dX10_isCell_1 (by decide) ?_
  refine k_bipush B (v := 9) dX10_isCell_2 (by decide) ?_
  refine cl_X10_93 B (c_X10_isIn hl) dX10_isCell_4 (by first | exact Nat.le_of_ble_eq_true rfl | omega | (simp only [kR, Value.category, kCat_q, List.map, List.sum_cons, List.sum_nil]; omega)) (by first | exact Nat.le_of_ble_eq_true rfl | omega | (simp only [kR, Value.category, kCat_q, List.map, List.sum_cons, List.sum_nil]; omega)) (by first | exact Nat.le_of_ble_eq_true rfl | omega | (simp only [kR, Value.category, kCat_q, List.map, List.sum_cons, List.sum_nil]; omega)) (by first | exact Nat.le_of_ble_eq_true rfl | omega | (simp only [kR, Value.category, kCat_q, List.map, List.sum_cons, List.sum_nil]; omega)) (by first | exact Nat.le_of_ble_eq_true rfl | omega | (simp only [kR, Value.category, kCat_q, List.map, List.sum_cons, List.sum_nil]; omega)) (fun _ hx => hx.elim) (fun v4 s4 hp4 => ?_)
  obtain ⟨rfl, e4⟩ := hp4
  rw [e4]
  refine kK.rev (y := .int (bI (decide (0 ≤ x ∧ x ≤ 9)))) rfl ?_
  refine k_zret B hr dX10_isCell_7 (bI_n _) ?_ (by first | exact Nat.le_of_ble_eq_true rfl | omega | (simp only [kR, Value.category, kCat_q, List.map, List.sum_cons, List.sum_nil]; omega)) (by first | exact Nat.le_of_ble_eq_true rfl | omega | (simp only [kR, Value.category, kCat_q, List.map, List.sum_cons, List.sum_nil]; omega))
  exact ⟨rfl, rfl⟩
set_option maxRecDepth 100000 in
theorem c_X10_isCompound (hl : l.stackTraces = false) {x : Int32} : kMh hX10_isCompound l D yX10_isCompound 2 0 0 [.int x] σ (fun v s2 => v = some (.int (bI (decide (0 ≤ x ∧ x ≤ 7)))) ∧ s2 = σ) (fun _ => False) := by
  refine kM_of (L := [some (.int x)]) (by decide +kernel) hl (List.forall_mem_cons.mpr ⟨rfl, (fun _ h => absurd h List.not_mem_nil)⟩) (Nat.le_of_ble_eq_true rfl) rfl ?_
  intro p e s m args below meth c B hr hex hnm
  have B : kB p l s m args meth c D (kA σ s.heap.size) 1 cX10_isCompound RX10 := B
  refine k_iload_n B dX10_isCompound_0 rfl ?_
  refine k_iconst B (v := 0) dX10_isCompound_1 (by decide) ?_
  refine k_bipush B (v := 7) dX10_isCompound_2 (by decide) ?_
  refine cl_X10_93 B (c_X10_isIn hl) dX10_isCompound_4 (by first | exact Nat.le_of_ble_eq_true rfl | omega | (simp only [kR, Value.category, kCat_q, List.map, List.sum_cons, List.sum_nil]; omega)) (by first | exact Nat.le_of_ble_eq_true rfl | omega | (simp only [kR, Value.category, kCat_q, List.map, List.sum_cons, List.sum_nil]; omega)) (by first | exact Nat.le_of_ble_eq_true rfl | omega | (simp only [kR, Value.category, kCat_q, List.map, List.sum_cons, List.sum_nil]; omega)) (by first | exact Nat.le_of_ble_eq_true rfl | omega | (simp only [kR, Value.category, kCat_q, List.map, List.sum_cons, List.sum_nil]; omega)) (by first | exact Nat.le_of_ble_eq_true rfl | omega | (simp only [kR, Value.category, kCat_q, List.map, List.sum_cons, List.sum_nil]; omega)) (fun _ hx => hx.elim) (fun v4 s4 hp4 => ?_)
  obtain ⟨rfl, e4⟩ := hp4
  rw [e4]
  refine kK.rev (y := .int (bI (decide (0 ≤ x ∧ x ≤ 7)))) rfl ?_
  refine k_zret B hr dX10_isCompound_7 (bI_n _) ?_ (by first | exact Nat.le_of_ble_eq_true rfl | omega | (simp only [kR, Value.category, kCat_q, List.map, List.sum_cons, List.sum_nil]; omega)) (by first | exact Nat.le_of_ble_eq_true rfl | omega | (simp only [kR, Value.category, kCat_q, List.map, List.sum_cons, List.sum_nil]; omega))
  exact ⟨rfl, rfl⟩
set_option maxRecDepth 100000 in
theorem c_X10_lotRow (hl : l.stackTraces = false) {x : Nat} : kMh hX10_lotRow l D yX10_lotRow 1 0 0 [.int (nI x)] σ (fun v s2 => v = some (.int (nI (11 + x))) ∧ s2 = σ) (fun _ => False) := by
  refine kM_of (L := [some (.int (nI x))]) (by decide +kernel) hl (List.forall_mem_cons.mpr ⟨rfl, (fun _ h => absurd h List.not_mem_nil)⟩) (Nat.le_of_ble_eq_true rfl) rfl ?_
  intro p e s m args below meth c B hr hex hnm
  have B : kB p l s m args meth c D (kA σ s.heap.size) 1 cX10_lotRow RX10 := B
  refine k_bipush B (v := 11) dX10_lotRow_0 (by decide) ?_
  refine k_iload_n B dX10_lotRow_2 rfl ?_
  refine k_iadd B dX10_lotRow_3 ?_
  refine kK.rei (y := nI (11 + x)) (nI_add 11 x) ?_
  refine k_iret B hr dX10_lotRow_4 ?_ (by first | exact Nat.le_of_ble_eq_true rfl | omega | (simp only [kR, Value.category, kCat_q, List.map, List.sum_cons, List.sum_nil]; omega)) (by first | exact Nat.le_of_ble_eq_true rfl | omega | (simp only [kR, Value.category, kCat_q, List.map, List.sum_cons, List.sum_nil]; omega))
  exact ⟨rfl, rfl⟩
end Refs
