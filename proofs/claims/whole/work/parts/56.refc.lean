def setT (q : kQc) (t : Int32) : kQc := (q.1, q.2.1, t)
section RefC
variable {l : Launch} {D : va_G} {σ : kS} {aM : Nat} {ma : Nat → Nat} {mv : Nat → Nat → Int32} {q : kQc}
set_option maxRecDepth 100000 in
theorem c_X10_thrown (hl : l.stackTraces = false) (h : mI D aM ma mv q σ) : kMh hX10_thrown l D yX10_thrown 1 0 0 [.ref aM] σ (fun v s2 => v = some (.int q.2.2) ∧ s2 = σ) (fun _ => False) := by
  refine kM_of (L := [some (.ref aM)]) (by decide +kernel) hl (List.forall_mem_cons.mpr ⟨rfl, (fun _ h => absurd h List.not_mem_nil)⟩) (Nat.le_of_ble_eq_true rfl) rfl ?_
  intro p e s m args below meth c B hr hex hnm
  have B : kB p l s m args meth c D (kA σ s.heap.size) 1 cX10_thrown RX10 := B
  refine k_aload_n B dX10_thrown_0 rfl (by first | exact kRf_r _ | exact kRf_q _ | exact kRf_n) ?_
  refine gf_X10_90 B dX10_thrown_1 h.o rfl ?_
  refine k_iret B hr dX10_thrown_4 ?_ (by first | exact Nat.le_of_ble_eq_true rfl | omega | (simp only [kR, Value.category, kCat_q, List.map, List.sum_cons, List.sum_nil]; omega)) (by first | exact Nat.le_of_ble_eq_true rfl | omega | (simp only [kR, Value.category, kCat_q, List.map, List.sum_cons, List.sum_nil]; omega))
  exact ⟨rfl, rfl⟩
set_option maxRecDepth 100000 in
theorem c_X10_can (hl : l.stackTraces = false) (h : mI D aM ma mv q σ) {t : Int32} : kMh hX10_can l D yX10_can 1 0 0 [.ref aM, .int t] σ (fun v s2 => v = some (.int (bI (decide (t = 0)))) ∧ s2 = kUp σ aM (m10E ma (setT q t))) (fun _ => False) := by
  refine kM_of (L := [some (.ref aM), some (.int t)]) (by decide +kernel) hl (List.forall_mem_cons.mpr ⟨rfl, (List.forall_mem_cons.mpr ⟨rfl, (fun _ h => absurd h List.not_mem_nil)⟩)⟩) (Nat.le_of_ble_eq_true rfl) rfl ?_
  intro p e s m args below meth c B hr hex hnm
  have B : kB p l s m args meth c D (kA σ s.heap.size) 2 cX10_can RX10 := B
  refine k_aload_n B dX10_can_0 rfl (by first | exact kRf_r _ | exact kRf_q _ | exact kRf_n) ?_
  refine k_iload_n B dX10_can_1 rfl ?_
  refine pf_X10_90 B dX10_can_2 h.o rfl ?_
  refine k_iload_n B dX10_can_5 rfl ?_
  refine k_if_ne B 13 dX10_can_6 (by decide) (fun c6 => ?_) (fun c6 => ?_)
  · rename_i c6
    refine k_iconst B (v := 0) dX10_can_13 (by decide) ?_
    refine k_zret B hr dX10_can_14 (by rfl) ?_ (by first | exact Nat.le_of_ble_eq_true rfl | omega | (simp only [kR, Value.category, kCat_q, List.map, List.sum_cons, List.sum_nil]; omega)) (by first | exact Nat.le_of_ble_eq_true rfl | omega | (simp only [kR, Value.category, kCat_q, List.map, List.sum_cons, List.sum_nil]; omega))
    exact ⟨by rw [bI_f (by rw [decide_eq_false c6]; decide)], rfl⟩
  · rename_i c6
    refine k_iconst B (v := 1) dX10_can_9 (by decide) ?_
    refine k_goto B 14 dX10_can_10 (by decide) ?_
    refine k_zret B hr dX10_can_14 (by rfl) ?_ (by first | exact Nat.le_of_ble_eq_true rfl | omega | (simp only [kR, Value.category, kCat_q, List.map, List.sum_cons, List.sum_nil]; omega)) (by first | exact Nat.le_of_ble_eq_true rfl | omega | (simp only [kR, Value.category, kCat_q, List.map, List.sum_cons, List.sum_nil]; omega))
    exact ⟨by rw [bI_t (decide_eq_true c6)], rfl⟩
set_option maxRecDepth 100000 in
theorem c_X10_isWell (hl : l.stackTraces = false) (h : mI D aM ma mv q σ) {x : Int32} : kMh hX10_isWell l D yX10_isWell 2 0 0 [.ref aM, .int x] σ (fun v s2 => v = some (.int (bI (decide (0 ≤ x ∧ x ≤ q.1.2.2.1 - 1)))) ∧ s2 = σ) (fun _ => False) := by
  refine kM_of (L := [some (.ref aM), some (.int x)]) (by decide +kernel) hl (List.forall_mem_cons.mpr ⟨rfl, (List.forall_mem_cons.mpr ⟨rfl, (fun _ h => absurd h List.not_mem_nil)⟩)⟩) (Nat.le_of_ble_eq_true rfl) rfl ?_
  intro p e s m args below meth c B hr hex hnm
  have B : kB p l s m args meth c D (kA σ s.heap.size) 2 cX10_isWell RX10 := B
  refine k_iload_n B dX10_isWell_0 rfl ?_
  refine k_iconst B (v := 0) dX10_isWell_1 (by decide) ?_
  refine k_aload_n B dX10_isWell_2 rfl (by first | exact kRf_r _ | exact kRf_q _ | exact kRf_n) ?_
  refine gf_X10_97 B dX10_isWell_3 h.o rfl ?_
  refine k_iconst B (v := 1) dX10_isWell_6 (by decide) ?_
  refine k_isub B dX10_isWell_7 ?_
  refine cl_X10_93 B (c_X10_isIn hl) dX10_isWell_8 (by first | exact Nat.le_of_ble_eq_true rfl | omega | (simp only [kR, Value.category, kCat_q, List.map, List.sum_cons, List.sum_nil]; omega)) (by first | exact Nat.le_of_ble_eq_true rfl | omega | (simp only [kR, Value.category, kCat_q, List.map, List.sum_cons, List.sum_nil]; omega)) (by first | exact Nat.le_of_ble_eq_true rfl | omega | (simp only [kR, Value.category, kCat_q, List.map, List.sum_cons, List.sum_nil]; omega)) (by first | exact Nat.le_of_ble_eq_true rfl | omega | (simp only [kR, Value.category, kCat_q, List.map, List.sum_cons, List.sum_nil]; omega)) (by first | exact Nat.le_of_ble_eq_true rfl | omega | (simp only [kR, Value.category, kCat_q, List.map, List.sum_cons, List.sum_nil]; omega)) (fun _ hx => hx.elim) (fun v8 s8 hp8 => ?_)
  obtain ⟨rfl, e8⟩ := hp8
  rw [e8]
  refine kK.rev (y := .int (bI (decide (0 ≤ x ∧ x ≤ q.1.2.2.1 - 1)))) rfl ?_
  refine k_zret B hr dX10_isWell_11 (bI_n _) ?_ (by first | exact Nat.le_of_ble_eq_true rfl | omega | (simp only [kR, Value.category, kCat_q, List.map, List.sum_cons, List.sum_nil]; omega)) (by first | exact Nat.le_of_ble_eq_true rfl | omega | (simp only [kR, Value.category, kCat_q, List.map, List.sum_cons, List.sum_nil]; omega))
  exact ⟨rfl, rfl⟩
set_option maxRecDepth 100000 in
theorem c_X10_isLot (hl : l.stackTraces = false) (h : mI D aM ma mv q σ) {x : Int32} : kMh hX10_isLot l D yX10_isLot 2 0 0 [.ref aM, .int x] σ (fun v s2 => v = some (.int (bI (decide (0 ≤ x ∧ x ≤ q.1.2.2.2.2.2.2.2.1 - 1)))) ∧ s2 = σ) (fun _ => False) := by
  refine kM_of (L := [some (.ref aM), some (.int x)]) (by decide +kernel) hl (List.forall_mem_cons.mpr ⟨rfl, (List.forall_mem_cons.mpr ⟨rfl, (fun _ h => absurd h List.not_mem_nil)⟩)⟩) (Nat.le_of_ble_eq_true rfl) rfl ?_
  intro p e s m args below meth c B hr hex hnm
  have B : kB p l s m args meth c D (kA σ s.heap.size) 2 cX10_isLot RX10 := B
  refine k_iload_n B dX10_isLot_0 rfl ?_
  refine k_iconst B (v := 0) dX10_isLot_1 (by decide) ?_
  refine k_aload_n B dX10_isLot_2 rfl (by first | exact kRf_r _ | exact kRf_q _ | exact kRf_n) ?_
  refine gf_X10_100 B dX10_isLot_3 h.o rfl ?_
  refine k_iconst B (v := 1) dX10_isLot_6 (by decide) ?_
  refine k_isub B dX10_isLot_7 ?_
  refine cl_X10_93 B (c_X10_isIn hl) dX10_isLot_8 (by first | exact Nat.le_of_ble_eq_true rfl | omega | (simp only [kR, Value.category, kCat_q, List.map, List.sum_cons, List.sum_nil]; omega)) (by first | exact Nat.le_of_ble_eq_true rfl | omega | (simp only [kR, Value.category, kCat_q, List.map, List.sum_cons, List.sum_nil]; omega)) (by first | exact Nat.le_of_ble_eq_true rfl | omega | (simp only [kR, Value.category, kCat_q, List.map, List.sum_cons, List.sum_nil]; omega)) (by first | exact Nat.le_of_ble_eq_true rfl | omega | (simp only [kR, Value.category, kCat_q, List.map, List.sum_cons, List.sum_nil]; omega)) (by first | exact Nat.le_of_ble_eq_true rfl | omega | (simp only [kR, Value.category, kCat_q, List.map, List.sum_cons, List.sum_nil]; omega)) (fun _ hx => hx.elim) (fun v8 s8 hp8 => ?_)
  obtain ⟨rfl, e8⟩ := hp8
  rw [e8]
  refine kK.rev (y := .int (bI (decide (0 ≤ x ∧ x ≤ q.1.2.2.2.2.2.2.2.1 - 1)))) rfl ?_
  refine k_zret B hr dX10_isLot_11 (bI_n _) ?_ (by first | exact Nat.le_of_ble_eq_true rfl | omega | (simp only [kR, Value.category, kCat_q, List.map, List.sum_cons, List.sum_nil]; omega)) (by first | exact Nat.le_of_ble_eq_true rfl | omega | (simp only [kR, Value.category, kCat_q, List.map, List.sum_cons, List.sum_nil]; omega))
  exact ⟨rfl, rfl⟩
end RefC
