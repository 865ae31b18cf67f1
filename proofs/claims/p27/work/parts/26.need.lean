def eI : String := "java/lang/IndexOutOfBoundsException"
def eA : String := "java/lang/IllegalArgumentException"
def eS : String := "java/lang/IllegalStateException"
theorem fitNm : ∀ n ∈ ["java/lang/RuntimeException", "java/lang/Exception"], Bundle.fit n = true := by decide +kernel
def inR (x lo hi : Int32) : Prop := lo ≤ x ∧ x ≤ hi
section Need
variable {l : Launch} {D : va_G} {σ : kS}
set_option maxRecDepth 100000 in
theorem c_X9_needIndex (hl : l.stackTraces = false) {i n9 : Int32} : kMh hX9_needIndex l D yX9_needIndex 6 1 6 [.int i, .int n9] σ (fun v s2 => v = none ∧ s2 = σ ∧ 0 ≤ i ∧ i < n9) (fun E => E = eI ∧ ¬ (0 ≤ i ∧ i < n9)) := by
  refine kM_of (L := [some (.int i), some (.int n9)]) (by decide +kernel) hl (List.forall_mem_cons.mpr ⟨rfl, (List.forall_mem_cons.mpr ⟨rfl, (fun _ h => absurd h List.not_mem_nil)⟩)⟩) (Nat.le_of_ble_eq_true rfl) rfl ?_
  intro p e s m args below meth c B hr hex hnm
  have B : kB p l s m args meth c D (kA σ s.heap.size) 2 cX9_needIndex RX9 := B
  have thr : ¬ (0 ≤ i ∧ i < n9) → kK p l e (kR 6 1 6) s m args below meth c D (kA σ s.heap.size) 2 (kQ below args s D σ (fun v s2 => v = none ∧ s2 = σ ∧ 0 ≤ i ∧ i < n9) (fun E => E = eI ∧ ¬ (0 ≤ i ∧ i < n9)) 1 6) σ 0 0 9 [some (.int i), some (.int n9)] [] := fun h =>
    k_throw (cls := "java/lang/IndexOutOfBoundsException") B hex (by decide +kernel) fitNm (by decide +kernel) (by decide +kernel) B.2.2.2.2.2.2.2.1.2.2.1 inTx1 ngTx1 otTx1 dX9_needIndex_9 dX9_needIndex_12 dX9_needIndex_13 dX9_needIndex_16 dX9_needIndex_19 (by decide) (by decide) (by decide) (by decide) ⟨rfl, h⟩ (by decide) (by decide)
  refine k_iload_n B dX9_needIndex_0 rfl ?_
  refine k_if_lt B 9 dX9_needIndex_1 (by decide) (fun c1 => ?_) (fun c1 => ?_)
  · exact thr (fun h => i32_lt_nle c1 h.1)
  · refine k_iload_n B dX9_needIndex_4 rfl ?_
    refine k_iload_n B dX9_needIndex_5 rfl ?_
    refine k_icmp_lt B 20 dX9_needIndex_6 (by decide) (fun c6 => ?_) (fun c6 => ?_)
    · refine k_vret B hr dX9_needIndex_20 ?_ (by first | exact Nat.le_of_ble_eq_true rfl | omega | (simp only [kR, Value.category, kCat_q, List.map, List.sum_cons, List.sum_nil]; omega)) (by first | exact Nat.le_of_ble_eq_true rfl | omega | (simp only [kR, Value.category, kCat_q, List.map, List.sum_cons, List.sum_nil]; omega))
      exact ⟨rfl, rfl, i32_nlt c1, c6⟩
    · exact thr (fun h => c6 h.2)
set_option maxRecDepth 100000 in
theorem c_X9_needArgument (hl : l.stackTraces = false) {b : Int32} : kMh hX9_needArgument l D yX9_needArgument 6 1 6 [.int b] σ (fun v s2 => v = none ∧ s2 = σ ∧ ¬ b = 0) (fun E => E = eA ∧ b = 0) := by
  refine kM_of (L := [some (.int b)]) (by decide +kernel) hl (List.forall_mem_cons.mpr ⟨rfl, (fun _ h => absurd h List.not_mem_nil)⟩) (Nat.le_of_ble_eq_true rfl) rfl ?_
  intro p e s m args below meth c B hr hex hnm
  have B : kB p l s m args meth c D (kA σ s.heap.size) 1 cX9_needArgument RX9 := B
  refine k_iload_n B dX9_needArgument_0 rfl ?_
  refine k_if_ne B 15 dX9_needArgument_1 (by decide) (fun c1 => ?_) (fun c1 => ?_)
  · refine k_vret B hr dX9_needArgument_15 ?_ (by first | exact Nat.le_of_ble_eq_true rfl | omega | (simp only [kR, Value.category, kCat_q, List.map, List.sum_cons, List.sum_nil]; omega)) (by first | exact Nat.le_of_ble_eq_true rfl | omega | (simp only [kR, Value.category, kCat_q, List.map, List.sum_cons, List.sum_nil]; omega))
    exact ⟨rfl, rfl, c1⟩
  · exact k_throw (cls := "java/lang/IllegalArgumentException") B hex (by decide +kernel) fitNm (by decide +kernel) (by decide +kernel) B.2.2.2.2.2.2.2.1.2.2.2.1 inTx2 ngTx2 otTx2 dX9_needArgument_4 dX9_needArgument_7 dX9_needArgument_8 dX9_needArgument_11 dX9_needArgument_14 (by decide) (by decide) (by decide) (by decide) ⟨rfl, c1⟩ (by decide) (by decide)
set_option maxRecDepth 100000 in
theorem c_X9_needState (hl : l.stackTraces = false) {b : Int32} : kMh hX9_needState l D yX9_needState 6 1 6 [.int b] σ (fun v s2 => v = none ∧ s2 = σ ∧ ¬ b = 0) (fun E => E = eS ∧ b = 0) := by
  refine kM_of (L := [some (.int b)]) (by decide +kernel) hl (List.forall_mem_cons.mpr ⟨rfl, (fun _ h => absurd h List.not_mem_nil)⟩) (Nat.le_of_ble_eq_true rfl) rfl ?_
  intro p e s m args below meth c B hr hex hnm
  have B : kB p l s m args meth c D (kA σ s.heap.size) 1 cX9_needState RX9 := B
  refine k_iload_n B dX9_needState_0 rfl ?_
  refine k_if_ne B 15 dX9_needState_1 (by decide) (fun c1 => ?_) (fun c1 => ?_)
  · refine k_vret B hr dX9_needState_15 ?_ (by first | exact Nat.le_of_ble_eq_true rfl | omega | (simp only [kR, Value.category, kCat_q, List.map, List.sum_cons, List.sum_nil]; omega)) (by first | exact Nat.le_of_ble_eq_true rfl | omega | (simp only [kR, Value.category, kCat_q, List.map, List.sum_cons, List.sum_nil]; omega))
    exact ⟨rfl, rfl, c1⟩
  · exact k_throw (cls := "java/lang/IllegalStateException") B hex (by decide +kernel) fitNm (by decide +kernel) (by decide +kernel) B.2.2.2.2.2.2.2.1.2.2.2.2.1 inTx3 ngTx3 otTx3 dX9_needState_4 dX9_needState_7 dX9_needState_8 dX9_needState_11 dX9_needState_14 (by decide) (by decide) (by decide) (by decide) ⟨rfl, c1⟩ (by decide) (by decide)
set_option maxRecDepth 100000 in
theorem c_X9_needRange (hl : l.stackTraces = false) {x lo hi : Int32} : kMh hX9_needRange l D yX9_needRange 7 1 6 [.int x, .int lo, .int hi] σ (fun v s2 => v = none ∧ s2 = σ ∧ inR x lo hi) (fun E => E = eA ∧ ¬ inR x lo hi) := by
  refine kM_of (L := [some (.int x), some (.int lo), some (.int hi)]) (by decide +kernel) hl (List.forall_mem_cons.mpr ⟨rfl, (List.forall_mem_cons.mpr ⟨rfl, (List.forall_mem_cons.mpr ⟨rfl, (fun _ h => absurd h List.not_mem_nil)⟩)⟩)⟩) (Nat.le_of_ble_eq_true rfl) rfl ?_
  intro p e s m args below meth c B hr hex hnm
  have B : kB p l s m args meth c D (kA σ s.heap.size) 3 cX9_needRange RX9 := B
  have bad : ¬ inR x lo hi → kK p l e (kR 7 1 6) s m args below meth c D (kA σ s.heap.size) 3 (kQ below args s D σ (fun v s2 => v = none ∧ s2 = σ ∧ inR x lo hi) (fun E => E = eA ∧ ¬ inR x lo hi) 1 6) σ 0 0 14 [some (.int x), some (.int lo), some (.int hi)] [] := by
    intro h
    refine k_iconst B (v := 0) dX9_needRange_14 (by decide) ?_
    refine cl_X9_73 B (c_X9_needArgument hl) dX9_needRange_15 (by first | exact Nat.le_of_ble_eq_true rfl | omega | (simp only [kR, Value.category, kCat_q, List.map, List.sum_cons, List.sum_nil]; omega)) (by first | exact Nat.le_of_ble_eq_true rfl | omega | (simp only [kR, Value.category, kCat_q, List.map, List.sum_cons, List.sum_nil]; omega)) (by first | exact Nat.le_of_ble_eq_true rfl | omega | (simp only [kR, Value.category, kCat_q, List.map, List.sum_cons, List.sum_nil]; omega)) (by first | exact Nat.le_of_ble_eq_true rfl | omega | (simp only [kR, Value.category, kCat_q, List.map, List.sum_cons, List.sum_nil]; omega)) (by first | exact Nat.le_of_ble_eq_true rfl | omega | (simp only [kR, Value.category, kCat_q, List.map, List.sum_cons, List.sum_nil]; omega)) (fun E hE => k_xout B hex (fun _ _ h => h) ⟨hE.1, h⟩ (by decide) (by decide)) (fun v15 s15 hp15 => ?_)
    exact absurd rfl hp15.2.2
  refine k_iload_n B dX9_needRange_0 rfl ?_
  refine k_iload_n B dX9_needRange_1 rfl ?_
  refine k_icmp_lt B 14 dX9_needRange_2 (by decide) (fun c2 => ?_) (fun c2 => ?_)
  · exact bad (fun h => i32_lt_nle c2 h.1)
  · refine k_iload_n B dX9_needRange_5 rfl ?_
    refine k_iload_n B dX9_needRange_6 rfl ?_
    refine k_icmp_gt B 14 dX9_needRange_7 (by decide) (fun c7 => ?_) (fun c7 => ?_)
    · exact bad (fun h => i32_lt_nle c7 h.2)
    · refine k_iconst B (v := 1) dX9_needRange_10 (by decide) ?_
      refine k_goto B 15 dX9_needRange_11 (by decide) ?_
      refine cl_X9_73 B (c_X9_needArgument hl) dX9_needRange_15 (by first | exact Nat.le_of_ble_eq_true rfl | omega | (simp only [kR, Value.category, kCat_q, List.map, List.sum_cons, List.sum_nil]; omega)) (by first | exact Nat.le_of_ble_eq_true rfl | omega | (simp only [kR, Value.category, kCat_q, List.map, List.sum_cons, List.sum_nil]; omega)) (by first | exact Nat.le_of_ble_eq_true rfl | omega | (simp only [kR, Value.category, kCat_q, List.map, List.sum_cons, List.sum_nil]; omega)) (by first | exact Nat.le_of_ble_eq_true rfl | omega | (simp only [kR, Value.category, kCat_q, List.map, List.sum_cons, List.sum_nil]; omega)) (by first | exact Nat.le_of_ble_eq_true rfl | omega | (simp only [kR, Value.category, kCat_q, List.map, List.sum_cons, List.sum_nil]; omega)) (fun E hE => absurd hE.2 (by decide)) (fun v15 s15 hp15 => ?_)
      obtain ⟨rfl, rfl, -⟩ := hp15
      refine k_vret B hr dX9_needRange_18 ?_ (by first | exact Nat.le_of_ble_eq_true rfl | omega | (simp only [kR, Value.category, kCat_q, List.map, List.sum_cons, List.sum_nil]; omega)) (by first | exact Nat.le_of_ble_eq_true rfl | omega | (simp only [kR, Value.category, kCat_q, List.map, List.sum_cons, List.sum_nil]; omega))
      exact ⟨rfl, rfl, i32_nlt c2, i32_nlt c7⟩
end Need
