/-! ===== the reference's rows: lists of knots ===== -/
def knC (mv : Nat → Nat → Int32) (j : Nat) (p : kP) : Prop := mv 13 j = nI p.1 ∧ mv 14 j = nI p.2.1 ∧ mv 15 j = nI p.2.2.1 ∧ mv 16 j = p.2.2.2.1 ∧ mv 12 j = nI p.2.2.2.2
def knS (mv : Nat → Nat → Int32) : kPs → Prop
  | [] => True
  | (j, p) :: t => mv 11 j = ldI (hdA t) ∧ knC mv j p ∧ knS mv t
/-- a row's list -/
def knR (mv : Nat → Nat → Int32) (r : Nat) (L : kPs) : Prop := mv 7 r = ldI (hdA L) ∧ mv 8 r = ldI (lsA L) ∧ mv 9 r = nI (unS (kCon L)) ∧ knS mv L
theorem ldI_no {j : Nat} (h : j < 2 ^ 31) : ¬ ldI (some j) = -1 := fun q => nI_pos h (by
  have q : nI j = -1 := q
  rw [q]; decide)
section Knot
variable {l : Launch} {D : va_G} {σ : kS} {aM : Nat} {ma : Nat → Nat} {mv : Nat → Nat → Int32} {q : kQc}
set_option maxRecDepth 100000 in
theorem c_X10_compoundsOf (hl : l.stackTraces = false) (h : mI D aM ma mv q σ) {r : Nat} {L : kPs} (hr5 : r < 51) (hL : knR mv r L) (hk : ∀ a ∈ adr L, a < 6200) : kMh hX10_compoundsOf l D yX10_compoundsOf 1 0 0 [.ref aM, .int (nI r)] σ (fun v s2 => v = some (.int (coS (kCon L) 0)) ∧ s2 = σ) (fun _ => False) := by
  refine kM_of (L := [some (.ref aM), some (.int (nI r)), none, none]) (by decide +kernel) hl (List.forall_mem_cons.mpr ⟨rfl, (List.forall_mem_cons.mpr ⟨rfl, (fun _ h => absurd h List.not_mem_nil)⟩)⟩) (Nat.le_of_ble_eq_true rfl) rfl ?_
  intro p e s m args below meth c B hr hex hnm
  have B : kB p l s m args meth c D (kA σ s.heap.size) 4 cX10_compoundsOf RX10 := B
  have loop : ∀ (T : kPs) (x : Int32), knS mv T → (∀ a ∈ adr T, a < 6200) → coS (kCon T) x = coS (kCon L) 0 → kK p l e (kR 1 0 0) s m args below meth c D (kA σ s.heap.size) 4 (kQ below args s D σ (fun v s2 => v = some (.int (coS (kCon L) 0)) ∧ s2 = σ) (fun _ => False) 0 0) σ 0 0 9 [some (.ref aM), some (.int (nI r)), some (.int x), some (.int (ldI (hdA T)))] [] := by
    intro T
    induction T with
    | nil =>
      intro x h1 h2 h3
      refine k_iload_n B dX10_compoundsOf_9 rfl ?_
      refine k_iconst B (v := (-1)) dX10_compoundsOf_10 (by decide) ?_
      refine k_icmp_eq B 33 dX10_compoundsOf_11 (by decide) (fun c11 => ?_) (fun c11 => ?_)
      · refine k_iload_n B dX10_compoundsOf_33 rfl ?_
        refine k_iret B hr dX10_compoundsOf_34 ?_ (by first | exact Nat.le_of_ble_eq_true rfl | omega | (simp only [kR, Value.category, kCat_q, List.map, List.sum_cons, List.sum_nil]; omega)) (by first | exact Nat.le_of_ble_eq_true rfl | omega | (simp only [kR, Value.category, kCat_q, List.map, List.sum_cons, List.sum_nil]; omega))
        exact ⟨by rw [← h3]; rfl, rfl⟩
      · exact absurd rfl c11
    | cons b t ih =>
      obtain ⟨j, pp⟩ := b
      intro x h1 h2 h3
      have hj : j < 6200 := h2 j (by simp [adr])
      refine k_iload_n B dX10_compoundsOf_9 rfl ?_
      refine k_iconst B (v := (-1)) dX10_compoundsOf_10 (by decide) ?_
      refine k_icmp_eq B 33 dX10_compoundsOf_11 (by decide) (fun c11 => ?_) (fun c11 => ?_)
      · rename_i c11
        exact absurd c11 (ldI_no (by omega))
      · refine kK.sub (L2 := [some (.ref aM), some (.int (nI r)), some (.int x), some (.int (nI j))]) ⟨Or.inr rfl, Or.inr rfl, Or.inr rfl, Or.inr rfl, trivial⟩ ?_
        refine k_iload_n B dX10_compoundsOf_14 rfl ?_
        refine k_aload_n B dX10_compoundsOf_15 rfl (by first | exact kRf_r _ | exact kRf_q _ | exact kRf_n) ?_
        refine gf_X10_52 B dX10_compoundsOf_16 h.o rfl ?_
        refine k_iload_n B dX10_compoundsOf_19 rfl ?_
        refine k_iald B dX10_compoundsOf_20 (h.i (k := 16) rfl (by decide)) (vp_in_nI hj (by decide)) ?_
        refine kK.rei (y := pp.2.2.2.1) (by rw [nI_clamp (by omega)]; exact h1.2.1.2.2.2.1) ?_
        refine k_ior B dX10_compoundsOf_21 ?_
        refine k_istore_n B dX10_compoundsOf_22 (by decide) ?_
        try refine kK.set1 (by first | exact True.intro | rfl | exact kCat_q _) ?_
        refine k_aload_n B dX10_compoundsOf_23 rfl (by first | exact kRf_r _ | exact kRf_q _ | exact kRf_n) ?_
        refine gf_X10_37 B dX10_compoundsOf_24 h.o rfl ?_
        refine k_iload_n B dX10_compoundsOf_27 rfl ?_
        refine k_iald B dX10_compoundsOf_28 (h.i (k := 11) rfl (by decide)) (vp_in_nI hj (by decide)) ?_
        refine kK.rei (y := ldI (hdA t)) (by rw [nI_clamp (by omega)]; exact h1.1) ?_
        refine k_istore_n B dX10_compoundsOf_29 (by decide) ?_
        try refine kK.set1 (by first | exact True.intro | rfl | exact kCat_q _) ?_
        refine k_goto B 9 dX10_compoundsOf_30 (by decide) ?_
        exact ih _ h1.2.2 (fun a ha => h2 a (by simp only [adr, List.map_cons, List.mem_cons] at ha ⊢; exact Or.inr ha)) h3
  refine k_iconst B (v := 0) dX10_compoundsOf_0 (by decide) ?_
  refine k_istore_n B dX10_compoundsOf_1 (by decide) ?_
  try refine kK.set1 (by first | exact True.intro | rfl | exact kCat_q _) ?_
  refine k_aload_n B dX10_compoundsOf_2 rfl (by first | exact kRf_r _ | exact kRf_q _ | exact kRf_n) ?_
  refine gf_X10_28 B dX10_compoundsOf_3 h.o rfl ?_
  refine k_iload_n B dX10_compoundsOf_6 rfl ?_
  refine k_iald B dX10_compoundsOf_7 (h.i (k := 7) rfl (by decide)) (vp_in_nI hr5 (by decide)) ?_
  refine kK.rei (y := ldI (hdA L)) (by rw [nI_clamp (by omega)]; exact hL.1) ?_
  refine k_istore_n B dX10_compoundsOf_8 (by decide) ?_
  try refine kK.set1 (by first | exact True.intro | rfl | exact kCat_q _) ?_
  exact loop L 0 hL.2.2.2 hk rfl
end Knot
