section Scan
variable {l : Launch} {D : va_G} {σ : kS} {aM : Nat} {ma : Nat → Nat} {mv : Nat → Nat → Int32} {q : kQc} {L : kPs}
set_option maxRecDepth 100000 in
theorem c_X10_fromOf (hl : l.stackTraces = false) (h : mI D aM ma mv q σ) {i : Nat} (hi : i < 40) (hL : knR mv (11 + i) L) (hk : ∀ a ∈ L, a.1 < 6200) {c9 y : Int32} : kMh hX10_fromOf l D yX10_fromOf 2 0 0 [.ref aM, .int (nI i), .int c9, .int y] σ (fun v s2 => v = some (.int (nI (frS c9 y (kCon L)))) ∧ s2 = σ) (fun _ => False) := by
  refine kM_of (L := [some (.ref aM), some (.int (nI i)), some (.int c9), some (.int y), none, none]) (by decide +kernel) hl (List.forall_mem_cons.mpr ⟨rfl, (List.forall_mem_cons.mpr ⟨rfl, (List.forall_mem_cons.mpr ⟨rfl, (List.forall_mem_cons.mpr ⟨rfl, (fun _ h => absurd h List.not_mem_nil)⟩)⟩)⟩)⟩) (Nat.le_of_ble_eq_true rfl) rfl ?_
  intro p e s m args below meth c B hr hex hnm
  have B : kB p l s m args meth c D (kA σ s.heap.size) 6 cX10_fromOf RX10 := B
  have loop : ∀ (T : kPs) (x : Nat), knS mv T → (∀ a ∈ T, a.1 < 6200) → x + frS c9 y (kCon T) = frS c9 y (kCon L) → kK p l e (kR 2 0 0) s m args below meth c D (kA σ s.heap.size) 6 (kQ below args s D σ (fun v s2 => v = some (.int (nI (frS c9 y (kCon L)))) ∧ s2 = σ) (fun _ => False) 0 0) σ 0 0 14 [some (.ref aM), some (.int (nI i)), some (.int c9), some (.int y), some (.int (nI x)), some (.int (ldI (hdA T)))] [] := by
    intro T
    induction T with
    | nil =>
      intro x h1 h2 h3
      have h3 : x + 0 = frS c9 y (kCon L) := h3
      refine k_iload B dX10_fromOf_14 rfl ?_
      refine k_iconst B (v := (-1)) dX10_fromOf_16 (by decide) ?_
      refine k_icmp_eq B 70 dX10_fromOf_17 (by decide) (fun c17 => ?_) (fun c17 => ?_)
      · refine k_iload B dX10_fromOf_70 rfl ?_
        refine k_iret B hr dX10_fromOf_72 ?_ (by first | exact Nat.le_of_ble_eq_true rfl | omega | (simp only [kR, Value.category, kCat_q, List.map, List.sum_cons, List.sum_nil]; omega)) (by first | exact Nat.le_of_ble_eq_true rfl | omega | (simp only [kR, Value.category, kCat_q, List.map, List.sum_cons, List.sum_nil]; omega))
        exact ⟨by rw [← h3]; rfl, rfl⟩
      · exact absurd rfl c17
    | cons b T ih =>
      obtain ⟨j, pp⟩ := b
      intro x h1 h2 h3
      have hj : j < 6200 := h2 (j, pp) List.mem_cons_self
      have h3 : x + ((if nI pp.1 = c9 ∧ nI pp.2.1 = y then kUn pp else 0) + frS c9 y (kCon T)) = frS c9 y (kCon L) := h3
      have nxt : ∀ w : Nat, w = (if nI pp.1 = c9 ∧ nI pp.2.1 = y then kUn pp else 0) → kK p l e (kR 2 0 0) s m args below meth c D (kA σ s.heap.size) 6 (kQ below args s D σ (fun v s2 => v = some (.int (nI (frS c9 y (kCon L)))) ∧ s2 = σ) (fun _ => False) 0 0) σ 0 0 55 [some (.ref aM), some (.int (nI i)), some (.int c9), some (.int y), some (.int (nI x)), some (.int (nI j))] [.int (nI w), .int (nI x)] := by
        intro w hw
        refine k_iadd B dX10_fromOf_55 ?_
        refine kK.rei (y := nI (x + w)) (nI_add _ _) ?_
        refine k_istore B dX10_fromOf_56 (by decide) ?_
        try refine kK.set1 (by first | exact True.intro | rfl | exact kCat_q _) ?_
        refine k_aload_n B dX10_fromOf_58 rfl (by first | exact kRf_r _ | exact kRf_q _ | exact kRf_n) ?_
        refine gf_X10_37 B dX10_fromOf_59 h.o rfl ?_
        refine k_iload B dX10_fromOf_62 rfl ?_
        refine k_iald B dX10_fromOf_64 (h.i (k := 11) rfl (by decide)) (vp_in_nI hj (by decide)) ?_
        refine kK.rei (y := ldI (hdA T)) (by rw [nI_clamp (by omega)]; exact h1.1) ?_
        refine k_istore B dX10_fromOf_65 (by decide) ?_
        try refine kK.set1 (by first | exact True.intro | rfl | exact kCat_q _) ?_
        refine k_goto B 14 dX10_fromOf_67 (by decide) ?_
        exact ih _ h1.2.2 (fun a ha => h2 a (List.mem_cons_of_mem _ ha)) (by rw [hw]; omega)
      refine k_iload B dX10_fromOf_14 rfl ?_
      refine k_iconst B (v := (-1)) dX10_fromOf_16 (by decide) ?_
      refine k_icmp_eq B 70 dX10_fromOf_17 (by decide) (fun c17 => ?_) (fun c17 => ?_)
      · exact absurd c17 (ldI_no (j := j) (by omega))
      · refine kK.sub (L2 := [some (.ref aM), some (.int (nI i)), some (.int c9), some (.int y), some (.int (nI x)), some (.int (nI j))]) ⟨Or.inr rfl, Or.inr rfl, Or.inr rfl, Or.inr rfl, Or.inr rfl, Or.inr rfl, trivial⟩ ?_
        refine k_iload B dX10_fromOf_20 rfl ?_
        refine k_aload_n B dX10_fromOf_22 rfl (by first | exact kRf_r _ | exact kRf_q _ | exact kRf_n) ?_
        refine gf_X10_43 B dX10_fromOf_23 h.o rfl ?_
        refine k_iload B dX10_fromOf_26 rfl ?_
        refine k_iald B dX10_fromOf_28 (h.i (k := 13) rfl (by decide)) (vp_in_nI hj (by decide)) ?_
        refine kK.rei (y := nI pp.1) (by rw [nI_clamp (by omega)]; exact h1.2.1.1) ?_
        refine k_iload_n B dX10_fromOf_29 rfl ?_
        refine k_icmp_ne B 54 dX10_fromOf_30 (by decide) (fun c30 => ?_) (fun c30 => ?_)
        · refine k_iconst B (v := 0) dX10_fromOf_54 (by decide) ?_
          exact nxt 0 (by rw [if_neg (fun q => c30 q.1)])
        · refine k_aload_n B dX10_fromOf_33 rfl (by first | exact kRf_r _ | exact kRf_q _ | exact kRf_n) ?_
          refine gf_X10_46 B dX10_fromOf_34 h.o rfl ?_
          refine k_iload B dX10_fromOf_37 rfl ?_
          refine k_iald B dX10_fromOf_39 (h.i (k := 14) rfl (by decide)) (vp_in_nI hj (by decide)) ?_
          refine kK.rei (y := nI pp.2.1) (by rw [nI_clamp (by omega)]; exact h1.2.1.2.1) ?_
          refine k_iload_n B dX10_fromOf_40 rfl ?_
          refine k_icmp_ne B 54 dX10_fromOf_41 (by decide) (fun c41 => ?_) (fun c41 => ?_)
          · refine k_iconst B (v := 0) dX10_fromOf_54 (by decide) ?_
            exact nxt 0 (by rw [if_neg (fun q => c41 q.2)])
          · refine k_aload_n B dX10_fromOf_44 rfl (by first | exact kRf_r _ | exact kRf_q _ | exact kRf_n) ?_
            refine gf_X10_40 B dX10_fromOf_45 h.o rfl ?_
            refine k_iload B dX10_fromOf_48 rfl ?_
            refine k_iald B dX10_fromOf_50 (h.i (k := 12) rfl (by decide)) (vp_in_nI hj (by decide)) ?_
            refine kK.rei (y := nI (kUn pp)) (by rw [nI_clamp (by omega)]; exact h1.2.1.2.2.2.2) ?_
            refine k_goto B 55 dX10_fromOf_51 (by decide) ?_
            exact nxt (kUn pp) (by rw [if_pos ⟨c30, c41⟩])
  refine k_iconst B (v := 0) dX10_fromOf_0 (by decide) ?_
  refine k_istore B dX10_fromOf_1 (by decide) ?_
  try refine kK.set1 (by first | exact True.intro | rfl | exact kCat_q _) ?_
  refine k_aload_n B dX10_fromOf_3 rfl (by first | exact kRf_r _ | exact kRf_q _ | exact kRf_n) ?_
  refine gf_X10_28 B dX10_fromOf_4 h.o rfl ?_
  refine k_iload_n B dX10_fromOf_7 rfl ?_
  refine cl_X10_171 B (c_X10_lotRow hl) dX10_fromOf_8 (by first | exact Nat.le_of_ble_eq_true rfl | omega | (simp only [kR, Value.category, kCat_q, List.map, List.sum_cons, List.sum_nil]; omega)) (by first | exact Nat.le_of_ble_eq_true rfl | omega | (simp only [kR, Value.category, kCat_q, List.map, List.sum_cons, List.sum_nil]; omega)) (by first | exact Nat.le_of_ble_eq_true rfl | omega | (simp only [kR, Value.category, kCat_q, List.map, List.sum_cons, List.sum_nil]; omega)) (by first | exact Nat.le_of_ble_eq_true rfl | omega | (simp only [kR, Value.category, kCat_q, List.map, List.sum_cons, List.sum_nil]; omega)) (by first | exact Nat.le_of_ble_eq_true rfl | omega | (simp only [kR, Value.category, kCat_q, List.map, List.sum_cons, List.sum_nil]; omega)) (fun _ hx => hx.elim) (fun v8 s8 hp8 => ?_)
  obtain ⟨rfl, e8⟩ := hp8
  rw [e8]
  refine kK.rev (y := .int (nI (11 + i))) rfl ?_
  refine k_iald B dX10_fromOf_11 (h.i (k := 7) rfl (by decide)) (vp_in_nI (show 11 + i < 51 by omega) (by decide)) ?_
  refine kK.rei (y := ldI (hdA L)) (by rw [nI_clamp (by omega)]; exact hL.1) ?_
  refine k_istore B dX10_fromOf_12 (by decide) ?_
  try refine kK.set1 (by first | exact True.intro | rfl | exact kCat_q _) ?_
  rw [← nI_0]
  exact loop L 0 hL.2.2.2 hk (Nat.zero_add _)
set_option maxRecDepth 100000 in
theorem c_X10_meanAge (hl : l.stackTraces = false) (h : mI D aM ma mv q σ) {i b : Nat} (hi : i < 40) (hb : mv 28 i = nI b) (hb3 : b ≤ 300) (hL : knR mv (11 + i) L) (hk : ∀ a ∈ L, a.1 < 6200 ∧ a.2.2.1 ≤ b) (hu1 : 1 ≤ unS (kCon L)) (hu2 : unS (kCon L) ≤ 1000) : kMh hX10_meanAge l D yX10_meanAge 2 0 0 [.ref aM, .int (nI i)] σ (fun v s2 => v = some (.float (FP.fdiv (FP.i2f (nI (agS b (kCon L)))) (FP.i2f (nI (unS (kCon L)))))) ∧ s2 = σ) (fun _ => False) := by
  refine kM_of (L := [some (.ref aM), some (.int (nI i)), none, none, none]) (by decide +kernel) hl (List.forall_mem_cons.mpr ⟨rfl, (List.forall_mem_cons.mpr ⟨rfl, (fun _ h => absurd h List.not_mem_nil)⟩)⟩) (Nat.le_of_ble_eq_true rfl) rfl ?_
  intro p e s m args below meth c B hr hex hnm
  have B : kB p l s m args meth c D (kA σ s.heap.size) 5 cX10_meanAge RX10 := B
  have hag := agS_le (P := kCon L) (y := 0) hb3
  have hku : ∀ T : kPs, ∀ a ∈ T, kUn a.2 ≤ unS (kCon T) := by
    intro T
    induction T with
    | nil => intro a ha; cases ha
    | cons x T ih =>
      intro a ha
      show _ ≤ kUn x.2 + unS (kCon T)
      rcases List.mem_cons.mp ha with rfl | ha
      · omega
      · have := ih a ha; omega
  have hkL := hku L
  have loop : ∀ (T : kPs) (x : Nat), knS mv T → (∀ a ∈ T, a.1 < 6200 ∧ a.2.2.1 ≤ b) → (∀ a ∈ T, kUn a.2 ≤ 1000) → x + agS b (kCon T) = agS b (kCon L) → kK p l e (kR 2 0 0) s m args below meth c D (kA σ s.heap.size) 5 (kQ below args s D σ (fun v s2 => v = some (.float (FP.fdiv (FP.i2f (nI (agS b (kCon L)))) (FP.i2f (nI (unS (kCon L)))))) ∧ s2 = σ) (fun _ => False) 0 0) σ 0 0 13 [some (.ref aM), some (.int (nI i)), some (.long (nL x)), none, some (.int (ldI (hdA T)))] [] := by
    intro T
    induction T with
    | nil =>
      intro x h1 h2 h2b h3
      have h3 : x + 0 = agS b (kCon L) := h3
      refine k_iload B dX10_meanAge_13 rfl ?_
      refine k_iconst B (v := (-1)) dX10_meanAge_15 (by decide) ?_
      refine k_icmp_eq B 58 dX10_meanAge_16 (by decide) (fun c16 => ?_) (fun c16 => ?_)
      · refine k_lload_n B dX10_meanAge_58 rfl ?_
        refine k_l2f B dX10_meanAge_59 ?_
        refine k_aload_n B dX10_meanAge_60 rfl (by first | exact kRf_r _ | exact kRf_q _ | exact kRf_n) ?_
        refine gf_X10_34 B dX10_meanAge_61 h.o rfl ?_
        refine k_iload_n B dX10_meanAge_64 rfl ?_
        refine cl_X10_171 B (c_X10_lotRow hl) dX10_meanAge_65 (by first | exact Nat.le_of_ble_eq_true rfl | omega | (simp only [kR, Value.category, kCat_q, List.map, List.sum_cons, List.sum_nil]; omega)) (by first | exact Nat.le_of_ble_eq_true rfl | omega | (simp only [kR, Value.category, kCat_q, List.map, List.sum_cons, List.sum_nil]; omega)) (by first | exact Nat.le_of_ble_eq_true rfl | omega | (simp only [kR, Value.category, kCat_q, List.map, List.sum_cons, List.sum_nil]; omega)) (by first | exact Nat.le_of_ble_eq_true rfl | omega | (simp only [kR, Value.category, kCat_q, List.map, List.sum_cons, List.sum_nil]; omega)) (by first | exact Nat.le_of_ble_eq_true rfl | omega | (simp only [kR, Value.category, kCat_q, List.map, List.sum_cons, List.sum_nil]; omega)) (fun _ hx => hx.elim) (fun v65 s65 hp65 => ?_)
        obtain ⟨rfl, e65⟩ := hp65
        rw [e65]
        refine kK.rev (y := .int (nI (11 + i))) rfl ?_
        refine k_iald B dX10_meanAge_68 (h.i (k := 9) rfl (by decide)) (vp_in_nI (show 11 + i < 51 by omega) (by decide)) ?_
        refine kK.rei (y := nI (unS (kCon L))) (by rw [nI_clamp (by omega)]; exact hL.2.2.1) ?_
        have ex : FP.l2f (nL x) = FP.i2f (nI (agS b (kCon L))) := by rw [← h3, Nat.add_zero]; exact l2f_i2f (by omega)
        rw [ex]
        refine k_i2f B dX10_meanAge_69 ?_
        refine k_fdiv B dX10_meanAge_70 (nn_age hu1 (by omega)) ?_
        refine k_fret B hr dX10_meanAge_71 ?_ (by first | exact Nat.le_of_ble_eq_true rfl | omega | (simp only [kR, Value.category, kCat_q, List.map, List.sum_cons, List.sum_nil]; omega)) (by first | exact Nat.le_of_ble_eq_true rfl | omega | (simp only [kR, Value.category, kCat_q, List.map, List.sum_cons, List.sum_nil]; omega))
        exact ⟨rfl, rfl⟩
      · exact absurd rfl c16
    | cons r T ih =>
      obtain ⟨j, pp⟩ := r
      intro x h1 h2 h2b h3
      obtain ⟨hj, hy⟩ := h2 (j, pp) List.mem_cons_self
      have hu := h2b (j, pp) List.mem_cons_self
      have hu : kUn pp ≤ 1000 := hu
      have hj : j < 6200 := hj
      have hy : pp.2.1 ≤ b := hy
      have h3 : x + (kUn pp * (b - pp.2.1) + agS b (kCon T)) = agS b (kCon L) := h3
      refine k_iload B dX10_meanAge_13 rfl ?_
      refine k_iconst B (v := (-1)) dX10_meanAge_15 (by decide) ?_
      refine k_icmp_eq B 58 dX10_meanAge_16 (by decide) (fun c16 => ?_) (fun c16 => ?_)
      · exact absurd c16 (ldI_no (j := j) (by omega))
      · refine kK.sub (L2 := [some (.ref aM), some (.int (nI i)), some (.long (nL x)), none, some (.int (nI j))]) ⟨Or.inr rfl, Or.inr rfl, Or.inr rfl, Or.inl rfl, Or.inr rfl, trivial⟩ ?_
        refine k_lload_n B dX10_meanAge_19 rfl ?_
        refine k_aload_n B dX10_meanAge_20 rfl (by first | exact kRf_r _ | exact kRf_q _ | exact kRf_n) ?_
        refine gf_X10_40 B dX10_meanAge_21 h.o rfl ?_
        refine k_iload B dX10_meanAge_24 rfl ?_
        refine k_iald B dX10_meanAge_26 (h.i (k := 12) rfl (by decide)) (vp_in_nI hj (by decide)) ?_
        refine kK.rei (y := nI (kUn pp)) (by rw [nI_clamp (by omega)]; exact h1.2.1.2.2.2.2) ?_
        refine k_i2l B dX10_meanAge_27 ?_
        refine kK.rel (y := nL (kUn pp)) (nI_L (by omega)) ?_
        refine k_aload_n B dX10_meanAge_28 rfl (by first | exact kRf_r _ | exact kRf_q _ | exact kRf_n) ?_
        refine gf_X10_74 B dX10_meanAge_29 h.o rfl ?_
        refine k_iload_n B dX10_meanAge_32 rfl ?_
        refine k_iald B dX10_meanAge_33 (h.i (k := 28) rfl (by decide)) (vp_in_nI hi (by decide)) ?_
        refine kK.rei (y := nI b) (by rw [nI_clamp (by omega)]; exact hb) ?_
        refine k_aload_n B dX10_meanAge_34 rfl (by first | exact kRf_r _ | exact kRf_q _ | exact kRf_n) ?_
        refine gf_X10_46 B dX10_meanAge_35 h.o rfl ?_
        refine k_iload B dX10_meanAge_38 rfl ?_
        refine k_iald B dX10_meanAge_40 (h.i (k := 14) rfl (by decide)) (vp_in_nI hj (by decide)) ?_
        refine kK.rei (y := nI pp.2.1) (by rw [nI_clamp (by omega)]; exact h1.2.1.2.1) ?_
        refine k_isub B dX10_meanAge_41 ?_
        refine kK.rei (y := nI (b - pp.2.1)) (pk_sub hy) ?_
        refine k_i2l B dX10_meanAge_42 ?_
        refine kK.rel (y := nL (b - pp.2.1)) (nI_L (by omega)) ?_
        refine k_lmul B dX10_meanAge_43 ?_
        refine kK.rel (y := nL (kUn pp * (b - pp.2.1))) (nL_mul _ _) ?_
        refine k_ladd B dX10_meanAge_44 ?_
        refine kK.rel (y := nL (x + kUn pp * (b - pp.2.1))) (nL_add _ _) ?_
        refine k_lstore_n B dX10_meanAge_45 (by decide) ?_
        refine k_aload_n B dX10_meanAge_46 rfl (by first | exact kRf_r _ | exact kRf_q _ | exact kRf_n) ?_
        refine gf_X10_37 B dX10_meanAge_47 h.o rfl ?_
        refine k_iload B dX10_meanAge_50 rfl ?_
        refine k_iald B dX10_meanAge_52 (h.i (k := 11) rfl (by decide)) (vp_in_nI hj (by decide)) ?_
        refine kK.rei (y := ldI (hdA T)) (by rw [nI_clamp (by omega)]; exact h1.1) ?_
        refine k_istore B dX10_meanAge_53 (by decide) ?_
        try refine kK.set1 (by first | exact True.intro | rfl | exact kCat_q _) ?_
        refine k_goto B 13 dX10_meanAge_55 (by decide) ?_
        refine kK.sub (L2 := [some (.ref aM), some (.int (nI i)), some (.long (nL (x + kUn pp * (b - pp.2.1)))), none, some (.int (ldI (hdA T)))]) ⟨Or.inr rfl, Or.inr rfl, Or.inr rfl, Or.inl rfl, Or.inr rfl, trivial⟩ ?_
        exact ih _ h1.2.2 (fun a ha => h2 a (List.mem_cons_of_mem _ ha)) (fun a ha => h2b a (List.mem_cons_of_mem _ ha)) (by omega)
  refine k_lconst B (v := 0) dX10_meanAge_0 (by decide) ?_
  refine k_lstore_n B dX10_meanAge_1 (by decide) ?_
  refine k_aload_n B dX10_meanAge_2 rfl (by first | exact kRf_r _ | exact kRf_q _ | exact kRf_n) ?_
  refine gf_X10_28 B dX10_meanAge_3 h.o rfl ?_
  refine k_iload_n B dX10_meanAge_6 rfl ?_
  refine cl_X10_171 B (c_X10_lotRow hl) dX10_meanAge_7 (by first | exact Nat.le_of_ble_eq_true rfl | omega | (simp only [kR, Value.category, kCat_q, List.map, List.sum_cons, List.sum_nil]; omega)) (by first | exact Nat.le_of_ble_eq_true rfl | omega | (simp only [kR, Value.category, kCat_q, List.map, List.sum_cons, List.sum_nil]; omega)) (by first | exact Nat.le_of_ble_eq_true rfl | omega | (simp only [kR, Value.category, kCat_q, List.map, List.sum_cons, List.sum_nil]; omega)) (by first | exact Nat.le_of_ble_eq_true rfl | omega | (simp only [kR, Value.category, kCat_q, List.map, List.sum_cons, List.sum_nil]; omega)) (by first | exact Nat.le_of_ble_eq_true rfl | omega | (simp only [kR, Value.category, kCat_q, List.map, List.sum_cons, List.sum_nil]; omega)) (fun _ hx => hx.elim) (fun v7 s7 hp7 => ?_)
  obtain ⟨rfl, e7⟩ := hp7
  rw [e7]
  refine kK.rev (y := .int (nI (11 + i))) rfl ?_
  refine k_iald B dX10_meanAge_10 (h.i (k := 7) rfl (by decide)) (vp_in_nI (show 11 + i < 51 by omega) (by decide)) ?_
  refine kK.rei (y := ldI (hdA L)) (by rw [nI_clamp (by omega)]; exact hL.1) ?_
  refine k_istore B dX10_meanAge_11 (by decide) ?_
  try refine kK.set1 (by first | exact True.intro | rfl | exact kCat_q _) ?_
  refine kK.sub (L2 := [some (.ref aM), some (.int (nI i)), some (.long (nL 0)), none, some (.int (ldI (hdA L)))]) ⟨Or.inr rfl, Or.inr rfl, Or.inr rfl, Or.inl rfl, Or.inr rfl, trivial⟩ ?_
  exact loop L 0 hL.2.2.2 hk (fun a ha => by have := hkL a ha; omega) (Nat.zero_add _)
set_option maxRecDepth 100000 in
theorem c_X10_whenceOf (hl : l.stackTraces = false) (h : mI D aM ma mv q σ) {i qn : Nat} (hi : i < 40) (hq8 : qn < 8) (hL : knR mv (11 + i) L) (hk : ∀ a ∈ L, a.1 < 6200 ∧ a.2.1 < 2 ^ 31 ∧ a.2.2.1 < 2 ^ 31) : kMh hX10_whenceOf l D yX10_whenceOf 2 0 0 [.ref aM, .int (nI i), .int (nI qn)] σ (fun v s2 => v = some (.int (whI (eaC (bitI (nI qn)) (kCon L) none))) ∧ s2 = σ) (fun _ => False) := by
  refine kM_of (L := [some (.ref aM), some (.int (nI i)), some (.int (nI qn)), none, none, none, none]) (by decide +kernel) hl (List.forall_mem_cons.mpr ⟨rfl, (List.forall_mem_cons.mpr ⟨rfl, (List.forall_mem_cons.mpr ⟨rfl, (fun _ h => absurd h List.not_mem_nil)⟩)⟩)⟩) (Nat.le_of_ble_eq_true rfl) rfl ?_
  intro p e s m args below meth c B hr hex hnm
  have B : kB p l s m args meth c D (kA σ s.heap.size) 7 cX10_whenceOf RX10 := B
  have hcon := eaS_con (bit := bitI (nI qn)) (L := L) (f := none)
  have hcon : (eaS (bitI (nI qn)) L none).map (·.2) = eaC (bitI (nI qn)) (kCon L) none := hcon
  rw [← hcon]
  generalize hG : eaS (bitI (nI qn)) L none = G
  have loop : ∀ (T : kPs) (f : Option (Nat × kP)) (o5 o6 : Option Value), knS mv T → (∀ a ∈ T, a.1 < 6200 ∧ a.2.1 < 2 ^ 31 ∧ a.2.2.1 < 2 ^ 31) → (∀ g, f = some g → g.1 < 6200 ∧ g.2.1 < 2 ^ 31 ∧ g.2.2.1 < 2 ^ 31 ∧ knC mv g.1 g.2) → eaS (bitI (nI qn)) T f = G → kK p l e (kR 2 0 0) s m args below meth c D (kA σ s.heap.size) 7 (kQ below args s D σ (fun v s2 => v = some (.int (whI (G.map (·.2)))) ∧ s2 = σ) (fun _ => False) 0 0) σ 0 0 13 [some (.ref aM), some (.int (nI i)), some (.int (nI qn)), some (.int (ldI (f.map (·.1)))), some (.int (ldI (hdA T))), none, none] [] := by
    intro T
    induction T with
    | nil =>
      intro f o5 o6 h1 h2 hf h3
      have h3 : f = G := h3
      subst h3
      refine k_iload B dX10_whenceOf_13 rfl ?_
      refine k_iconst B (v := (-1)) dX10_whenceOf_15 (by decide) ?_
      refine k_icmp_eq B 130 dX10_whenceOf_16 (by decide) (fun c16 => ?_) (fun c16 => ?_)
      · cases f with
        | none =>
          refine k_iload_n B dX10_whenceOf_130 rfl ?_
          refine k_iconst B (v := (-1)) dX10_whenceOf_131 (by decide) ?_
          refine k_icmp_ne B 139 dX10_whenceOf_132 (by decide) (fun c132 => ?_) (fun c132 => ?_)
          · exact absurd rfl c132
          · refine k_iconst B (v := (-1)) dX10_whenceOf_135 (by decide) ?_
            refine k_goto B 156 dX10_whenceOf_136 (by decide) ?_
            refine k_iret B hr dX10_whenceOf_156 ?_ (by first | exact Nat.le_of_ble_eq_true rfl | omega | (simp only [kR, Value.category, kCat_q, List.map, List.sum_cons, List.sum_nil]; omega)) (by first | exact Nat.le_of_ble_eq_true rfl | omega | (simp only [kR, Value.category, kCat_q, List.map, List.sum_cons, List.sum_nil]; omega))
            exact ⟨rfl, rfl⟩
        | some g =>
          obtain ⟨f1, f2, f3, f4⟩ := hf g rfl
          refine k_iload_n B dX10_whenceOf_130 rfl ?_
          refine k_iconst B (v := (-1)) dX10_whenceOf_131 (by decide) ?_
          refine k_icmp_ne B 139 dX10_whenceOf_132 (by decide) (fun c132 => ?_) (fun c132 => ?_)
          · refine kK.sub (L2 := [some (.ref aM), some (.int (nI i)), some (.int (nI qn)), some (.int (nI g.1)), none, none, none]) ⟨Or.inr rfl, Or.inr rfl, Or.inr rfl, Or.inr rfl, Or.inl rfl, Or.inl rfl, Or.inl rfl, trivial⟩ ?_
            refine k_sipush B (v := 1000) dX10_whenceOf_139 (by decide) ?_
            refine k_aload_n B dX10_whenceOf_142 rfl (by first | exact kRf_r _ | exact kRf_q _ | exact kRf_n) ?_
            refine gf_X10_43 B dX10_whenceOf_143 h.o rfl ?_
            refine k_iload_n B dX10_whenceOf_146 rfl ?_
            refine k_iald B dX10_whenceOf_147 (h.i (k := 13) rfl (by decide)) (vp_in_nI f1 (by decide)) ?_
            refine kK.rei (y := nI g.2.1) (by rw [nI_clamp (by omega)]; exact f4.1) ?_
            refine k_imul B dX10_whenceOf_148 ?_
            refine k_aload_n B dX10_whenceOf_149 rfl (by first | exact kRf_r _ | exact kRf_q _ | exact kRf_n) ?_
            refine gf_X10_46 B dX10_whenceOf_150 h.o rfl ?_
            refine k_iload_n B dX10_whenceOf_153 rfl ?_
            refine k_iald B dX10_whenceOf_154 (h.i (k := 14) rfl (by decide)) (vp_in_nI f1 (by decide)) ?_
            refine kK.rei (y := nI g.2.2.1) (by rw [nI_clamp (by omega)]; exact f4.2.1) ?_
            refine k_iadd B dX10_whenceOf_155 ?_
            refine k_iret B hr dX10_whenceOf_156 ?_ (by first | exact Nat.le_of_ble_eq_true rfl | omega | (simp only [kR, Value.category, kCat_q, List.map, List.sum_cons, List.sum_nil]; omega)) (by first | exact Nat.le_of_ble_eq_true rfl | omega | (simp only [kR, Value.category, kCat_q, List.map, List.sum_cons, List.sum_nil]; omega))
            exact ⟨rfl, rfl⟩
          · exact absurd c132 (ldI_no (j := g.1) (by omega))
      · exact absurd rfl c16
    | cons r T ih =>
      obtain ⟨j, pp⟩ := r
      intro f o5 o6 h1 h2 hf h3
      obtain ⟨hj, hj2, hy⟩ := h2 (j, pp) List.mem_cons_self
      have hj : j < 6200 := hj
      have hj2 : pp.1 < 2 ^ 31 := hj2
      have hy : pp.2.1 < 2 ^ 31 := hy
      have hp1 := h1.2.1
      -- the choice
      have tl : ∀ hb lb : Bool, hb = !decide (pp.2.2.2.1 &&& bitI (nI qn) = 0) → (lb = match f with | none => true | some g => kEarlB pp g.2) → kK p l e (kR 2 0 0) s m args below meth c D (kA σ s.heap.size) 7 (kQ below args s D σ (fun v s2 => v = some (.int (whI (G.map (·.2)))) ∧ s2 = σ) (fun _ => False) 0 0) σ 0 0 99 [some (.ref aM), some (.int (nI i)), some (.int (nI qn)), some (.int (ldI (f.map (·.1)))), some (.int (nI j)), some (.int (bI hb)), none] [.int (bI lb)] := by
        intro hb lb e1 e2
        have nxt : ∀ f2 : Option (Nat × kP), (f2 = f ∨ f2 = some (j, pp)) → eaS (bitI (nI qn)) T f2 = G → kK p l e (kR 2 0 0) s m args below meth c D (kA σ s.heap.size) 7 (kQ below args s D σ (fun v s2 => v = some (.int (whI (G.map (·.2)))) ∧ s2 = σ) (fun _ => False) 0 0) σ 0 0 117 [some (.ref aM), some (.int (nI i)), some (.int (nI qn)), some (.int (ldI (f.map (·.1)))), some (.int (nI j)), some (.int (bI hb)), some (.int (bI lb))] [.int (ldI (f2.map (·.1)))] := by
          intro f2 hf2 h9
          refine k_istore_n B dX10_whenceOf_117 (by decide) ?_
          try refine kK.set1 (by first | exact True.intro | rfl | exact kCat_q _) ?_
          refine k_aload_n B dX10_whenceOf_118 rfl (by first | exact kRf_r _ | exact kRf_q _ | exact kRf_n) ?_
          refine gf_X10_37 B dX10_whenceOf_119 h.o rfl ?_
          refine k_iload B dX10_whenceOf_122 rfl ?_
          refine k_iald B dX10_whenceOf_124 (h.i (k := 11) rfl (by decide)) (vp_in_nI hj (by decide)) ?_
          refine kK.rei (y := ldI (hdA T)) (by rw [nI_clamp (by omega)]; exact h1.1) ?_
          refine k_istore B dX10_whenceOf_125 (by decide) ?_
          try refine kK.set1 (by first | exact True.intro | rfl | exact kCat_q _) ?_
          refine k_goto B 13 dX10_whenceOf_127 (by decide) ?_
          refine kK.sub (L2 := [some (.ref aM), some (.int (nI i)), some (.int (nI qn)), some (.int (ldI (f2.map (·.1)))), some (.int (ldI (hdA T))), none, none]) ⟨Or.inr rfl, Or.inr rfl, Or.inr rfl, Or.inr rfl, Or.inr rfl, Or.inl rfl, Or.inl rfl, trivial⟩ ?_
          refine ih f2 none none h1.2.2 (fun a ha => h2 a (List.mem_cons_of_mem _ ha)) (fun g hg => ?_) h9
          rcases hf2 with q9 | q9
          · exact hf g (q9 ▸ hg)
          · rw [q9] at hg; cases hg; exact ⟨hj, hj2, hy, hp1⟩
        have h3 : eaS (bitI (nI qn)) T (if pp.2.2.2.1 &&& bitI (nI qn) = 0 then f else match f with | none => some (j, pp) | some g => if kEarlB pp g.2 = true then some (j, pp) else f) = G := by
          cases f <;> exact h3
        refine k_istore B dX10_whenceOf_99 (by decide) ?_
        try refine kK.set1 (by first | exact True.intro | rfl | exact kCat_q _) ?_
        refine k_iload B dX10_whenceOf_101 rfl ?_
        refine k_if_eq B 116 dX10_whenceOf_103 (by decide) (fun c103 => ?_) (fun c103 => ?_)
        · have hb0 : hb = false := by cases hb with
            | true => exact absurd c103 (by decide)
            | false => rfl
          rw [hb0] at e1
          have e3 : pp.2.2.2.1 &&& bitI (nI qn) = 0 := by simpa using e1.symm
          refine k_iload_n B dX10_whenceOf_116 rfl ?_
          exact nxt f (Or.inl rfl) (by rw [if_pos e3] at h3; exact h3)
        · have hb0 : hb = true := by cases hb with
            | true => rfl
            | false => exact absurd rfl c103
          rw [hb0] at e1
          have e3 : ¬ pp.2.2.2.1 &&& bitI (nI qn) = 0 := by simpa using e1.symm
          rw [if_neg e3] at h3
          refine k_iload B dX10_whenceOf_106 rfl ?_
          refine k_if_eq B 116 dX10_whenceOf_108 (by decide) (fun c108 => ?_) (fun c108 => ?_)
          · have lb0 : lb = false := by cases lb with
              | true => exact absurd c108 (by decide)
              | false => rfl
            refine k_iload_n B dX10_whenceOf_116 rfl ?_
            refine nxt f (Or.inl rfl) ?_
            cases f with
            | none => rw [lb0] at e2; cases e2
            | some g =>
              have e2 : lb = kEarlB pp g.2 := e2
              rw [lb0] at e2
              have h3 : eaS (bitI (nI qn)) T (if kEarlB pp g.2 = true then some (j, pp) else some g) = G := h3
              rw [← e2, if_neg (by decide)] at h3
              exact h3
          · have lb0 : lb = true := by cases lb with
              | true => rfl
              | false => exact absurd rfl c108
            refine k_iload B dX10_whenceOf_111 rfl ?_
            refine k_goto B 117 dX10_whenceOf_113 (by decide) ?_
            refine nxt (some (j, pp)) (Or.inr rfl) ?_
            cases f with
            | none => exact h3
            | some g =>
              have e2 : lb = kEarlB pp g.2 := e2
              rw [lb0] at e2
              have h3 : eaS (bitI (nI qn)) T (if kEarlB pp g.2 = true then some (j, pp) else some g) = G := h3
              rw [← e2, if_pos rfl] at h3
              exact h3
      have md : ∀ hb : Bool, hb = !decide (pp.2.2.2.1 &&& bitI (nI qn) = 0) → kK p l e (kR 2 0 0) s m args below meth c D (kA σ s.heap.size) 7 (kQ below args s D σ (fun v s2 => v = some (.int (whI (G.map (·.2)))) ∧ s2 = σ) (fun _ => False) 0 0) σ 0 0 39 [some (.ref aM), some (.int (nI i)), some (.int (nI qn)), some (.int (ldI (f.map (·.1)))), some (.int (nI j)), none, none] [.int (bI hb)] := by
        intro hb e1
        cases f with
        | none =>
          refine k_istore B dX10_whenceOf_39 (by decide) ?_
          try refine kK.set1 (by first | exact True.intro | rfl | exact kCat_q _) ?_
          refine k_iload_n B dX10_whenceOf_41 rfl ?_
          refine k_iconst B (v := (-1)) dX10_whenceOf_42 (by decide) ?_
          refine k_icmp_eq B 94 dX10_whenceOf_43 (by decide) (fun c43 => ?_) (fun c43 => ?_)
          · refine k_iconst B (v := 1) dX10_whenceOf_94 (by decide) ?_
            refine k_goto B 99 dX10_whenceOf_95 (by decide) ?_
            exact tl hb true e1 rfl
          · exact absurd rfl c43
        | some g =>
          obtain ⟨f1, f2, f3, f4⟩ := hf g rfl
          refine k_istore B dX10_whenceOf_39 (by decide) ?_
          try refine kK.set1 (by first | exact True.intro | rfl | exact kCat_q _) ?_
          refine k_iload_n B dX10_whenceOf_41 rfl ?_
          refine k_iconst B (v := (-1)) dX10_whenceOf_42 (by decide) ?_
          refine k_icmp_eq B 94 dX10_whenceOf_43 (by decide) (fun c43 => ?_) (fun c43 => ?_)
          · exact absurd c43 (ldI_no (j := g.1) (by omega))
          · refine kK.sub (L2 := [some (.ref aM), some (.int (nI i)), some (.int (nI qn)), some (.int (nI g.1)), some (.int (nI j)), some (.int (bI hb)), none]) ⟨Or.inr rfl, Or.inr rfl, Or.inr rfl, Or.inr rfl, Or.inr rfl, Or.inr rfl, Or.inl rfl, trivial⟩ ?_
            refine k_aload_n B dX10_whenceOf_46 rfl (by first | exact kRf_r _ | exact kRf_q _ | exact kRf_n) ?_
            refine gf_X10_46 B dX10_whenceOf_47 h.o rfl ?_
            refine k_iload B dX10_whenceOf_50 rfl ?_
            refine k_iald B dX10_whenceOf_52 (h.i (k := 14) rfl (by decide)) (vp_in_nI hj (by decide)) ?_
            refine kK.rei (y := nI pp.2.1) (by rw [nI_clamp (by omega)]; exact hp1.2.1) ?_
            refine k_aload_n B dX10_whenceOf_53 rfl (by first | exact kRf_r _ | exact kRf_q _ | exact kRf_n) ?_
            refine gf_X10_46 B dX10_whenceOf_54 h.o rfl ?_
            refine k_iload_n B dX10_whenceOf_57 rfl ?_
            refine k_iald B dX10_whenceOf_58 (h.i (k := 14) rfl (by decide)) (vp_in_nI f1 (by decide)) ?_
            refine kK.rei (y := nI g.2.2.1) (by rw [nI_clamp (by omega)]; exact f4.2.1) ?_
            refine k_icmp_lt B 94 dX10_whenceOf_59 (by decide) (fun c59 => ?_) (fun c59 => ?_)
            · have hlt : pp.2.1 < g.2.2.1 := (nI_ltI hy f3).mp c59
              refine k_iconst B (v := 1) dX10_whenceOf_94 (by decide) ?_
              refine k_goto B 99 dX10_whenceOf_95 (by decide) ?_
              exact tl hb true e1 (by show true = kEarlB pp g.2; rw [kEarlB, decide_eq_true hlt]; rfl)
            · have hlt : ¬ pp.2.1 < g.2.2.1 := fun q => c59 ((nI_ltI hy f3).mpr q)
              refine k_aload_n B dX10_whenceOf_62 rfl (by first | exact kRf_r _ | exact kRf_q _ | exact kRf_n) ?_
              refine gf_X10_46 B dX10_whenceOf_63 h.o rfl ?_
              refine k_iload B dX10_whenceOf_66 rfl ?_
              refine k_iald B dX10_whenceOf_68 (h.i (k := 14) rfl (by decide)) (vp_in_nI hj (by decide)) ?_
              refine kK.rei (y := nI pp.2.1) (by rw [nI_clamp (by omega)]; exact hp1.2.1) ?_
              refine k_aload_n B dX10_whenceOf_69 rfl (by first | exact kRf_r _ | exact kRf_q _ | exact kRf_n) ?_
              refine gf_X10_46 B dX10_whenceOf_70 h.o rfl ?_
              refine k_iload_n B dX10_whenceOf_73 rfl ?_
              refine k_iald B dX10_whenceOf_74 (h.i (k := 14) rfl (by decide)) (vp_in_nI f1 (by decide)) ?_
              refine kK.rei (y := nI g.2.2.1) (by rw [nI_clamp (by omega)]; exact f4.2.1) ?_
              refine k_icmp_ne B 98 dX10_whenceOf_75 (by decide) (fun c75 => ?_) (fun c75 => ?_)
              · have hne : ¬ pp.2.1 = g.2.2.1 := fun q => c75 (by rw [q])
                refine k_iconst B (v := 0) dX10_whenceOf_98 (by decide) ?_
                exact tl hb false e1 (by show false = kEarlB pp g.2; rw [kEarlB, decide_eq_false hlt, decide_eq_false hne]; rfl)
              · have heq : pp.2.1 = g.2.2.1 := (nI_eq hy f3).mp c75
                refine k_aload_n B dX10_whenceOf_78 rfl (by first | exact kRf_r _ | exact kRf_q _ | exact kRf_n) ?_
                refine gf_X10_43 B dX10_whenceOf_79 h.o rfl ?_
                refine k_iload B dX10_whenceOf_82 rfl ?_
                refine k_iald B dX10_whenceOf_84 (h.i (k := 13) rfl (by decide)) (vp_in_nI hj (by decide)) ?_
                refine kK.rei (y := nI pp.1) (by rw [nI_clamp (by omega)]; exact hp1.1) ?_
                refine k_aload_n B dX10_whenceOf_85 rfl (by first | exact kRf_r _ | exact kRf_q _ | exact kRf_n) ?_
                refine gf_X10_43 B dX10_whenceOf_86 h.o rfl ?_
                refine k_iload_n B dX10_whenceOf_89 rfl ?_
                refine k_iald B dX10_whenceOf_90 (h.i (k := 13) rfl (by decide)) (vp_in_nI f1 (by decide)) ?_
                refine kK.rei (y := nI g.2.1) (by rw [nI_clamp (by omega)]; exact f4.1) ?_
                refine k_icmp_ge B 98 dX10_whenceOf_91 (by decide) (fun c91 => ?_) (fun c91 => ?_)
                · have hge : ¬ pp.1 < g.2.1 := by
                    have := (nI_leI f2 hj2).mp c91
                    omega
                  refine k_iconst B (v := 0) dX10_whenceOf_98 (by decide) ?_
                  exact tl hb false e1 (by show false = kEarlB pp g.2; rw [kEarlB, decide_eq_false hlt, decide_eq_true heq, decide_eq_false hge]; rfl)
                · have hge : pp.1 < g.2.1 := by
                    have : ¬ g.2.1 ≤ pp.1 := fun q => c91 ((nI_leI f2 hj2).mpr q)
                    omega
                  refine k_iconst B (v := 1) dX10_whenceOf_94 (by decide) ?_
                  refine k_goto B 99 dX10_whenceOf_95 (by decide) ?_
                  exact tl hb true e1 (by show true = kEarlB pp g.2; rw [kEarlB, decide_eq_false hlt, decide_eq_true heq, decide_eq_true hge]; rfl)
      refine k_iload B dX10_whenceOf_13 rfl ?_
      refine k_iconst B (v := (-1)) dX10_whenceOf_15 (by decide) ?_
      refine k_icmp_eq B 130 dX10_whenceOf_16 (by decide) (fun c16 => ?_) (fun c16 => ?_)
      · exact absurd c16 (ldI_no (j := j) (by omega))
      · refine kK.sub (L2 := [some (.ref aM), some (.int (nI i)), some (.int (nI qn)), some (.int (ldI (f.map (·.1)))), some (.int (nI j)), none, none]) ⟨Or.inr rfl, Or.inr rfl, Or.inr rfl, Or.inr rfl, Or.inr rfl, Or.inl rfl, Or.inl rfl, trivial⟩ ?_
        refine k_aload_n B dX10_whenceOf_19 rfl (by first | exact kRf_r _ | exact kRf_q _ | exact kRf_n) ?_
        refine gf_X10_52 B dX10_whenceOf_20 h.o rfl ?_
        refine k_iload B dX10_whenceOf_23 rfl ?_
        refine k_iald B dX10_whenceOf_25 (h.i (k := 16) rfl (by decide)) (vp_in_nI hj (by decide)) ?_
        refine kK.rei (y := pp.2.2.2.1) (by rw [nI_clamp (by omega)]; exact hp1.2.2.2.1) ?_
        refine k_iload_n B dX10_whenceOf_26 rfl ?_
        refine k_ishr B dX10_whenceOf_27 ?_
        refine k_iconst B (v := 1) dX10_whenceOf_28 (by decide) ?_
        refine k_iand B dX10_whenceOf_29 ?_
        refine k_iconst B (v := 1) dX10_whenceOf_30 (by decide) ?_
        refine k_icmp_ne B 38 dX10_whenceOf_31 (by decide) (fun c31 => ?_) (fun c31 => ?_)
        · refine k_iconst B (v := 0) dX10_whenceOf_38 (by decide) ?_
          exact md false (by
            have : pp.2.2.2.1 &&& bitI (nI qn) = 0 := Decidable.byContradiction (fun q => c31 ((bit_t _ hq8).mpr q))
            rw [decide_eq_true this]; rfl)
        · refine k_iconst B (v := 1) dX10_whenceOf_34 (by decide) ?_
          refine k_goto B 39 dX10_whenceOf_35 (by decide) ?_
          exact md true (by rw [decide_eq_false ((bit_t _ hq8).mp c31)]; rfl)
  refine k_iconst B (v := (-1)) dX10_whenceOf_0 (by decide) ?_
  refine k_istore_n B dX10_whenceOf_1 (by decide) ?_
  try refine kK.set1 (by first | exact True.intro | rfl | exact kCat_q _) ?_
  refine k_aload_n B dX10_whenceOf_2 rfl (by first | exact kRf_r _ | exact kRf_q _ | exact kRf_n) ?_
  refine gf_X10_28 B dX10_whenceOf_3 h.o rfl ?_
  refine k_iload_n B dX10_whenceOf_6 rfl ?_
  refine cl_X10_171 B (c_X10_lotRow hl) dX10_whenceOf_7 (by first | exact Nat.le_of_ble_eq_true rfl | omega | (simp only [kR, Value.category, kCat_q, List.map, List.sum_cons, List.sum_nil]; omega)) (by first | exact Nat.le_of_ble_eq_true rfl | omega | (simp only [kR, Value.category, kCat_q, List.map, List.sum_cons, List.sum_nil]; omega)) (by first | exact Nat.le_of_ble_eq_true rfl | omega | (simp only [kR, Value.category, kCat_q, List.map, List.sum_cons, List.sum_nil]; omega)) (by first | exact Nat.le_of_ble_eq_true rfl | omega | (simp only [kR, Value.category, kCat_q, List.map, List.sum_cons, List.sum_nil]; omega)) (by first | exact Nat.le_of_ble_eq_true rfl | omega | (simp only [kR, Value.category, kCat_q, List.map, List.sum_cons, List.sum_nil]; omega)) (fun _ hx => hx.elim) (fun v7 s7 hp7 => ?_)
  obtain ⟨rfl, e7⟩ := hp7
  rw [e7]
  refine kK.rev (y := .int (nI (11 + i))) rfl ?_
  refine k_iald B dX10_whenceOf_10 (h.i (k := 7) rfl (by decide)) (vp_in_nI (show 11 + i < 51 by omega) (by decide)) ?_
  refine kK.rei (y := ldI (hdA L)) (by rw [nI_clamp (by omega)]; exact hL.1) ?_
  refine k_istore B dX10_whenceOf_11 (by decide) ?_
  try refine kK.set1 (by first | exact True.intro | rfl | exact kCat_q _) ?_
  exact loop L none none none hL.2.2.2 hk (fun g hg => by cases hg) hG
end Scan
