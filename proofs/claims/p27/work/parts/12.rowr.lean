section RowR
variable {l : Launch} {D : va_G} {σ : kS} {ρ : Nat} {u : Int32} {z : Option Nat} {L : kPs}
set_option maxRecDepth 100000 in
theorem c_X6_frontYear (hl : l.stackTraces = false) (hρ : σ ρ = some (rowE u (hdA L) z)) (hc : pCh σ L) : kMh hX6_frontYear l D yX6_frontYear 1 0 0 [.ref ρ] σ (fun v s2 => v = some (.int (fyS (kCon L))) ∧ s2 = σ) (fun _ => False) := by
  refine kM_of (L := [some (.ref ρ)]) (by decide +kernel) hl (List.forall_mem_cons.mpr ⟨rfl, (fun _ h => absurd h List.not_mem_nil)⟩) (Nat.le_of_ble_eq_true rfl) rfl ?_
  intro p e s m args below meth c B hr hex hnm
  have B : kB p l s m args meth c D (kA σ s.heap.size) 1 cX6_frontYear RX6 := B
  cases L with
  | nil =>
    refine k_aload_n B dX6_frontYear_0 rfl (by first | exact kRf_r _ | exact kRf_q _ | exact kRf_n) ?_
    refine gf_X6_15 B dX6_frontYear_1 hρ rfl ?_
    refine k_ifnonnullN B 11 dX6_frontYear_4 (by decide) ?_
    refine k_iconst B (v := (-1)) dX6_frontYear_7 (by decide) ?_
    refine k_goto B 18 dX6_frontYear_8 (by decide) ?_
    refine k_iret B hr dX6_frontYear_18 ?_ (by first | exact Nat.le_of_ble_eq_true rfl | omega | (simp only [kR, Value.category, kCat_q, List.map, List.sum_cons, List.sum_nil]; omega)) (by first | exact Nat.le_of_ble_eq_true rfl | omega | (simp only [kR, Value.category, kCat_q, List.map, List.sum_cons, List.sum_nil]; omega))
    exact ⟨rfl, rfl⟩
  | cons q t =>
    obtain ⟨a, q⟩ := q
    refine k_aload_n B dX6_frontYear_0 rfl (by first | exact kRf_r _ | exact kRf_q _ | exact kRf_n) ?_
    refine gf_X6_15 B dX6_frontYear_1 hρ rfl ?_
    refine k_ifnonnullR B 11 dX6_frontYear_4 (by decide) ?_
    refine k_aload_n B dX6_frontYear_11 rfl (by first | exact kRf_r _ | exact kRf_q _ | exact kRf_n) ?_
    refine gf_X6_15 B dX6_frontYear_12 hρ rfl ?_
    refine gf_X6_32 B dX6_frontYear_15 hc.1 rfl ?_
    refine k_iret B hr dX6_frontYear_18 ?_ (by first | exact Nat.le_of_ble_eq_true rfl | omega | (simp only [kR, Value.category, kCat_q, List.map, List.sum_cons, List.sum_nil]; omega)) (by first | exact Nat.le_of_ble_eq_true rfl | omega | (simp only [kR, Value.category, kCat_q, List.map, List.sum_cons, List.sum_nil]; omega))
    exact ⟨rfl, rfl⟩
set_option maxRecDepth 100000 in
theorem c_X6_nitrate (hl : l.stackTraces = false) (hρ : σ ρ = some (rowE u (hdA L) z)) (hc : pCh σ L) : kMh hX6_nitrate l D yX6_nitrate 1 0 0 [.ref ρ] σ (fun v s2 => v = some (.int (nI (niS (kCon L)))) ∧ s2 = σ) (fun _ => False) := by
  refine kM_of (L := [some (.ref ρ), none, none]) (by decide +kernel) hl (List.forall_mem_cons.mpr ⟨rfl, (fun _ h => absurd h List.not_mem_nil)⟩) (Nat.le_of_ble_eq_true rfl) rfl ?_
  intro p e s m args below meth c B hr hex hnm
  have B : kB p l s m args meth c D (kA σ s.heap.size) 3 cX6_nitrate RX6 := B
  have loop : ∀ (T : kPs) (acc : Nat), pCh σ T → acc + niS (kCon T) = niS (kCon L) → kK p l e (kR 1 0 0) s m args below meth c D (kA σ s.heap.size) 3 (kQ below args s D σ (fun v s2 => v = some (.int (nI (niS (kCon L)))) ∧ s2 = σ) (fun _ => False) 0 0) σ 0 0 7 [some (.ref ρ), some (.int (nI acc)), some (va_rf (hdA T))] [] := by
    intro T
    induction T with
    | nil =>
      intro acc hT hs
      refine k_aload_n B dX6_nitrate_7 rfl (by first | exact kRf_r _ | exact kRf_q _ | exact kRf_n) ?_
      refine k_ifnullN B 31 dX6_nitrate_8 (by decide) ?_
      refine k_iload_n B dX6_nitrate_31 rfl ?_
      refine k_iret B hr dX6_nitrate_32 ?_ (by first | exact Nat.le_of_ble_eq_true rfl | omega | (simp only [kR, Value.category, kCat_q, List.map, List.sum_cons, List.sum_nil]; omega)) (by first | exact Nat.le_of_ble_eq_true rfl | omega | (simp only [kR, Value.category, kCat_q, List.map, List.sum_cons, List.sum_nil]; omega))
      refine ⟨?_, rfl⟩
      rw [← hs]
      rfl
    | cons q t ih =>
      obtain ⟨a, q⟩ := q
      intro acc hT hs
      refine k_aload_n B dX6_nitrate_7 rfl (by first | exact kRf_r _ | exact kRf_q _ | exact kRf_n) ?_
      refine k_ifnullR B 31 dX6_nitrate_8 (by decide) ?_
      refine k_iload_n B dX6_nitrate_11 rfl ?_
      refine k_aload_n B dX6_nitrate_12 rfl (by first | exact kRf_r _ | exact kRf_q _ | exact kRf_n) ?_
      refine gf_X6_27 B dX6_nitrate_13 hT.1 rfl ?_
      refine k_aload_n B dX6_nitrate_16 rfl (by first | exact kRf_r _ | exact kRf_q _ | exact kRf_n) ?_
      refine gf_X6_35 B dX6_nitrate_17 hT.1 rfl ?_
      refine k_imul B dX6_nitrate_20 ?_
      refine k_iadd B dX6_nitrate_21 ?_
      refine kK.rei (y := nI (acc + kUn q * q.2.2.1)) (by rw [pk_mul, nI_add]; rfl) ?_
      refine k_istore_n B dX6_nitrate_22 (by decide) ?_
      try refine kK.set1 (by first | exact True.intro | rfl | exact kCat_q _) ?_
      refine k_aload_n B dX6_nitrate_23 rfl (by first | exact kRf_r _ | exact kRf_q _ | exact kRf_n) ?_
      refine gf_X6_22 B dX6_nitrate_24 hT.1 rfl ?_
      refine k_astore_n B dX6_nitrate_27 (by decide) (by first | exact kRf_r _ | exact kRf_q _ | exact kRf_n) ?_
      try refine kK.set1 (by first | exact True.intro | rfl | exact kCat_q _) ?_
      refine k_goto B 7 dX6_nitrate_28 (by decide) ?_
      exact ih _ hT.2 (by rw [← hs]; simp only [kCon, List.map_cons, niS]; omega)
  refine k_iconst B (v := 0) dX6_nitrate_0 (by decide) ?_
  refine k_istore_n B dX6_nitrate_1 (by decide) ?_
  try refine kK.set1 (by first | exact True.intro | rfl | exact kCat_q _) ?_
  refine k_aload_n B dX6_nitrate_2 rfl (by first | exact kRf_r _ | exact kRf_q _ | exact kRf_n) ?_
  refine gf_X6_15 B dX6_nitrate_3 hρ rfl ?_
  refine k_astore_n B dX6_nitrate_6 (by decide) (by first | exact kRf_r _ | exact kRf_q _ | exact kRf_n) ?_
  try refine kK.set1 (by first | exact True.intro | rfl | exact kCat_q _) ?_
  exact loop L 0 hc (by omega)
set_option maxRecDepth 100000 in
theorem c_X6_compounds (hl : l.stackTraces = false) (hρ : σ ρ = some (rowE u (hdA L) z)) (hc : pCh σ L) : kMh hX6_compounds l D yX6_compounds 1 0 0 [.ref ρ] σ (fun v s2 => v = some (.int (coS (kCon L) 0)) ∧ s2 = σ) (fun _ => False) := by
  refine kM_of (L := [some (.ref ρ), none, none]) (by decide +kernel) hl (List.forall_mem_cons.mpr ⟨rfl, (fun _ h => absurd h List.not_mem_nil)⟩) (Nat.le_of_ble_eq_true rfl) rfl ?_
  intro p e s m args below meth c B hr hex hnm
  have B : kB p l s m args meth c D (kA σ s.heap.size) 3 cX6_compounds RX6 := B
  have loop : ∀ (T : kPs) (acc : Int32), pCh σ T → coS (kCon T) acc = coS (kCon L) 0 → kK p l e (kR 1 0 0) s m args below meth c D (kA σ s.heap.size) 3 (kQ below args s D σ (fun v s2 => v = some (.int (coS (kCon L) 0)) ∧ s2 = σ) (fun _ => False) 0 0) σ 0 0 7 [some (.ref ρ), some (.int acc), some (va_rf (hdA T))] [] := by
    intro T
    induction T with
    | nil =>
      intro acc hT hs
      refine k_aload_n B dX6_compounds_7 rfl (by first | exact kRf_r _ | exact kRf_q _ | exact kRf_n) ?_
      refine k_ifnullN B 26 dX6_compounds_8 (by decide) ?_
      refine k_iload_n B dX6_compounds_26 rfl ?_
      refine k_iret B hr dX6_compounds_27 ?_ (by first | exact Nat.le_of_ble_eq_true rfl | omega | (simp only [kR, Value.category, kCat_q, List.map, List.sum_cons, List.sum_nil]; omega)) (by first | exact Nat.le_of_ble_eq_true rfl | omega | (simp only [kR, Value.category, kCat_q, List.map, List.sum_cons, List.sum_nil]; omega))
      refine ⟨?_, rfl⟩
      rw [← hs]
      rfl
    | cons q t ih =>
      obtain ⟨a, q⟩ := q
      intro acc hT hs
      refine k_aload_n B dX6_compounds_7 rfl (by first | exact kRf_r _ | exact kRf_q _ | exact kRf_n) ?_
      refine k_ifnullR B 26 dX6_compounds_8 (by decide) ?_
      refine k_iload_n B dX6_compounds_11 rfl ?_
      refine k_aload_n B dX6_compounds_12 rfl (by first | exact kRf_r _ | exact kRf_q _ | exact kRf_n) ?_
      refine gf_X6_38 B dX6_compounds_13 hT.1 rfl ?_
      refine k_ior B dX6_compounds_16 ?_
      refine k_istore_n B dX6_compounds_17 (by decide) ?_
      try refine kK.set1 (by first | exact True.intro | rfl | exact kCat_q _) ?_
      refine k_aload_n B dX6_compounds_18 rfl (by first | exact kRf_r _ | exact kRf_q _ | exact kRf_n) ?_
      refine gf_X6_22 B dX6_compounds_19 hT.1 rfl ?_
      refine k_astore_n B dX6_compounds_22 (by decide) (by first | exact kRf_r _ | exact kRf_q _ | exact kRf_n) ?_
      try refine kK.set1 (by first | exact True.intro | rfl | exact kCat_q _) ?_
      refine k_goto B 7 dX6_compounds_23 (by decide) ?_
      exact ih _ hT.2 hs
  refine k_iconst B (v := 0) dX6_compounds_0 (by decide) ?_
  refine k_istore_n B dX6_compounds_1 (by decide) ?_
  try refine kK.set1 (by first | exact True.intro | rfl | exact kCat_q _) ?_
  refine k_aload_n B dX6_compounds_2 rfl (by first | exact kRf_r _ | exact kRf_q _ | exact kRf_n) ?_
  refine gf_X6_15 B dX6_compounds_3 hρ rfl ?_
  refine k_astore_n B dX6_compounds_6 (by decide) (by first | exact kRf_r _ | exact kRf_q _ | exact kRf_n) ?_
  try refine kK.set1 (by first | exact True.intro | rfl | exact kCat_q _) ?_
  exact loop L 0 hc rfl
set_option maxRecDepth 100000 in
theorem c_X6_agesIn (hl : l.stackTraces = false) {y : Nat} (hρ : σ ρ = some (rowE u (hdA L) z)) (hc : pCh σ L) (hy : ∀ q ∈ L, q.2.2.1 ≤ y) : kMh hX6_agesIn l D yX6_agesIn 1 0 0 [.ref ρ, .int (nI y)] σ (fun v s2 => v = some (.int (nI (agS y (kCon L)))) ∧ s2 = σ) (fun _ => False) := by
  refine kM_of (L := [some (.ref ρ), some (.int (nI y)), none, none]) (by decide +kernel) hl (List.forall_mem_cons.mpr ⟨rfl, (List.forall_mem_cons.mpr ⟨rfl, (fun _ h => absurd h List.not_mem_nil)⟩)⟩) (Nat.le_of_ble_eq_true rfl) rfl ?_
  intro p e s m args below meth c B hr hex hnm
  have B : kB p l s m args meth c D (kA σ s.heap.size) 4 cX6_agesIn RX6 := B
  have loop : ∀ (T : kPs) (acc : Nat), pCh σ T → (∀ q ∈ T, q.2.2.1 ≤ y) → acc + agS y (kCon T) = agS y (kCon L) → kK p l e (kR 1 0 0) s m args below meth c D (kA σ s.heap.size) 4 (kQ below args s D σ (fun v s2 => v = some (.int (nI (agS y (kCon L)))) ∧ s2 = σ) (fun _ => False) 0 0) σ 0 0 7 [some (.ref ρ), some (.int (nI y)), some (.int (nI acc)), some (va_rf (hdA T))] [] := by
    intro T
    induction T with
    | nil =>
      intro acc hT hm hs
      refine k_aload_n B dX6_agesIn_7 rfl (by first | exact kRf_r _ | exact kRf_q _ | exact kRf_n) ?_
      refine k_ifnullN B 33 dX6_agesIn_8 (by decide) ?_
      refine k_iload_n B dX6_agesIn_33 rfl ?_
      refine k_iret B hr dX6_agesIn_34 ?_ (by first | exact Nat.le_of_ble_eq_true rfl | omega | (simp only [kR, Value.category, kCat_q, List.map, List.sum_cons, List.sum_nil]; omega)) (by first | exact Nat.le_of_ble_eq_true rfl | omega | (simp only [kR, Value.category, kCat_q, List.map, List.sum_cons, List.sum_nil]; omega))
      refine ⟨?_, rfl⟩
      rw [← hs]
      rfl
    | cons q t ih =>
      obtain ⟨a, q⟩ := q
      intro acc hT hm hs
      refine k_aload_n B dX6_agesIn_7 rfl (by first | exact kRf_r _ | exact kRf_q _ | exact kRf_n) ?_
      refine k_ifnullR B 33 dX6_agesIn_8 (by decide) ?_
      refine k_iload_n B dX6_agesIn_11 rfl ?_
      refine k_aload_n B dX6_agesIn_12 rfl (by first | exact kRf_r _ | exact kRf_q _ | exact kRf_n) ?_
      refine gf_X6_27 B dX6_agesIn_13 hT.1 rfl ?_
      refine k_iload_n B dX6_agesIn_16 rfl ?_
      refine k_aload_n B dX6_agesIn_17 rfl (by first | exact kRf_r _ | exact kRf_q _ | exact kRf_n) ?_
      refine gf_X6_32 B dX6_agesIn_18 hT.1 rfl ?_
      refine k_isub B dX6_agesIn_21 ?_
      refine k_imul B dX6_agesIn_22 ?_
      refine k_iadd B dX6_agesIn_23 ?_
      refine kK.rei (y := nI (acc + kUn q * (y - q.2.1))) (by rw [pk_sub (hm _ List.mem_cons_self), pk_mul, nI_add]; rfl) ?_
      refine k_istore_n B dX6_agesIn_24 (by decide) ?_
      try refine kK.set1 (by first | exact True.intro | rfl | exact kCat_q _) ?_
      refine k_aload_n B dX6_agesIn_25 rfl (by first | exact kRf_r _ | exact kRf_q _ | exact kRf_n) ?_
      refine gf_X6_22 B dX6_agesIn_26 hT.1 rfl ?_
      refine k_astore_n B dX6_agesIn_29 (by decide) (by first | exact kRf_r _ | exact kRf_q _ | exact kRf_n) ?_
      try refine kK.set1 (by first | exact True.intro | rfl | exact kCat_q _) ?_
      refine k_goto B 7 dX6_agesIn_30 (by decide) ?_
      exact ih _ hT.2 (fun r hr => hm r (List.mem_cons_of_mem _ hr)) (by rw [← hs]; simp only [kCon, List.map_cons, agS]; omega)
  refine k_iconst B (v := 0) dX6_agesIn_0 (by decide) ?_
  refine k_istore_n B dX6_agesIn_1 (by decide) ?_
  try refine kK.set1 (by first | exact True.intro | rfl | exact kCat_q _) ?_
  refine k_aload_n B dX6_agesIn_2 rfl (by first | exact kRf_r _ | exact kRf_q _ | exact kRf_n) ?_
  refine gf_X6_15 B dX6_agesIn_3 hρ rfl ?_
  refine k_astore_n B dX6_agesIn_6 (by decide) (by first | exact kRf_r _ | exact kRf_q _ | exact kRf_n) ?_
  try refine kK.set1 (by first | exact True.intro | rfl | exact kCat_q _) ?_
  exact loop L 0 hc hy (by omega)
set_option maxRecDepth 100000 in
theorem c_X6_unitsThatFell (hl : l.stackTraces = false) {cI yI : Int32} (hρ : σ ρ = some (rowE u (hdA L) z)) (hc : pCh σ L) : kMh hX6_unitsThatFell l D yX6_unitsThatFell 1 0 0 [.ref ρ, .int cI, .int yI] σ (fun v s2 => v = some (.int (nI (frS cI yI (kCon L)))) ∧ s2 = σ) (fun _ => False) := by
  refine kM_of (L := [some (.ref ρ), some (.int cI), some (.int yI), none, none]) (by decide +kernel) hl (List.forall_mem_cons.mpr ⟨rfl, (List.forall_mem_cons.mpr ⟨rfl, (List.forall_mem_cons.mpr ⟨rfl, (fun _ h => absurd h List.not_mem_nil)⟩)⟩)⟩) (Nat.le_of_ble_eq_true rfl) rfl ?_
  intro p e s m args below meth c B hr hex hnm
  have B : kB p l s m args meth c D (kA σ s.heap.size) 5 cX6_unitsThatFell RX6 := B
  have loop : ∀ (T : kPs) (acc : Nat), pCh σ T → acc + frS cI yI (kCon T) = frS cI yI (kCon L) → kK p l e (kR 1 0 0) s m args below meth c D (kA σ s.heap.size) 5 (kQ below args s D σ (fun v s2 => v = some (.int (nI (frS cI yI (kCon L)))) ∧ s2 = σ) (fun _ => False) 0 0) σ 0 0 8 [some (.ref ρ), some (.int cI), some (.int yI), some (.int (nI acc)), some (va_rf (hdA T))] [] := by
    intro T
    induction T with
    | nil =>
      intro acc hT hs
      refine k_aload B dX6_unitsThatFell_8 rfl (by first | exact kRf_r _ | exact kRf_q _ | exact kRf_n) ?_
      refine k_ifnullN B 49 dX6_unitsThatFell_10 (by decide) ?_
      refine k_iload_n B dX6_unitsThatFell_49 rfl ?_
      refine k_iret B hr dX6_unitsThatFell_50 ?_ (by first | exact Nat.le_of_ble_eq_true rfl | omega | (simp only [kR, Value.category, kCat_q, List.map, List.sum_cons, List.sum_nil]; omega)) (by first | exact Nat.le_of_ble_eq_true rfl | omega | (simp only [kR, Value.category, kCat_q, List.map, List.sum_cons, List.sum_nil]; omega))
      refine ⟨?_, rfl⟩
      rw [← hs]
      rfl
    | cons q t ih =>
      obtain ⟨a, q⟩ := q
      intro acc hT hs
      have skip : frS cI yI (kCon t) = frS cI yI (kCon ((a, q) :: t)) → kK p l e (kR 1 0 0) s m args below meth c D (kA σ s.heap.size) 5 (kQ below args s D σ (fun v s2 => v = some (.int (nI (frS cI yI (kCon L)))) ∧ s2 = σ) (fun _ => False) 0 0) σ 0 0 39 [some (.ref ρ), some (.int cI), some (.int yI), some (.int (nI acc)), some (.ref a)] [] := by
        intro h0
        refine k_aload B dX6_unitsThatFell_39 rfl (by first | exact kRf_r _ | exact kRf_q _ | exact kRf_n) ?_
        refine gf_X6_22 B dX6_unitsThatFell_41 hT.1 rfl ?_
        refine k_astore B dX6_unitsThatFell_44 (by decide) (by first | exact kRf_r _ | exact kRf_q _ | exact kRf_n) ?_
        try refine kK.set1 (by first | exact True.intro | rfl | exact kCat_q _) ?_
        refine k_goto B 8 dX6_unitsThatFell_46 (by decide) ?_
        exact ih _ hT.2 (by rw [← hs, h0])
      refine k_aload B dX6_unitsThatFell_8 rfl (by first | exact kRf_r _ | exact kRf_q _ | exact kRf_n) ?_
      refine k_ifnullR B 49 dX6_unitsThatFell_10 (by decide) ?_
      refine k_aload B dX6_unitsThatFell_13 rfl (by first | exact kRf_r _ | exact kRf_q _ | exact kRf_n) ?_
      refine gf_X6_54 B dX6_unitsThatFell_15 hT.1 rfl ?_
      refine k_iload_n B dX6_unitsThatFell_18 rfl ?_
      refine k_icmp_ne B 39 dX6_unitsThatFell_19 (by decide) (fun c19 => ?_) (fun c19 => ?_)
      · exact skip (by simp only [kCon, List.map_cons, frS]; rw [if_neg (fun h => c19 h.1)]; omega)
      · refine k_aload B dX6_unitsThatFell_22 rfl (by first | exact kRf_r _ | exact kRf_q _ | exact kRf_n) ?_
        refine gf_X6_32 B dX6_unitsThatFell_24 hT.1 rfl ?_
        refine k_iload_n B dX6_unitsThatFell_27 rfl ?_
        refine k_icmp_ne B 39 dX6_unitsThatFell_28 (by decide) (fun c28 => ?_) (fun c28 => ?_)
        · exact skip (by simp only [kCon, List.map_cons, frS]; rw [if_neg (fun h => c28 h.2)]; omega)
        · refine k_iload_n B dX6_unitsThatFell_31 rfl ?_
          refine k_aload B dX6_unitsThatFell_32 rfl (by first | exact kRf_r _ | exact kRf_q _ | exact kRf_n) ?_
          refine gf_X6_27 B dX6_unitsThatFell_34 hT.1 rfl ?_
          refine k_iadd B dX6_unitsThatFell_37 ?_
          refine kK.rei (y := nI (acc + kUn q)) (by rw [nI_add]; rfl) ?_
          refine k_istore_n B dX6_unitsThatFell_38 (by decide) ?_
          try refine kK.set1 (by first | exact True.intro | rfl | exact kCat_q _) ?_
          refine k_aload B dX6_unitsThatFell_39 rfl (by first | exact kRf_r _ | exact kRf_q _ | exact kRf_n) ?_
          refine gf_X6_22 B dX6_unitsThatFell_41 hT.1 rfl ?_
          refine k_astore B dX6_unitsThatFell_44 (by decide) (by first | exact kRf_r _ | exact kRf_q _ | exact kRf_n) ?_
          try refine kK.set1 (by first | exact True.intro | rfl | exact kCat_q _) ?_
          refine k_goto B 8 dX6_unitsThatFell_46 (by decide) ?_
          exact ih _ hT.2 (by rw [← hs]; simp only [kCon, List.map_cons, frS]; rw [if_pos ⟨c19, c28⟩]; omega)
  refine k_iconst B (v := 0) dX6_unitsThatFell_0 (by decide) ?_
  refine k_istore_n B dX6_unitsThatFell_1 (by decide) ?_
  try refine kK.set1 (by first | exact True.intro | rfl | exact kCat_q _) ?_
  refine k_aload_n B dX6_unitsThatFell_2 rfl (by first | exact kRf_r _ | exact kRf_q _ | exact kRf_n) ?_
  refine gf_X6_15 B dX6_unitsThatFell_3 hρ rfl ?_
  refine k_astore B dX6_unitsThatFell_6 (by decide) (by first | exact kRf_r _ | exact kRf_q _ | exact kRf_n) ?_
  try refine kK.set1 (by first | exact True.intro | rfl | exact kCat_q _) ?_
  exact loop L 0 hc (by omega)
set_option maxRecDepth 100000 in
theorem c_X6_oldest (hl : l.stackTraces = false) (hρ : σ ρ = some (rowE u (hdA L) z)) (hc : pCh σ L) (hy : ∀ q ∈ L, q.2.2.1 < 2 ^ 31) : kMh hX6_oldest l D yX6_oldest 2 0 0 [.ref ρ] σ (fun v s2 => v = some (.int (match kCon L with | [] => -1 | q :: t => nI (miS t q.2.1))) ∧ s2 = σ) (fun _ => False) := by
  refine kM_of (L := [some (.ref ρ), none, none]) (by decide +kernel) hl (List.forall_mem_cons.mpr ⟨rfl, (fun _ h => absurd h List.not_mem_nil)⟩) (Nat.le_of_ble_eq_true rfl) rfl ?_
  intro p e s m args below meth c B hr hex hnm
  have B : kB p l s m args meth c D (kA σ s.heap.size) 3 cX6_oldest RX6 := B
  generalize hans : (match kCon L with | [] => -1 | q :: t => nI (miS t q.2.1)) = ans
  have loop : ∀ (T : kPs) (acc : Nat), pCh σ T → acc < 2 ^ 31 → (∀ q ∈ T, q.2.2.1 < 2 ^ 31) → nI (miS (kCon T) acc) = ans → kK p l e (kR 2 0 0) s m args below meth c D (kA σ s.heap.size) 3 (kQ below args s D σ (fun v s2 => v = some (.int ans) ∧ s2 = σ) (fun _ => False) 0 0) σ 0 0 10 [some (.ref ρ), some (.int (nI acc)), some (va_rf (hdA T))] [] := by
    intro T
    induction T with
    | nil =>
      intro acc hT ha hm hs
      refine k_aload_n B dX6_oldest_10 rfl (by first | exact kRf_r _ | exact kRf_q _ | exact kRf_n) ?_
      refine k_ifnullN B 31 dX6_oldest_11 (by decide) ?_
      refine k_iload_n B dX6_oldest_31 rfl ?_
      refine k_iret B hr dX6_oldest_32 ?_ (by first | exact Nat.le_of_ble_eq_true rfl | omega | (simp only [kR, Value.category, kCat_q, List.map, List.sum_cons, List.sum_nil]; omega)) (by first | exact Nat.le_of_ble_eq_true rfl | omega | (simp only [kR, Value.category, kCat_q, List.map, List.sum_cons, List.sum_nil]; omega))
      exact ⟨by rw [← hs]; rfl, rfl⟩
    | cons q t ih =>
      obtain ⟨a, q⟩ := q
      intro acc hT ha hm hs
      have hq := hm _ List.mem_cons_self
      refine k_aload_n B dX6_oldest_10 rfl (by first | exact kRf_r _ | exact kRf_q _ | exact kRf_n) ?_
      refine k_ifnullR B 31 dX6_oldest_11 (by decide) ?_
      refine k_iload_n B dX6_oldest_14 rfl ?_
      refine k_aload_n B dX6_oldest_15 rfl (by first | exact kRf_r _ | exact kRf_q _ | exact kRf_n) ?_
      refine gf_X6_32 B dX6_oldest_16 hT.1 rfl ?_
      refine mm_X6_45 B dX6_oldest_19 (by first | exact Nat.le_of_ble_eq_true rfl | omega | (simp only [kR, Value.category, kCat_q, List.map, List.sum_cons, List.sum_nil]; omega)) (by first | exact Nat.le_of_ble_eq_true rfl | omega | (simp only [kR, Value.category, kCat_q, List.map, List.sum_cons, List.sum_nil]; omega)) (by first | exact Nat.le_of_ble_eq_true rfl | omega | (simp only [kR, Value.category, kCat_q, List.map, List.sum_cons, List.sum_nil]; omega)) (by first | exact Nat.le_of_ble_eq_true rfl | omega | (simp only [kR, Value.category, kCat_q, List.map, List.sum_cons, List.sum_nil]; omega)) ?_
      refine kK.rei (y := nI (if q.2.1 < acc then q.2.1 else acc)) (nI_min ha hq) ?_
      refine k_istore_n B dX6_oldest_22 (by decide) ?_
      try refine kK.set1 (by first | exact True.intro | rfl | exact kCat_q _) ?_
      refine k_aload_n B dX6_oldest_23 rfl (by first | exact kRf_r _ | exact kRf_q _ | exact kRf_n) ?_
      refine gf_X6_22 B dX6_oldest_24 hT.1 rfl ?_
      refine k_astore_n B dX6_oldest_27 (by decide) (by first | exact kRf_r _ | exact kRf_q _ | exact kRf_n) ?_
      try refine kK.set1 (by first | exact True.intro | rfl | exact kCat_q _) ?_
      refine k_goto B 10 dX6_oldest_28 (by decide) ?_
      exact ih _ hT.2 (by split <;> assumption) (fun r hr => hm r (List.mem_cons_of_mem _ hr)) hs
  refine k_aload_n B dX6_oldest_0 rfl (by first | exact kRf_r _ | exact kRf_q _ | exact kRf_n) ?_
  refine cl_X6_41 B (c_X6_frontYear hl hρ hc) hρ dX6_oldest_1 (by first | exact Nat.le_of_ble_eq_true rfl | omega | (simp only [kR, Value.category, kCat_q, List.map, List.sum_cons, List.sum_nil]; omega)) (by first | exact Nat.le_of_ble_eq_true rfl | omega | (simp only [kR, Value.category, kCat_q, List.map, List.sum_cons, List.sum_nil]; omega)) (by first | exact Nat.le_of_ble_eq_true rfl | omega | (simp only [kR, Value.category, kCat_q, List.map, List.sum_cons, List.sum_nil]; omega)) (by first | exact Nat.le_of_ble_eq_true rfl | omega | (simp only [kR, Value.category, kCat_q, List.map, List.sum_cons, List.sum_nil]; omega)) (by first | exact Nat.le_of_ble_eq_true rfl | omega | (simp only [kR, Value.category, kCat_q, List.map, List.sum_cons, List.sum_nil]; omega)) (fun _ hx => hx.elim) (fun v1 s1 hp1 => ?_)
  obtain ⟨rfl, rfl⟩ := hp1
  cases L with
  | nil =>
    refine k_istore_n B dX6_oldest_4 (by decide) ?_
    try refine kK.set1 (by first | exact True.intro | rfl | exact kCat_q _) ?_
    refine k_aload_n B dX6_oldest_5 rfl (by first | exact kRf_r _ | exact kRf_q _ | exact kRf_n) ?_
    refine gf_X6_15 B dX6_oldest_6 hρ rfl ?_
    refine k_astore_n B dX6_oldest_9 (by decide) (by first | exact kRf_r _ | exact kRf_q _ | exact kRf_n) ?_
    try refine kK.set1 (by first | exact True.intro | rfl | exact kCat_q _) ?_
    refine k_aload_n B dX6_oldest_10 rfl (by first | exact kRf_r _ | exact kRf_q _ | exact kRf_n) ?_
    refine k_ifnullN B 31 dX6_oldest_11 (by decide) ?_
    refine k_iload_n B dX6_oldest_31 rfl ?_
    refine k_iret B hr dX6_oldest_32 ?_ (by first | exact Nat.le_of_ble_eq_true rfl | omega | (simp only [kR, Value.category, kCat_q, List.map, List.sum_cons, List.sum_nil]; omega)) (by first | exact Nat.le_of_ble_eq_true rfl | omega | (simp only [kR, Value.category, kCat_q, List.map, List.sum_cons, List.sum_nil]; omega))
    exact ⟨by rw [← hans]; rfl, rfl⟩
  | cons q t =>
    obtain ⟨a, q⟩ := q
    refine k_istore_n B dX6_oldest_4 (by decide) ?_
    try refine kK.set1 (by first | exact True.intro | rfl | exact kCat_q _) ?_
    refine k_aload_n B dX6_oldest_5 rfl (by first | exact kRf_r _ | exact kRf_q _ | exact kRf_n) ?_
    refine gf_X6_15 B dX6_oldest_6 hρ rfl ?_
    refine k_astore_n B dX6_oldest_9 (by decide) (by first | exact kRf_r _ | exact kRf_q _ | exact kRf_n) ?_
    try refine kK.set1 (by first | exact True.intro | rfl | exact kCat_q _) ?_
    refine loop ((a, q) :: t) q.2.1 hc (hy _ List.mem_cons_self) hy ?_
    rw [← hans]
    show nI (miS (kCon t) (if q.2.1 < q.2.1 then _ else _)) = _
    rw [if_neg (Nat.lt_irrefl _)]
    rfl
set_option maxRecDepth 100000 in
theorem c_X6_youngest (hl : l.stackTraces = false) (hρ : σ ρ = some (rowE u (hdA L) z)) (hc : pCh σ L) (hy : ∀ q ∈ L, q.2.2.1 < 2 ^ 31) : kMh hX6_youngest l D yX6_youngest 2 0 0 [.ref ρ] σ (fun v s2 => v = some (.int (match kCon L with | [] => -1 | q :: t => nI (maS t q.2.1))) ∧ s2 = σ) (fun _ => False) := by
  refine kM_of (L := [some (.ref ρ), none, none]) (by decide +kernel) hl (List.forall_mem_cons.mpr ⟨rfl, (fun _ h => absurd h List.not_mem_nil)⟩) (Nat.le_of_ble_eq_true rfl) rfl ?_
  intro p e s m args below meth c B hr hex hnm
  have B : kB p l s m args meth c D (kA σ s.heap.size) 3 cX6_youngest RX6 := B
  generalize hans : (match kCon L with | [] => -1 | q :: t => nI (maS t q.2.1)) = ans
  have loop : ∀ (T : kPs) (acc : Nat), pCh σ T → acc < 2 ^ 31 → (∀ q ∈ T, q.2.2.1 < 2 ^ 31) → nI (maS (kCon T) acc) = ans → kK p l e (kR 2 0 0) s m args below meth c D (kA σ s.heap.size) 3 (kQ below args s D σ (fun v s2 => v = some (.int ans) ∧ s2 = σ) (fun _ => False) 0 0) σ 0 0 10 [some (.ref ρ), some (.int (nI acc)), some (va_rf (hdA T))] [] := by
    intro T
    induction T with
    | nil =>
      intro acc hT ha hm hs
      refine k_aload_n B dX6_youngest_10 rfl (by first | exact kRf_r _ | exact kRf_q _ | exact kRf_n) ?_
      refine k_ifnullN B 31 dX6_youngest_11 (by decide) ?_
      refine k_iload_n B dX6_youngest_31 rfl ?_
      refine k_iret B hr dX6_youngest_32 ?_ (by first | exact Nat.le_of_ble_eq_true rfl | omega | (simp only [kR, Value.category, kCat_q, List.map, List.sum_cons, List.sum_nil]; omega)) (by first | exact Nat.le_of_ble_eq_true rfl | omega | (simp only [kR, Value.category, kCat_q, List.map, List.sum_cons, List.sum_nil]; omega))
      exact ⟨by rw [← hs]; rfl, rfl⟩
    | cons q t ih =>
      obtain ⟨a, q⟩ := q
      intro acc hT ha hm hs
      have hq := hm _ List.mem_cons_self
      refine k_aload_n B dX6_youngest_10 rfl (by first | exact kRf_r _ | exact kRf_q _ | exact kRf_n) ?_
      refine k_ifnullR B 31 dX6_youngest_11 (by decide) ?_
      refine k_iload_n B dX6_youngest_14 rfl ?_
      refine k_aload_n B dX6_youngest_15 rfl (by first | exact kRf_r _ | exact kRf_q _ | exact kRf_n) ?_
      refine gf_X6_32 B dX6_youngest_16 hT.1 rfl ?_
      refine mm_X6_51 B dX6_youngest_19 (by first | exact Nat.le_of_ble_eq_true rfl | omega | (simp only [kR, Value.category, kCat_q, List.map, List.sum_cons, List.sum_nil]; omega)) (by first | exact Nat.le_of_ble_eq_true rfl | omega | (simp only [kR, Value.category, kCat_q, List.map, List.sum_cons, List.sum_nil]; omega)) (by first | exact Nat.le_of_ble_eq_true rfl | omega | (simp only [kR, Value.category, kCat_q, List.map, List.sum_cons, List.sum_nil]; omega)) (by first | exact Nat.le_of_ble_eq_true rfl | omega | (simp only [kR, Value.category, kCat_q, List.map, List.sum_cons, List.sum_nil]; omega)) ?_
      refine kK.rei (y := nI (if acc < q.2.1 then q.2.1 else acc)) (nI_max ha hq) ?_
      refine k_istore_n B dX6_youngest_22 (by decide) ?_
      try refine kK.set1 (by first | exact True.intro | rfl | exact kCat_q _) ?_
      refine k_aload_n B dX6_youngest_23 rfl (by first | exact kRf_r _ | exact kRf_q _ | exact kRf_n) ?_
      refine gf_X6_22 B dX6_youngest_24 hT.1 rfl ?_
      refine k_astore_n B dX6_youngest_27 (by decide) (by first | exact kRf_r _ | exact kRf_q _ | exact kRf_n) ?_
      try refine kK.set1 (by first | exact True.intro | rfl | exact kCat_q _) ?_
      refine k_goto B 10 dX6_youngest_28 (by decide) ?_
      exact ih _ hT.2 (by split <;> assumption) (fun r hr => hm r (List.mem_cons_of_mem _ hr)) hs
  refine k_aload_n B dX6_youngest_0 rfl (by first | exact kRf_r _ | exact kRf_q _ | exact kRf_n) ?_
  refine cl_X6_41 B (c_X6_frontYear hl hρ hc) hρ dX6_youngest_1 (by first | exact Nat.le_of_ble_eq_true rfl | omega | (simp only [kR, Value.category, kCat_q, List.map, List.sum_cons, List.sum_nil]; omega)) (by first | exact Nat.le_of_ble_eq_true rfl | omega | (simp only [kR, Value.category, kCat_q, List.map, List.sum_cons, List.sum_nil]; omega)) (by first | exact Nat.le_of_ble_eq_true rfl | omega | (simp only [kR, Value.category, kCat_q, List.map, List.sum_cons, List.sum_nil]; omega)) (by first | exact Nat.le_of_ble_eq_true rfl | omega | (simp only [kR, Value.category, kCat_q, List.map, List.sum_cons, List.sum_nil]; omega)) (by first | exact Nat.le_of_ble_eq_true rfl | omega | (simp only [kR, Value.category, kCat_q, List.map, List.sum_cons, List.sum_nil]; omega)) (fun _ hx => hx.elim) (fun v1 s1 hp1 => ?_)
  obtain ⟨rfl, rfl⟩ := hp1
  cases L with
  | nil =>
    refine k_istore_n B dX6_youngest_4 (by decide) ?_
    try refine kK.set1 (by first | exact True.intro | rfl | exact kCat_q _) ?_
    refine k_aload_n B dX6_youngest_5 rfl (by first | exact kRf_r _ | exact kRf_q _ | exact kRf_n) ?_
    refine gf_X6_15 B dX6_youngest_6 hρ rfl ?_
    refine k_astore_n B dX6_youngest_9 (by decide) (by first | exact kRf_r _ | exact kRf_q _ | exact kRf_n) ?_
    try refine kK.set1 (by first | exact True.intro | rfl | exact kCat_q _) ?_
    refine k_aload_n B dX6_youngest_10 rfl (by first | exact kRf_r _ | exact kRf_q _ | exact kRf_n) ?_
    refine k_ifnullN B 31 dX6_youngest_11 (by decide) ?_
    refine k_iload_n B dX6_youngest_31 rfl ?_
    refine k_iret B hr dX6_youngest_32 ?_ (by first | exact Nat.le_of_ble_eq_true rfl | omega | (simp only [kR, Value.category, kCat_q, List.map, List.sum_cons, List.sum_nil]; omega)) (by first | exact Nat.le_of_ble_eq_true rfl | omega | (simp only [kR, Value.category, kCat_q, List.map, List.sum_cons, List.sum_nil]; omega))
    exact ⟨by rw [← hans]; rfl, rfl⟩
  | cons q t =>
    obtain ⟨a, q⟩ := q
    refine k_istore_n B dX6_youngest_4 (by decide) ?_
    try refine kK.set1 (by first | exact True.intro | rfl | exact kCat_q _) ?_
    refine k_aload_n B dX6_youngest_5 rfl (by first | exact kRf_r _ | exact kRf_q _ | exact kRf_n) ?_
    refine gf_X6_15 B dX6_youngest_6 hρ rfl ?_
    refine k_astore_n B dX6_youngest_9 (by decide) (by first | exact kRf_r _ | exact kRf_q _ | exact kRf_n) ?_
    try refine kK.set1 (by first | exact True.intro | rfl | exact kCat_q _) ?_
    refine loop ((a, q) :: t) q.2.1 hc (hy _ List.mem_cons_self) hy ?_
    rw [← hans]
    show nI (maS (kCon t) (if q.2.1 < q.2.1 then _ else _)) = _
    rw [if_neg (Nat.lt_irrefl _)]
    rfl
set_option maxRecDepth 100000 in
theorem c_X6_isEarlier (hl : l.stackTraces = false) {a b : Nat} {p1 q1 : kP} {x1 x2 : Option Nat} (ha : σ a = some (pE p1 x1)) (hb : σ b = some (pE q1 x2)) (h1 : p1.2.1 < 2 ^ 31) (h2 : q1.2.1 < 2 ^ 31) (h3 : p1.1 < 2 ^ 31) (h4 : q1.1 < 2 ^ 31) : kMh hX6_isEarlier l D yX6_isEarlier 1 0 0 [.ref a, .ref b] σ (fun v s2 => v = some (.int (if kEarlB p1 q1 = true then 1 else 0)) ∧ s2 = σ) (fun _ => False) := by
  refine kM_of (L := [some (.ref a), some (.ref b)]) (by decide +kernel) hl (List.forall_mem_cons.mpr ⟨rfl, (List.forall_mem_cons.mpr ⟨rfl, (fun _ h => absurd h List.not_mem_nil)⟩)⟩) (Nat.le_of_ble_eq_true rfl) rfl ?_
  intro p e s m args below meth c B hr hex hnm
  have B : kB p l s m args meth c D (kA σ s.heap.size) 2 cX6_isEarlier RX6 := B
  refine k_aload_n B dX6_isEarlier_0 rfl (by first | exact kRf_r _ | exact kRf_q _ | exact kRf_n) ?_
  refine gf_X6_32 B dX6_isEarlier_1 ha rfl ?_
  refine k_aload_n B dX6_isEarlier_4 rfl (by first | exact kRf_r _ | exact kRf_q _ | exact kRf_n) ?_
  refine gf_X6_32 B dX6_isEarlier_5 hb rfl ?_
  refine k_icmp_lt B 33 dX6_isEarlier_8 (by decide) (fun c8 => ?_) (fun c8 => ?_)
  · refine k_iconst B (v := 1) dX6_isEarlier_33 (by decide) ?_
    refine k_goto B 38 dX6_isEarlier_34 (by decide) ?_
    refine k_zret B hr dX6_isEarlier_38 (by rfl) ?_ (by first | exact Nat.le_of_ble_eq_true rfl | omega | (simp only [kR, Value.category, kCat_q, List.map, List.sum_cons, List.sum_nil]; omega)) (by first | exact Nat.le_of_ble_eq_true rfl | omega | (simp only [kR, Value.category, kCat_q, List.map, List.sum_cons, List.sum_nil]; omega))
    exact ⟨by rw [if_pos]; simp only [kEarlB, (nI_ltI h1 h2).mp c8, decide_true, Bool.true_or], rfl⟩
  · have n1 : ¬ p1.2.1 < q1.2.1 := fun h => c8 ((nI_ltI h1 h2).mpr h)
    refine k_aload_n B dX6_isEarlier_11 rfl (by first | exact kRf_r _ | exact kRf_q _ | exact kRf_n) ?_
    refine gf_X6_32 B dX6_isEarlier_12 ha rfl ?_
    refine k_aload_n B dX6_isEarlier_15 rfl (by first | exact kRf_r _ | exact kRf_q _ | exact kRf_n) ?_
    refine gf_X6_32 B dX6_isEarlier_16 hb rfl ?_
    refine k_icmp_ne B 37 dX6_isEarlier_19 (by decide) (fun c19 => ?_) (fun c19 => ?_)
    · refine k_iconst B (v := 0) dX6_isEarlier_37 (by decide) ?_
      refine k_zret B hr dX6_isEarlier_38 (by rfl) ?_ (by first | exact Nat.le_of_ble_eq_true rfl | omega | (simp only [kR, Value.category, kCat_q, List.map, List.sum_cons, List.sum_nil]; omega)) (by first | exact Nat.le_of_ble_eq_true rfl | omega | (simp only [kR, Value.category, kCat_q, List.map, List.sum_cons, List.sum_nil]; omega))
      have n2 : ¬ p1.2.1 = q1.2.1 := fun h => c19 (by show nI _ = nI _; rw [h])
      exact ⟨by rw [if_neg]; simp [kEarlB, n1, n2], rfl⟩
    · have n2 : p1.2.1 = q1.2.1 := (nI_eq h1 h2).mp c19
      refine k_aload_n B dX6_isEarlier_22 rfl (by first | exact kRf_r _ | exact kRf_q _ | exact kRf_n) ?_
      refine gf_X6_54 B dX6_isEarlier_23 ha rfl ?_
      refine k_aload_n B dX6_isEarlier_26 rfl (by first | exact kRf_r _ | exact kRf_q _ | exact kRf_n) ?_
      refine gf_X6_54 B dX6_isEarlier_27 hb rfl ?_
      refine k_icmp_ge B 37 dX6_isEarlier_30 (by decide) (fun c30 => ?_) (fun c30 => ?_)
      · refine k_iconst B (v := 0) dX6_isEarlier_37 (by decide) ?_
        refine k_zret B hr dX6_isEarlier_38 (by rfl) ?_ (by first | exact Nat.le_of_ble_eq_true rfl | omega | (simp only [kR, Value.category, kCat_q, List.map, List.sum_cons, List.sum_nil]; omega)) (by first | exact Nat.le_of_ble_eq_true rfl | omega | (simp only [kR, Value.category, kCat_q, List.map, List.sum_cons, List.sum_nil]; omega))
        have n3 : ¬ p1.1 < q1.1 := fun h => absurd ((nI_leI h4 h3).mp c30) (by omega)
        exact ⟨by rw [if_neg]; simp [kEarlB, n1, n3], rfl⟩
      · refine k_iconst B (v := 1) dX6_isEarlier_33 (by decide) ?_
        refine k_goto B 38 dX6_isEarlier_34 (by decide) ?_
        refine k_zret B hr dX6_isEarlier_38 (by rfl) ?_ (by first | exact Nat.le_of_ble_eq_true rfl | omega | (simp only [kR, Value.category, kCat_q, List.map, List.sum_cons, List.sum_nil]; omega)) (by first | exact Nat.le_of_ble_eq_true rfl | omega | (simp only [kR, Value.category, kCat_q, List.map, List.sum_cons, List.sum_nil]; omega))
        have n3 : p1.1 < q1.1 := by
          rcases Nat.lt_or_ge p1.1 q1.1 with h | h
          · exact h
          · exact absurd ((nI_leI h4 h3).mpr h) c30
        exact ⟨by rw [if_pos]; simp [kEarlB, n2, n3], rfl⟩
end RowR
