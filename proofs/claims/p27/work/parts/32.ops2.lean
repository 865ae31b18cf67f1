def gDrought (c a b : Int32) : Option String := gCell c (gRg a 0 100000 (gRg b 0 a none))
def nDrought (z : kSt) (c a b : Int32) : kSt := ((z.1.1, z.1.2.1, cN c, cN a, cN b, z.1.2.2.2.2.2), z.2)
def gShare (a : Int32) : Option String := gRg a 0 100 none
def rShare (z : kSt) : Int32 := nI (sCen z)
def nShare (z : kSt) (a : Int32) : kSt := ((z.1.1, cN a, z.1.2.2), z.2)
def gWell (z : kSt) (c w : Int32) : Option String := gCell c (gRg w 0 10000 (gSt (decide (sWn z < 6))))
def rWell (z : kSt) : Int32 := nI (sWn z)
def nWell (z : kSt) (c w : Int32) : kSt := (z.1, z.2.1, z.2.2.1, (sWn z + 1, upN (sW z) (sWn z) (cN c, cN w, 0)), z.2.2.2.2)
def gLot (z : kSt) (c : Int32) (g : Option String) : Option String := gIx c (nI (sLn z)) g
def nLot (z : kSt) (c : Int32) (t : kLo) : kSt := (z.1, z.2.1, z.2.2.1, z.2.2.2.1, (sLn z, upN (sLo z) (cN c) t))
def gTreat (z : kSt) (c q : Int32) : Option String := gLot z c (gIx q 6 (gSt (decide ((sLo z (cN c)).2.2.2.1 = -1))))
def rTreat (z : kSt) (c q : Int32) : Int32 := (sLo z (cN c)).2.2.1 ||| bitI q
def nTreat (z : kSt) (c q : Int32) : kSt := nLot z c ((sLo z (cN c)).1, (sLo z (cN c)).2.1, rTreat z c q, (sLo z (cN c)).2.2.2)
/-- whether a lot is water of a kind -/
def kindB (z : kSt) (c : Int32) (k : Int32) : Bool := okB k (sFb z) (sLo z (cN c)).2.2.1 (sLo z (cN c)).2.1 (sR z (11 + cN c))
def gLabel (z : kSt) (c q : Int32) : Option String := gLot z c (gRg q 0 2 (gSt (decide ((sLo z (cN c)).2.2.2.1 = -1))))
def rLabel (z : kSt) (c q : Int32) : Int32 := bI (kindB z c q)
def nLabel (z : kSt) (c q : Int32) : kSt := nLot z c ((sLo z (cN c)).1, (sLo z (cN c)).2.1, (sLo z (cN c)).2.2.1, q, rLabel z c q, (sLo z (cN c)).2.2.2.2.2)
theorem niS_le {P : List kP} {y : Nat} (h : ∀ q ∈ P, pOk y q) : niS P ≤ 10 * unS P := by
  induction P with
  | nil => decide
  | cons q t ih =>
    have h1 := ih (fun r hr => h r (List.mem_cons_of_mem _ hr))
    have h2 := (h q List.mem_cons_self).2.2.1
    have h3 : kUn q * q.2.2.1 ≤ kUn q * 10 := Nat.mul_le_mul_left _ h2
    simp only [niS, unS]
    omega
theorem kCon_mem {L : kPs} {q : Nat × kP} (h : q ∈ L) : q.2 ∈ kCon L := List.mem_map_of_mem h
section Ops2
variable {l : Launch} {D : va_G} {σ : kS} {aO : Nat} {z : kSt} {J : List kJe} {F : kF}
set_option maxRecDepth 100000 in
theorem c_X9_drought (hl : l.stackTraces = false) (hs : sOk z) (h : cl9 D aO z J F σ) {c9 y w : Int32} : kMh hX9_drought l D yX9_drought 8 3 18 [.ref aO, .int c9, .int y, .int w] σ (fun v s2 => gDrought c9 y w = none ∧ v = none ∧ cl9 D aO (nDrought z c9 y w) J F s2 ∧ kFr k9F σ s2) (fun E => gDrought c9 y w = some E) := by
  refine kM_of (L := [some (.ref aO), some (.int c9), some (.int y), some (.int w), none]) (by decide +kernel) hl (List.forall_mem_cons.mpr ⟨rfl, (List.forall_mem_cons.mpr ⟨rfl, (List.forall_mem_cons.mpr ⟨rfl, (List.forall_mem_cons.mpr ⟨rfl, (fun _ h => absurd h List.not_mem_nil)⟩)⟩)⟩)⟩) (Nat.le_of_ble_eq_true rfl) rfl ?_
  intro p e s m args below meth c B hr hex hnm
  have B : kB p l s m args meth c D (kA σ s.heap.size) 5 cX9_drought RX9 := B
  obtain ⟨cA, wA, lA, aJ, cad, ra, wad, lad, R, h⟩ := h
  refine k_aload_n B dX9_drought_0 rfl (by first | exact kRf_r _ | exact kRf_q _ | exact kRf_n) ?_
  refine k_iload_n B dX9_drought_1 rfl ?_
  refine cl_X9_52 B (c_X9_cellAt hl h) h.o dX9_drought_2 (by first | exact Nat.le_of_ble_eq_true rfl | omega | (simp only [kR, Value.category, kCat_q, List.map, List.sum_cons, List.sum_nil]; omega)) (by first | exact Nat.le_of_ble_eq_true rfl | omega | (simp only [kR, Value.category, kCat_q, List.map, List.sum_cons, List.sum_nil]; omega)) (by first | exact Nat.le_of_ble_eq_true rfl | omega | (simp only [kR, Value.category, kCat_q, List.map, List.sum_cons, List.sum_nil]; omega)) (by first | exact Nat.le_of_ble_eq_true rfl | omega | (simp only [kR, Value.category, kCat_q, List.map, List.sum_cons, List.sum_nil]; omega)) (by first | exact Nat.le_of_ble_eq_true rfl | omega | (simp only [kR, Value.category, kCat_q, List.map, List.sum_cons, List.sum_nil]; omega)) (fun E hE => k_xout B hex (fun _ _ h => h) (gCell_n hE) (by decide) (by decide)) (fun v2 s2 hp2 => ?_)
  obtain ⟨e2, i, hi, e3, rfl⟩ := hp2
  rw [e2]
  subst e3
  have g1 := nI_10 hi
  refine k_astore B dX9_drought_5 (by decide) (by first | exact kRf_r _ | exact kRf_q _ | exact kRf_n) ?_
  try refine kK.set1 (by first | exact True.intro | rfl | exact kCat_q _) ?_
  refine k_iload_n B dX9_drought_7 rfl ?_
  refine k_iconst B (v := 0) dX9_drought_8 (by decide) ?_
  refine k_ldc B qw641 dX9_drought_9 ?_
  refine cl_X9_56 B (c_X9_needRange hl) dX9_drought_11 (by first | exact Nat.le_of_ble_eq_true rfl | omega | (simp only [kR, Value.category, kCat_q, List.map, List.sum_cons, List.sum_nil]; omega)) (by first | exact Nat.le_of_ble_eq_true rfl | omega | (simp only [kR, Value.category, kCat_q, List.map, List.sum_cons, List.sum_nil]; omega)) (by first | exact Nat.le_of_ble_eq_true rfl | omega | (simp only [kR, Value.category, kCat_q, List.map, List.sum_cons, List.sum_nil]; omega)) (by first | exact Nat.le_of_ble_eq_true rfl | omega | (simp only [kR, Value.category, kCat_q, List.map, List.sum_cons, List.sum_nil]; omega)) (by first | exact Nat.le_of_ble_eq_true rfl | omega | (simp only [kR, Value.category, kCat_q, List.map, List.sum_cons, List.sum_nil]; omega)) (fun E hE => k_xout B hex (fun _ _ h => h) ((gCell_p g1).trans (gRg_n hE)) (by decide) (by decide)) (fun v11 s11 hp11 => ?_)
  obtain ⟨rfl, e11, g2⟩ := hp11
  rw [e11]
  refine k_iload_n B dX9_drought_14 rfl ?_
  refine k_iconst B (v := 0) dX9_drought_15 (by decide) ?_
  refine k_iload_n B dX9_drought_16 rfl ?_
  refine cl_X9_56 B (c_X9_needRange hl) dX9_drought_17 (by first | exact Nat.le_of_ble_eq_true rfl | omega | (simp only [kR, Value.category, kCat_q, List.map, List.sum_cons, List.sum_nil]; omega)) (by first | exact Nat.le_of_ble_eq_true rfl | omega | (simp only [kR, Value.category, kCat_q, List.map, List.sum_cons, List.sum_nil]; omega)) (by first | exact Nat.le_of_ble_eq_true rfl | omega | (simp only [kR, Value.category, kCat_q, List.map, List.sum_cons, List.sum_nil]; omega)) (by first | exact Nat.le_of_ble_eq_true rfl | omega | (simp only [kR, Value.category, kCat_q, List.map, List.sum_cons, List.sum_nil]; omega)) (by first | exact Nat.le_of_ble_eq_true rfl | omega | (simp only [kR, Value.category, kCat_q, List.map, List.sum_cons, List.sum_nil]; omega)) (fun E hE => k_xout B hex (fun _ _ h => h) ((gCell_p g1).trans ((gRg_p g2).trans (gRg_n hE))) (by decide) (by decide)) (fun v17 s17 hp17 => ?_)
  obtain ⟨rfl, e17, g3⟩ := hp17
  rw [e17]
  obtain ⟨j, hj1, hj2, ej⟩ := inR_of (a := 0) (n := 100000) rfl rfl (by decide) (by decide) g2
  subst ej
  obtain ⟨j2, hj3, hj4, ej2⟩ := inR_of (a := 0) (n := j) rfl rfl (by omega) (by omega) g3
  subst ej2
  refine k_aload_n B dX9_drought_20 rfl (by first | exact kRf_r _ | exact kRf_q _ | exact kRf_n) ?_
  refine k_aload B dX9_drought_21 rfl (by first | exact kRf_r _ | exact kRf_q _ | exact kRf_n) ?_
  refine pf_X9_18 B dX9_drought_23 h.o rfl (by first | exact kRf_r _ | exact kRf_q _ | exact kRf_n) ?_
  refine k_aload_n B dX9_drought_26 rfl (by first | exact kRf_r _ | exact kRf_q _ | exact kRf_n) ?_
  refine k_iload_n B dX9_drought_27 rfl ?_
  refine pf_X9_160 B dX9_drought_28 kUp_eq rfl ?_
  refine k_aload_n B dX9_drought_31 rfl (by first | exact kRf_r _ | exact kRf_q _ | exact kRf_n) ?_
  refine k_iload_n B dX9_drought_32 rfl ?_
  refine pf_X9_163 B dX9_drought_33 kUp_eq rfl ?_
  refine kK.eq ((congrArg (fun x => kUp x aO _) kUp_uu).trans kUp_uu) ?_
  refine k_vret B hr dX9_drought_36 ?_ (by first | exact Nat.le_of_ble_eq_true rfl | omega | (simp only [kR, Value.category, kCat_q, List.map, List.sum_cons, List.sum_nil]; omega)) (by first | exact Nat.le_of_ble_eq_true rfl | omega | (simp only [kR, Value.category, kCat_q, List.map, List.sum_cons, List.sum_nil]; omega))
  refine ⟨(gCell_p g1).trans ((gRg_p g2).trans (gRg_p g3)), rfl, ⟨cA, wA, lA, aJ, cad, ra, wad, lad, R, ?_⟩, kFr.up h.o (Or.inl (show (9 : Nat) ≤ 9 by decide))⟩
  rw [nDrought, cN_nI (by omega), cN_nI (by omega), cN_nI (by omega)]
  exact h.obj _
set_option maxRecDepth 100000 in
theorem c_X9_share (hl : l.stackTraces = false) (h : cl9 D aO z J F σ) {y : Int32} : kMh hX9_share l D yX9_share 8 1 6 [.ref aO, .int y] σ (fun v s2 => gShare y = none ∧ v = some (.int (rShare z)) ∧ cl9 D aO (nShare z y) J F s2 ∧ kFr k9F σ s2) (fun E => gShare y = some E) := by
  refine kM_of (L := [some (.ref aO), some (.int y), none]) (by decide +kernel) hl (List.forall_mem_cons.mpr ⟨rfl, (List.forall_mem_cons.mpr ⟨rfl, (fun _ h => absurd h List.not_mem_nil)⟩)⟩) (Nat.le_of_ble_eq_true rfl) rfl ?_
  intro p e s m args below meth c B hr hex hnm
  have B : kB p l s m args meth c D (kA σ s.heap.size) 3 cX9_share RX9 := B
  obtain ⟨cA, wA, lA, aJ, cad, ra, wad, lad, R, h⟩ := h
  refine k_iload_n B dX9_share_0 rfl ?_
  refine k_iconst B (v := 0) dX9_share_1 (by decide) ?_
  refine k_bipush B (v := 100) dX9_share_2 (by decide) ?_
  refine cl_X9_56 B (c_X9_needRange hl) dX9_share_4 (by first | exact Nat.le_of_ble_eq_true rfl | omega | (simp only [kR, Value.category, kCat_q, List.map, List.sum_cons, List.sum_nil]; omega)) (by first | exact Nat.le_of_ble_eq_true rfl | omega | (simp only [kR, Value.category, kCat_q, List.map, List.sum_cons, List.sum_nil]; omega)) (by first | exact Nat.le_of_ble_eq_true rfl | omega | (simp only [kR, Value.category, kCat_q, List.map, List.sum_cons, List.sum_nil]; omega)) (by first | exact Nat.le_of_ble_eq_true rfl | omega | (simp only [kR, Value.category, kCat_q, List.map, List.sum_cons, List.sum_nil]; omega)) (by first | exact Nat.le_of_ble_eq_true rfl | omega | (simp only [kR, Value.category, kCat_q, List.map, List.sum_cons, List.sum_nil]; omega)) (fun E hE => k_xout B hex (fun _ _ h => h) (gRg_n hE) (by decide) (by decide)) (fun v4 s4 hp4 => ?_)
  obtain ⟨rfl, e4, g2⟩ := hp4
  rw [e4]
  obtain ⟨j, hj1, hj2, ej⟩ := inR_of (a := 0) (n := 100) rfl rfl (by decide) (by decide) g2
  subst ej
  refine k_aload_n B dX9_share_7 rfl (by first | exact kRf_r _ | exact kRf_q _ | exact kRf_n) ?_
  refine gf_X9_48 B dX9_share_8 h.o rfl ?_
  refine k_istore_n B dX9_share_11 (by decide) ?_
  try refine kK.set1 (by first | exact True.intro | rfl | exact kCat_q _) ?_
  refine k_aload_n B dX9_share_12 rfl (by first | exact kRf_r _ | exact kRf_q _ | exact kRf_n) ?_
  refine k_iload_n B dX9_share_13 rfl ?_
  refine pf_X9_48 B dX9_share_14 h.o rfl ?_
  refine k_iload_n B dX9_share_17 rfl ?_
  refine k_iret B hr dX9_share_18 ?_ (by first | exact Nat.le_of_ble_eq_true rfl | omega | (simp only [kR, Value.category, kCat_q, List.map, List.sum_cons, List.sum_nil]; omega)) (by first | exact Nat.le_of_ble_eq_true rfl | omega | (simp only [kR, Value.category, kCat_q, List.map, List.sum_cons, List.sum_nil]; omega))
  refine ⟨gRg_p g2, rfl, ⟨cA, wA, lA, aJ, cad, ra, wad, lad, R, ?_⟩, kFr.up h.o (Or.inl (show (9 : Nat) ≤ 9 by decide))⟩
  rw [nShare, cN_nI (by omega)]
  exact h.obj _
set_option maxRecDepth 100000 in
theorem c_X9_year (hl : l.stackTraces = false) (h : cl9 D aO z J F σ) : kMh hX9_year l D yX9_year 1 0 0 [.ref aO] σ (fun v s2 => v = some (.int (nI (sNow z))) ∧ s2 = σ) (fun _ => False) := by
  refine kM_of (L := [some (.ref aO)]) (by decide +kernel) hl (List.forall_mem_cons.mpr ⟨rfl, (fun _ h => absurd h List.not_mem_nil)⟩) (Nat.le_of_ble_eq_true rfl) rfl ?_
  intro p e s m args below meth c B hr hex hnm
  have B : kB p l s m args meth c D (kA σ s.heap.size) 1 cX9_year RX9 := B
  obtain ⟨cA, wA, lA, aJ, cad, ra, wad, lad, R, h⟩ := h
  refine k_aload_n B dX9_year_0 rfl (by first | exact kRf_r _ | exact kRf_q _ | exact kRf_n) ?_
  refine gf_X9_96 B dX9_year_1 h.o rfl ?_
  refine k_iret B hr dX9_year_4 ?_ (by first | exact Nat.le_of_ble_eq_true rfl | omega | (simp only [kR, Value.category, kCat_q, List.map, List.sum_cons, List.sum_nil]; omega)) (by first | exact Nat.le_of_ble_eq_true rfl | omega | (simp only [kR, Value.category, kCat_q, List.map, List.sum_cons, List.sum_nil]; omega))
  exact ⟨rfl, rfl⟩
set_option maxHeartbeats 1000000 in
set_option maxRecDepth 100000 in
theorem c_X9_well (hl : l.stackTraces = false) (hs : sOk z) (h : cl9 D aO z J F σ) {c9 y : Int32} : kMh hX9_well l D yX9_well 8 4 21 [.ref aO, .int c9, .int y] σ (fun v s2 => gWell z c9 y = none ∧ v = some (.int (rWell z)) ∧ cl9 D aO (nWell z c9 y) J F s2 ∧ kFr k9F σ s2) (fun E => gWell z c9 y = some E) := by
  refine kM_of (L := [some (.ref aO), some (.int c9), some (.int y), none, none]) (by decide +kernel) hl (List.forall_mem_cons.mpr ⟨rfl, (List.forall_mem_cons.mpr ⟨rfl, (List.forall_mem_cons.mpr ⟨rfl, (fun _ h => absurd h List.not_mem_nil)⟩)⟩)⟩) (Nat.le_of_ble_eq_true rfl) rfl ?_
  intro p e s m args below meth c B hr hex hnm
  have B : kB p l s m args meth c D (kA σ s.heap.size) 5 cX9_well RX9 := B
  obtain ⟨cA, wA, lA, aJ, cad, ra, wad, lad, R, h⟩ := h
  refine k_aload_n B dX9_well_0 rfl (by first | exact kRf_r _ | exact kRf_q _ | exact kRf_n) ?_
  refine k_iload_n B dX9_well_1 rfl ?_
  refine cl_X9_52 B (c_X9_cellAt hl h) h.o dX9_well_2 (by first | exact Nat.le_of_ble_eq_true rfl | omega | (simp only [kR, Value.category, kCat_q, List.map, List.sum_cons, List.sum_nil]; omega)) (by first | exact Nat.le_of_ble_eq_true rfl | omega | (simp only [kR, Value.category, kCat_q, List.map, List.sum_cons, List.sum_nil]; omega)) (by first | exact Nat.le_of_ble_eq_true rfl | omega | (simp only [kR, Value.category, kCat_q, List.map, List.sum_cons, List.sum_nil]; omega)) (by first | exact Nat.le_of_ble_eq_true rfl | omega | (simp only [kR, Value.category, kCat_q, List.map, List.sum_cons, List.sum_nil]; omega)) (by first | exact Nat.le_of_ble_eq_true rfl | omega | (simp only [kR, Value.category, kCat_q, List.map, List.sum_cons, List.sum_nil]; omega)) (fun E hE => k_xout B hex (fun _ _ h => h) (gCell_n hE) (by decide) (by decide)) (fun v2 s2 hp2 => ?_)
  obtain ⟨e2, i, hi, e3, rfl⟩ := hp2
  rw [e2]
  subst e3
  have g1 := nI_10 hi
  refine k_astore_n B dX9_well_5 (by decide) (by first | exact kRf_r _ | exact kRf_q _ | exact kRf_n) ?_
  try refine kK.set1 (by first | exact True.intro | rfl | exact kCat_q _) ?_
  refine k_iload_n B dX9_well_6 rfl ?_
  refine k_iconst B (v := 0) dX9_well_7 (by decide) ?_
  refine k_sipush B (v := 10000) dX9_well_8 (by decide) ?_
  refine cl_X9_56 B (c_X9_needRange hl) dX9_well_11 (by first | exact Nat.le_of_ble_eq_true rfl | omega | (simp only [kR, Value.category, kCat_q, List.map, List.sum_cons, List.sum_nil]; omega)) (by first | exact Nat.le_of_ble_eq_true rfl | omega | (simp only [kR, Value.category, kCat_q, List.map, List.sum_cons, List.sum_nil]; omega)) (by first | exact Nat.le_of_ble_eq_true rfl | omega | (simp only [kR, Value.category, kCat_q, List.map, List.sum_cons, List.sum_nil]; omega)) (by first | exact Nat.le_of_ble_eq_true rfl | omega | (simp only [kR, Value.category, kCat_q, List.map, List.sum_cons, List.sum_nil]; omega)) (by first | exact Nat.le_of_ble_eq_true rfl | omega | (simp only [kR, Value.category, kCat_q, List.map, List.sum_cons, List.sum_nil]; omega)) (fun E hE => k_xout B hex (fun _ _ h => h) ((gCell_p g1).trans (gRg_n hE)) (by decide) (by decide)) (fun v11 s11 hp11 => ?_)
  obtain ⟨rfl, e11, g2⟩ := hp11
  rw [e11]
  obtain ⟨j, hj1, hj2, ej⟩ := inR_of (a := 0) (n := 10000) rfl rfl (by decide) (by decide) g2
  subst ej
  have gg : gWell z (nI i) (nI j) = gSt (decide (sWn z < 6)) := (gCell_p g1).trans (gRg_p g2)
  have hw6 := hs.2.2.1.1
  refine k_aload_n B dX9_well_14 rfl (by first | exact kRf_r _ | exact kRf_q _ | exact kRf_n) ?_
  refine gf_X9_112 B dX9_well_15 h.o rfl ?_
  refine k_bipush B (v := 6) dX9_well_18 (by decide) ?_
  refine k_icmp_ge B 27 dX9_well_20 (by decide) (fun c20 => ?_) (fun c20 => ?_)
  · rename_i c20
    have hn : ¬ sWn z < 6 := fun q => nI_ge q (by decide) c20
    refine k_iconst B (v := 0) dX9_well_27 (by decide) ?_
    refine cl_X9_66 B (c_X9_needState hl) dX9_well_28 (by first | exact Nat.le_of_ble_eq_true rfl | omega | (simp only [kR, Value.category, kCat_q, List.map, List.sum_cons, List.sum_nil]; omega)) (by first | exact Nat.le_of_ble_eq_true rfl | omega | (simp only [kR, Value.category, kCat_q, List.map, List.sum_cons, List.sum_nil]; omega)) (by first | exact Nat.le_of_ble_eq_true rfl | omega | (simp only [kR, Value.category, kCat_q, List.map, List.sum_cons, List.sum_nil]; omega)) (by first | exact Nat.le_of_ble_eq_true rfl | omega | (simp only [kR, Value.category, kCat_q, List.map, List.sum_cons, List.sum_nil]; omega)) (by first | exact Nat.le_of_ble_eq_true rfl | omega | (simp only [kR, Value.category, kCat_q, List.map, List.sum_cons, List.sum_nil]; omega)) (fun E hE => k_xout B hex (fun _ _ h => h) (gg.trans (gSt_f (decide_eq_false hn) hE.1)) (by decide) (by decide)) (fun v28 s28 hp28 => ?_)
    exact absurd rfl hp28.2.2
  · rename_i c20
    have hn : sWn z < 6 := (nI_ltI (by omega) (by decide)).mp (Int32.not_le.mp c20)
    refine k_iconst B (v := 1) dX9_well_23 (by decide) ?_
    refine k_goto B 28 dX9_well_24 (by decide) ?_
    refine cl_X9_66 B (c_X9_needState hl) dX9_well_28 (by first | exact Nat.le_of_ble_eq_true rfl | omega | (simp only [kR, Value.category, kCat_q, List.map, List.sum_cons, List.sum_nil]; omega)) (by first | exact Nat.le_of_ble_eq_true rfl | omega | (simp only [kR, Value.category, kCat_q, List.map, List.sum_cons, List.sum_nil]; omega)) (by first | exact Nat.le_of_ble_eq_true rfl | omega | (simp only [kR, Value.category, kCat_q, List.map, List.sum_cons, List.sum_nil]; omega)) (by first | exact Nat.le_of_ble_eq_true rfl | omega | (simp only [kR, Value.category, kCat_q, List.map, List.sum_cons, List.sum_nil]; omega)) (by first | exact Nat.le_of_ble_eq_true rfl | omega | (simp only [kR, Value.category, kCat_q, List.map, List.sum_cons, List.sum_nil]; omega)) (fun E hE => absurd hE.2 (by decide)) (fun v28 s28 hp28 => ?_)
    obtain ⟨rfl, e28, -⟩ := hp28
    rw [e28]
    refine k_aload_n B dX9_well_31 rfl (by first | exact kRf_r _ | exact kRf_q _ | exact kRf_n) ?_
    refine gf_X9_112 B dX9_well_32 h.o rfl ?_
    refine k_istore B dX9_well_35 (by decide) ?_
    try refine kK.set1 (by first | exact True.intro | rfl | exact kCat_q _) ?_
    refine k_aload_n B dX9_well_37 rfl (by first | exact kRf_r _ | exact kRf_q _ | exact kRf_n) ?_
    refine gf_X9_24 B dX9_well_38 h.o rfl ?_
    refine k_iload B dX9_well_41 rfl ?_
    refine nw_X9_22 B dX9_well_43 (by first | exact Nat.le_of_ble_eq_true rfl | omega | (simp only [kR, Value.category, kCat_q, List.map, List.sum_cons, List.sum_nil]; omega)) (by first | exact Nat.le_of_ble_eq_true rfl | omega | (simp only [kR, Value.category, kCat_q, List.map, List.sum_cons, List.sum_nil]; omega)) (fun q43 hq43 => ?_)
    refine k_dup B dX9_well_46 rfl ?_
    refine k_aload_n B dX9_well_47 rfl (by first | exact kRf_r _ | exact kRf_q _ | exact kRf_n) ?_
    refine k_iload_n B dX9_well_48 rfl ?_
    refine cl_X9_156 B (c_X8_init hl kUp_eq) dX9_well_49 (by first | exact Nat.le_of_ble_eq_true rfl | omega | (simp only [kR, Value.category, kCat_q, List.map, List.sum_cons, List.sum_nil]; omega)) (by first | exact Nat.le_of_ble_eq_true rfl | omega | (simp only [kR, Value.category, kCat_q, List.map, List.sum_cons, List.sum_nil]; omega)) (by first | exact Nat.le_of_ble_eq_true rfl | omega | (simp only [kR, Value.category, kCat_q, List.map, List.sum_cons, List.sum_nil]; omega)) (by first | exact Nat.le_of_ble_eq_true rfl | omega | (simp only [kR, Value.category, kCat_q, List.map, List.sum_cons, List.sum_nil]; omega)) (by first | exact Nat.le_of_ble_eq_true rfl | omega | (simp only [kR, Value.category, kCat_q, List.map, List.sum_cons, List.sum_nil]; omega)) (fun _ hx => hx.elim) (fun v49 s49 hp49 => ?_)
    obtain ⟨rfl, e49⟩ := hp49
    have e49b : s49 = kUp σ q43 (wE cad (i, j, 0)) := e49.trans kUp_uu
    rw [e49b]
    obtain ⟨fw, f1, f2⟩ := h.aw
    have nO : aO ≠ q43 := kNeN h.o hq43
    have nW : wA ≠ q43 := kNeN f1 hq43
    refine k_aast B (ti := 5) (C := RX8) rfl (ci := 8) rfl dX9_well_52 (kUp_o nW f1) kUp_eq (vp_in_nI hn (by decide)) ?_
    have nOW : aO ≠ wA := kNeL h.o f1
    have o3 := kUp_o (e := .inl (D.1 16, 6, .inr (.inr (.inr (.inr (va_up fw (nI (sWn z)).toNatClampNeg (some q43))))))) nOW (kUp_o (e := wE cad (i, j, 0)) nO h.o)
    refine k_aload_n B dX9_well_53 rfl (by first | exact kRf_r _ | exact kRf_q _ | exact kRf_n) ?_
    refine k_dup B dX9_well_54 rfl ?_
    refine gf_X9_112 B dX9_well_55 o3 rfl ?_
    refine k_iconst B (v := 1) dX9_well_58 (by decide) ?_
    refine k_iadd B dX9_well_59 ?_
    refine pf_X9_112 B dX9_well_60 o3 rfl ?_
    generalize hs4 : kUp (kUp (kUp σ q43 _) wA _) aO _ = s4
    have o4 : s4 aO = some (o9E cA wA lA (ra 10) aJ (cad (sDr z)) (nWell z (nI i) (nI j))) := by rw [← hs4, kUp_eq, nI_1]; rfl
    have kk : ∀ P : va_E → Prop, (∀ e, kC e = 9 → ¬ P e) → (∀ e, isAr 6 e → ¬ P e) → kKp P σ s4 := fun P p1 p2 => by
      rw [← hs4]
      exact ((kKp.new hq43).tr (kKp.up (kUp_o nW f1) (p2 _ rfl))).tr (kKp.up o3 (p1 _ rfl))
    have hA6 : ∀ N e, N ≠ 6 → isAr 6 e → ¬ isAr N e := by
      intro N e hN q q2
      obtain ⟨c1, M, f | f | f | f | f⟩ | f := e
      all_goals first | exact q.elim | exact hN (q2.symm.trans q)
    have h6C : ∀ e, isAr 6 e → kC e = 15 := by
      intro e q
      obtain ⟨c1, M, f | f | f | f | f⟩ | f := e
      all_goals first | exact q.elim | rfl
    refine k_iload B dX9_well_63 rfl ?_
    refine k_iret B hr dX9_well_65 ?_ (by first | exact Nat.le_of_ble_eq_true rfl | omega | (simp only [kR, Value.category, kCat_q, List.map, List.sum_cons, List.sum_nil]; omega)) (by first | exact Nat.le_of_ble_eq_true rfl | omega | (simp only [kR, Value.category, kCat_q, List.map, List.sum_cons, List.sum_nil]; omega))
    refine ⟨gg.trans (gSt_t (decide_eq_true hn)), rfl, ⟨cA, wA, lA, aJ, cad, ra, upN wad (sWn z) q43, lad, R, o4, h.a.keep (kk _ (fun e q => noAr q (by decide)) (hA6 10 · (by decide))), ⟨va_up fw (nI (sWn z)).toNatClampNeg (some q43), ?_, fun a ha => ?_⟩, h.al.keep (kk _ (fun e q => noAr q (by decide)) (hA6 40 · (by decide))), h.c.keep (kk _ (fun e q => noK q (by decide)) (fun e q => noK (h6C e q) (by decide))), ?_, h.lo.keep (kk _ (fun e q => noK q (by decide)) (fun e q => noK (h6C e q) (by decide))), h.r.keep (kk _ (fun e q => noR q (by decide)) (fun e q => noR (h6C e q) (by decide))), h.rc, h.j.keep (kk _ (fun e q => noJ q (by decide)) (fun e q => ?_))⟩, ?_⟩
    · rw [← hs4]; exact kUp_o (Ne.symm nOW) kUp_eq
    · have ha : a < sWn z + 1 := ha
      rw [nI_clamp (by omega), va_up]
      by_cases q : a = sWn z
      · rw [q, upN_eq, if_pos rfl]
      · rw [upN_ne q, if_neg q]; exact f2 a (by omega)
    · have hw := h.w.snoc (kk _ (fun e q => noK q (by decide)) (fun e q => noK (h6C e q) (by decide))) (w := (i, j, 0)) hq43 (by rw [← hs4]; exact kUp_o (Ne.symm nO) (kUp_o (Ne.symm nW) kUp_eq))
      have e9 : nWell z (nI i) (nI j) = (z.1, z.2.1, z.2.2.1, (sWn z + 1, upN (sW z) (sWn z) (i, j, 0)), z.2.2.2.2) := by rw [nWell, cN_nI (by omega), cN_nI (by omega)]
      rw [e9]
      exact hw
    · intro q2
      rcases q2 with q2 | q2 | q2 | q2 | q2
      · have := (h6C e q).symm.trans q2; exact absurd this (by decide)
      · have := (h6C e q).symm.trans q2; exact absurd this (by decide)
      · have := (h6C e q).symm.trans q2; exact absurd this (by decide)
      · have := (h6C e q).symm.trans q2; exact absurd this (by decide)
      · exact hA6 10 e (by decide) q q2
    · rw [← hs4]
      exact ((kFr.new hq43).tr (kFr.up (kUp_o nW f1) (Or.inr (show (15 : Nat) = 15 from rfl)))).tr (kFr.up o3 (Or.inl (show (9 : Nat) ≤ 9 by decide)))
set_option maxRecDepth 100000 in
theorem c_X9_treat (hl : l.stackTraces = false) (hs : sOk z) (h : cl9 D aO z J F σ) {c9 y : Int32} : kMh hX9_treat l D yX9_treat 8 3 18 [.ref aO, .int c9, .int y] σ (fun v s2 => gTreat z c9 y = none ∧ v = some (.int (rTreat z c9 y)) ∧ cl9 D aO (nTreat z c9 y) J F s2 ∧ kFr k9F σ s2) (fun E => gTreat z c9 y = some E) := by
  refine kM_of (L := [some (.ref aO), some (.int c9), some (.int y), none]) (by decide +kernel) hl (List.forall_mem_cons.mpr ⟨rfl, (List.forall_mem_cons.mpr ⟨rfl, (List.forall_mem_cons.mpr ⟨rfl, (fun _ h => absurd h List.not_mem_nil)⟩)⟩)⟩) (Nat.le_of_ble_eq_true rfl) rfl ?_
  intro p e s m args below meth c B hr hex hnm
  have B : kB p l s m args meth c D (kA σ s.heap.size) 4 cX9_treat RX9 := B
  obtain ⟨cA, wA, lA, aJ, cad, ra, wad, lad, R, h⟩ := h
  have hl40 := hs.2.2.2.1.1
  refine k_aload_n B dX9_treat_0 rfl (by first | exact kRf_r _ | exact kRf_q _ | exact kRf_n) ?_
  refine k_iload_n B dX9_treat_1 rfl ?_
  refine cl_X9_198 B (c_X9_lotAt hl h hl40) h.o dX9_treat_2 (by first | exact Nat.le_of_ble_eq_true rfl | omega | (simp only [kR, Value.category, kCat_q, List.map, List.sum_cons, List.sum_nil]; omega)) (by first | exact Nat.le_of_ble_eq_true rfl | omega | (simp only [kR, Value.category, kCat_q, List.map, List.sum_cons, List.sum_nil]; omega)) (by first | exact Nat.le_of_ble_eq_true rfl | omega | (simp only [kR, Value.category, kCat_q, List.map, List.sum_cons, List.sum_nil]; omega)) (by first | exact Nat.le_of_ble_eq_true rfl | omega | (simp only [kR, Value.category, kCat_q, List.map, List.sum_cons, List.sum_nil]; omega)) (by first | exact Nat.le_of_ble_eq_true rfl | omega | (simp only [kR, Value.category, kCat_q, List.map, List.sum_cons, List.sum_nil]; omega)) (fun E hE => k_xout B hex (fun _ _ h => h) (gIx_n hE) (by decide) (by decide)) (fun v2 s2 hp2 => ?_)
  obtain ⟨e2, i, hi, e3, rfl⟩ := hp2
  rw [e2]
  subst e3
  have g1 : 0 ≤ nI i ∧ nI i < nI (sLn z) := ⟨nI_pos' (by omega), nI_lt hi (by omega)⟩
  refine k_astore_n B dX9_treat_5 (by decide) (by first | exact kRf_r _ | exact kRf_q _ | exact kRf_n) ?_
  try refine kK.set1 (by first | exact True.intro | rfl | exact kCat_q _) ?_
  refine k_iload_n B dX9_treat_6 rfl ?_
  refine k_bipush B (v := 6) dX9_treat_7 (by decide) ?_
  refine cl_X9_83 B (c_X9_needIndex hl) dX9_treat_9 (by first | exact Nat.le_of_ble_eq_true rfl | omega | (simp only [kR, Value.category, kCat_q, List.map, List.sum_cons, List.sum_nil]; omega)) (by first | exact Nat.le_of_ble_eq_true rfl | omega | (simp only [kR, Value.category, kCat_q, List.map, List.sum_cons, List.sum_nil]; omega)) (by first | exact Nat.le_of_ble_eq_true rfl | omega | (simp only [kR, Value.category, kCat_q, List.map, List.sum_cons, List.sum_nil]; omega)) (by first | exact Nat.le_of_ble_eq_true rfl | omega | (simp only [kR, Value.category, kCat_q, List.map, List.sum_cons, List.sum_nil]; omega)) (by first | exact Nat.le_of_ble_eq_true rfl | omega | (simp only [kR, Value.category, kCat_q, List.map, List.sum_cons, List.sum_nil]; omega)) (fun E hE => k_xout B hex (fun _ _ h => h) ((gIx_p g1).trans (gIx_n hE)) (by decide) (by decide)) (fun v9 s9 hp9 => ?_)
  obtain ⟨rfl, e9, g2⟩ := hp9
  rw [e9]
  have gg : gTreat z (nI i) y = gSt (decide ((sLo z i).2.2.2.1 = -1)) := by rw [gTreat, gLot, gIx_p g1, gIx_p g2, cN_nI (by omega)]
  have ha := h.lo.1 i hi
  refine k_aload_n B dX9_treat_12 rfl (by first | exact kRf_r _ | exact kRf_q _ | exact kRf_n) ?_
  refine gf_X9_202 B dX9_treat_13 ha rfl ?_
  refine k_iconst B (v := (-1)) dX9_treat_16 (by decide) ?_
  refine k_icmp_ne B 24 dX9_treat_17 (by decide) (fun c17 => ?_) (fun c17 => ?_)
  · rename_i c17
    refine k_iconst B (v := 0) dX9_treat_24 (by decide) ?_
    refine cl_X9_66 B (c_X9_needState hl) dX9_treat_25 (by first | exact Nat.le_of_ble_eq_true rfl | omega | (simp only [kR, Value.category, kCat_q, List.map, List.sum_cons, List.sum_nil]; omega)) (by first | exact Nat.le_of_ble_eq_true rfl | omega | (simp only [kR, Value.category, kCat_q, List.map, List.sum_cons, List.sum_nil]; omega)) (by first | exact Nat.le_of_ble_eq_true rfl | omega | (simp only [kR, Value.category, kCat_q, List.map, List.sum_cons, List.sum_nil]; omega)) (by first | exact Nat.le_of_ble_eq_true rfl | omega | (simp only [kR, Value.category, kCat_q, List.map, List.sum_cons, List.sum_nil]; omega)) (by first | exact Nat.le_of_ble_eq_true rfl | omega | (simp only [kR, Value.category, kCat_q, List.map, List.sum_cons, List.sum_nil]; omega)) (fun E hE => k_xout B hex (fun _ _ h => h) (gg.trans (gSt_f (decide_eq_false c17) hE.1)) (by decide) (by decide)) (fun v25 s25 hp25 => ?_)
    exact absurd rfl hp25.2.2
  · rename_i c17
    refine k_iconst B (v := 1) dX9_treat_20 (by decide) ?_
    refine k_goto B 25 dX9_treat_21 (by decide) ?_
    refine cl_X9_66 B (c_X9_needState hl) dX9_treat_25 (by first | exact Nat.le_of_ble_eq_true rfl | omega | (simp only [kR, Value.category, kCat_q, List.map, List.sum_cons, List.sum_nil]; omega)) (by first | exact Nat.le_of_ble_eq_true rfl | omega | (simp only [kR, Value.category, kCat_q, List.map, List.sum_cons, List.sum_nil]; omega)) (by first | exact Nat.le_of_ble_eq_true rfl | omega | (simp only [kR, Value.category, kCat_q, List.map, List.sum_cons, List.sum_nil]; omega)) (by first | exact Nat.le_of_ble_eq_true rfl | omega | (simp only [kR, Value.category, kCat_q, List.map, List.sum_cons, List.sum_nil]; omega)) (by first | exact Nat.le_of_ble_eq_true rfl | omega | (simp only [kR, Value.category, kCat_q, List.map, List.sum_cons, List.sum_nil]; omega)) (fun E hE => absurd hE.2 (by decide)) (fun v25 s25 hp25 => ?_)
    obtain ⟨rfl, e25, -⟩ := hp25
    rw [e25]
    refine k_aload_n B dX9_treat_28 rfl (by first | exact kRf_r _ | exact kRf_q _ | exact kRf_n) ?_
    refine k_dup B dX9_treat_29 rfl ?_
    refine gf_X9_205 B dX9_treat_30 ha rfl ?_
    refine k_iconst B (v := 1) dX9_treat_33 (by decide) ?_
    refine k_iload_n B dX9_treat_34 rfl ?_
    refine k_ishl B dX9_treat_35 ?_
    refine k_ior B dX9_treat_36 ?_
    refine pf_X9_205 B dX9_treat_37 ha rfl ?_
    refine k_aload_n B dX9_treat_40 rfl (by first | exact kRf_r _ | exact kRf_q _ | exact kRf_n) ?_
    refine gf_X9_205 B dX9_treat_41 kUp_eq rfl ?_
    refine k_iret B hr dX9_treat_44 ?_ (by first | exact Nat.le_of_ble_eq_true rfl | omega | (simp only [kR, Value.category, kCat_q, List.map, List.sum_cons, List.sum_nil]; omega)) (by first | exact Nat.le_of_ble_eq_true rfl | omega | (simp only [kR, Value.category, kCat_q, List.map, List.sum_cons, List.sum_nil]; omega))
    refine ⟨gg.trans (gSt_t (decide_eq_true c17)), by rw [rTreat, cN_nI (by omega)]; rfl, ⟨cA, wA, lA, aJ, cad, ra, wad, lad, R, ?_⟩, kFr.up ha (Or.inl (show (2 : Nat) ≤ 9 by decide))⟩
    rw [nTreat, nLot, rTreat, cN_nI (by omega)]
    exact h.lot hi _
set_option maxRecDepth 100000 in
theorem c_X9_label (hl : l.stackTraces = false) (hs : sOk z) (h : cl9 D aO z J F σ) {c9 y : Int32} : kMh hX9_label l D yX9_label 8 3 18 [.ref aO, .int c9, .int y] σ (fun v s2 => gLabel z c9 y = none ∧ v = some (.int (rLabel z c9 y)) ∧ cl9 D aO (nLabel z c9 y) J F s2 ∧ kFr k9F σ s2) (fun E => gLabel z c9 y = some E) := by
  refine kM_of (L := [some (.ref aO), some (.int c9), some (.int y), none]) (by decide +kernel) hl (List.forall_mem_cons.mpr ⟨rfl, (List.forall_mem_cons.mpr ⟨rfl, (List.forall_mem_cons.mpr ⟨rfl, (fun _ h => absurd h List.not_mem_nil)⟩)⟩)⟩) (Nat.le_of_ble_eq_true rfl) rfl ?_
  intro p e s m args below meth c B hr hex hnm
  have B : kB p l s m args meth c D (kA σ s.heap.size) 4 cX9_label RX9 := B
  obtain ⟨cA, wA, lA, aJ, cad, ra, wad, lad, R, h⟩ := h
  have hl40 := hs.2.2.2.1.1
  refine k_aload_n B dX9_label_0 rfl (by first | exact kRf_r _ | exact kRf_q _ | exact kRf_n) ?_
  refine k_iload_n B dX9_label_1 rfl ?_
  refine cl_X9_198 B (c_X9_lotAt hl h hl40) h.o dX9_label_2 (by first | exact Nat.le_of_ble_eq_true rfl | omega | (simp only [kR, Value.category, kCat_q, List.map, List.sum_cons, List.sum_nil]; omega)) (by first | exact Nat.le_of_ble_eq_true rfl | omega | (simp only [kR, Value.category, kCat_q, List.map, List.sum_cons, List.sum_nil]; omega)) (by first | exact Nat.le_of_ble_eq_true rfl | omega | (simp only [kR, Value.category, kCat_q, List.map, List.sum_cons, List.sum_nil]; omega)) (by first | exact Nat.le_of_ble_eq_true rfl | omega | (simp only [kR, Value.category, kCat_q, List.map, List.sum_cons, List.sum_nil]; omega)) (by first | exact Nat.le_of_ble_eq_true rfl | omega | (simp only [kR, Value.category, kCat_q, List.map, List.sum_cons, List.sum_nil]; omega)) (fun E hE => k_xout B hex (fun _ _ h => h) (gIx_n hE) (by decide) (by decide)) (fun v2 s2 hp2 => ?_)
  obtain ⟨e2, i, hi, e3, rfl⟩ := hp2
  rw [e2]
  subst e3
  have g1 : 0 ≤ nI i ∧ nI i < nI (sLn z) := ⟨nI_pos' (by omega), nI_lt hi (by omega)⟩
  refine k_astore_n B dX9_label_5 (by decide) (by first | exact kRf_r _ | exact kRf_q _ | exact kRf_n) ?_
  try refine kK.set1 (by first | exact True.intro | rfl | exact kCat_q _) ?_
  refine k_iload_n B dX9_label_6 rfl ?_
  refine k_iconst B (v := 0) dX9_label_7 (by decide) ?_
  refine k_iconst B (v := 2) dX9_label_8 (by decide) ?_
  refine cl_X9_56 B (c_X9_needRange hl) dX9_label_9 (by first | exact Nat.le_of_ble_eq_true rfl | omega | (simp only [kR, Value.category, kCat_q, List.map, List.sum_cons, List.sum_nil]; omega)) (by first | exact Nat.le_of_ble_eq_true rfl | omega | (simp only [kR, Value.category, kCat_q, List.map, List.sum_cons, List.sum_nil]; omega)) (by first | exact Nat.le_of_ble_eq_true rfl | omega | (simp only [kR, Value.category, kCat_q, List.map, List.sum_cons, List.sum_nil]; omega)) (by first | exact Nat.le_of_ble_eq_true rfl | omega | (simp only [kR, Value.category, kCat_q, List.map, List.sum_cons, List.sum_nil]; omega)) (by first | exact Nat.le_of_ble_eq_true rfl | omega | (simp only [kR, Value.category, kCat_q, List.map, List.sum_cons, List.sum_nil]; omega)) (fun E hE => k_xout B hex (fun _ _ h => h) ((gIx_p g1).trans (gRg_n hE)) (by decide) (by decide)) (fun v9 s9 hp9 => ?_)
  obtain ⟨rfl, e9, g2⟩ := hp9
  rw [e9]
  have gg : gLabel z (nI i) y = gSt (decide ((sLo z i).2.2.2.1 = -1)) := by rw [gLabel, gLot, gIx_p g1, gRg_p g2, cN_nI (by omega)]
  obtain ⟨j, hj1, hj2, ej⟩ := inR_of (a := 0) (n := 2) rfl rfl (by decide) (by decide) g2
  have hk : y = 0 ∨ y = 1 ∨ y = 2 := by
    subst ej
    have : j = 0 ∨ j = 1 ∨ j = 2 := by omega
    rcases this with q | q | q <;> subst q <;> decide
  have ha := h.lo.1 i hi
  have hlt := hs.2.2.2.1.2 i hi
  have hcon : kCon (R (11 + i)) = sR z (11 + i) := h.rc (11 + i) (by omega)
  have hni : niS (kCon (R (11 + i))) < 2 ^ 31 := by
    have := niS_le hlt.2.2.2.2.2.1
    have := hlt.2.2.2.2.2.2.2
    rw [hcon]; omega
  have hun : 8 * unS (kCon (R (11 + i))) < 2 ^ 31 := by
    have := hlt.2.2.2.2.2.2.2
    rw [hcon]; omega
  refine k_aload_n B dX9_label_12 rfl (by first | exact kRf_r _ | exact kRf_q _ | exact kRf_n) ?_
  refine gf_X9_202 B dX9_label_13 ha rfl ?_
  refine k_iconst B (v := (-1)) dX9_label_16 (by decide) ?_
  refine k_icmp_ne B 24 dX9_label_17 (by decide) (fun c17 => ?_) (fun c17 => ?_)
  · rename_i c17
    refine k_iconst B (v := 0) dX9_label_24 (by decide) ?_
    refine cl_X9_66 B (c_X9_needState hl) dX9_label_25 (by first | exact Nat.le_of_ble_eq_true rfl | omega | (simp only [kR, Value.category, kCat_q, List.map, List.sum_cons, List.sum_nil]; omega)) (by first | exact Nat.le_of_ble_eq_true rfl | omega | (simp only [kR, Value.category, kCat_q, List.map, List.sum_cons, List.sum_nil]; omega)) (by first | exact Nat.le_of_ble_eq_true rfl | omega | (simp only [kR, Value.category, kCat_q, List.map, List.sum_cons, List.sum_nil]; omega)) (by first | exact Nat.le_of_ble_eq_true rfl | omega | (simp only [kR, Value.category, kCat_q, List.map, List.sum_cons, List.sum_nil]; omega)) (by first | exact Nat.le_of_ble_eq_true rfl | omega | (simp only [kR, Value.category, kCat_q, List.map, List.sum_cons, List.sum_nil]; omega)) (fun E hE => k_xout B hex (fun _ _ h => h) (gg.trans (gSt_f (decide_eq_false c17) hE.1)) (by decide) (by decide)) (fun v25 s25 hp25 => ?_)
    exact absurd rfl hp25.2.2
  · rename_i c17
    refine k_iconst B (v := 1) dX9_label_20 (by decide) ?_
    refine k_goto B 25 dX9_label_21 (by decide) ?_
    refine cl_X9_66 B (c_X9_needState hl) dX9_label_25 (by first | exact Nat.le_of_ble_eq_true rfl | omega | (simp only [kR, Value.category, kCat_q, List.map, List.sum_cons, List.sum_nil]; omega)) (by first | exact Nat.le_of_ble_eq_true rfl | omega | (simp only [kR, Value.category, kCat_q, List.map, List.sum_cons, List.sum_nil]; omega)) (by first | exact Nat.le_of_ble_eq_true rfl | omega | (simp only [kR, Value.category, kCat_q, List.map, List.sum_cons, List.sum_nil]; omega)) (by first | exact Nat.le_of_ble_eq_true rfl | omega | (simp only [kR, Value.category, kCat_q, List.map, List.sum_cons, List.sum_nil]; omega)) (by first | exact Nat.le_of_ble_eq_true rfl | omega | (simp only [kR, Value.category, kCat_q, List.map, List.sum_cons, List.sum_nil]; omega)) (fun E hE => absurd hE.2 (by decide)) (fun v25 s25 hp25 => ?_)
    obtain ⟨rfl, e25, -⟩ := hp25
    rw [e25]
    have hρ := h.r.1 (11 + i) (by omega)
    have hc9 := h.r.2.1 (11 + i) (by omega)
    have hρ2 := kUp_o (e := .inr (2, (([.int (nI (sLo z i).1), .int (nI (sLo z i).2.1), .ref (ra (11 + i)), .int (sLo z i).2.2.1, .int (sLo z i).2.2.2.1, .int (sLo z i).2.2.2.2.1, .int (sLo z i).2.2.2.2.2] : List Value).set 4 (.int y)))) (kNe hρ ha (by decide)) hρ
    have hc2 : pCh (kUp σ (lad i) (.inr (2, (([.int (nI (sLo z i).1), .int (nI (sLo z i).2.1), .ref (ra (11 + i)), .int (sLo z i).2.2.1, .int (sLo z i).2.2.2.1, .int (sLo z i).2.2.2.2.1, .int (sLo z i).2.2.2.2.2] : List Value).set 4 (.int y))))) (R (11 + i)) := pCh_kp hc9 (kKp.up ha (noR (k := 2) rfl (by decide)))
    refine k_aload_n B dX9_label_28 rfl (by first | exact kRf_r _ | exact kRf_q _ | exact kRf_n) ?_
    refine k_iload_n B dX9_label_29 rfl ?_
    refine pf_X9_202 B dX9_label_30 ha rfl ?_
    refine k_aload_n B dX9_label_33 rfl (by first | exact kRf_r _ | exact kRf_q _ | exact kRf_n) ?_
    refine k_aload_n B dX9_label_34 rfl (by first | exact kRf_r _ | exact kRf_q _ | exact kRf_n) ?_
    refine k_iload_n B dX9_label_35 rfl ?_
    refine k_aload_n B dX9_label_36 rfl (by first | exact kRf_r _ | exact kRf_q _ | exact kRf_n) ?_
    refine gf_X9_208 B dX9_label_37 (kUp_o (kNe h.o ha (by decide)) h.o) rfl ?_
    refine cl_X9_211 B (c_X2_isOfKind hl hk (kUp_eq : kUp σ (lad i) _ (lad i) = some (lotE (sLo z i).1 (sLo z i).2.1 (ra (11 + i)) (sLo z i).2.2.1 y (sLo z i).2.2.2.2.1 (sLo z i).2.2.2.2.2)) hρ2 hc2 rfl hni hun (fun q hq => by
      have := hlt.2.2.2.2.2.1 q.2 (by rw [← hcon]; exact kCon_mem hq)
      have h2 := this.2.1
      have h3 := hlt.2.1
      have h4 := hs.1.1
      omega)) kUp_eq dX9_label_40 (by first | exact Nat.le_of_ble_eq_true rfl | omega | (simp only [kR, Value.category, kCat_q, List.map, List.sum_cons, List.sum_nil]; omega)) (by first | exact Nat.le_of_ble_eq_true rfl | omega | (simp only [kR, Value.category, kCat_q, List.map, List.sum_cons, List.sum_nil]; omega)) (by first | exact Nat.le_of_ble_eq_true rfl | omega | (simp only [kR, Value.category, kCat_q, List.map, List.sum_cons, List.sum_nil]; omega)) (by first | exact Nat.le_of_ble_eq_true rfl | omega | (simp only [kR, Value.category, kCat_q, List.map, List.sum_cons, List.sum_nil]; omega)) (by first | exact Nat.le_of_ble_eq_true rfl | omega | (simp only [kR, Value.category, kCat_q, List.map, List.sum_cons, List.sum_nil]; omega)) (fun _ hx => hx.elim) (fun v40 s40 hp40 => ?_)
    obtain ⟨rfl, e40⟩ := hp40
    rw [e40]
    refine kK.rev (y := .int (rLabel z (nI i) y)) (by rw [rLabel, kindB, cN_nI (by omega), ← hcon]) ?_
    refine pf_X9_215 B dX9_label_43 kUp_eq rfl (bI_01 (kindB z (nI i) y)) ?_
    refine k_aload_n B dX9_label_46 rfl (by first | exact kRf_r _ | exact kRf_q _ | exact kRf_n) ?_
    refine gf_X9_215 B dX9_label_47 kUp_eq rfl ?_
    refine k_zret B hr dX9_label_50 (bI_n _) ?_ (by first | exact Nat.le_of_ble_eq_true rfl | omega | (simp only [kR, Value.category, kCat_q, List.map, List.sum_cons, List.sum_nil]; omega)) (by first | exact Nat.le_of_ble_eq_true rfl | omega | (simp only [kR, Value.category, kCat_q, List.map, List.sum_cons, List.sum_nil]; omega))
    refine ⟨gg.trans (gSt_t (decide_eq_true c17)), rfl, ⟨cA, wA, lA, aJ, cad, ra, wad, lad, R, ?_⟩, (kFr.up ha (Or.inl (show (2 : Nat) ≤ 9 by decide))).tr (kFr.up kUp_eq (Or.inl (show (2 : Nat) ≤ 9 by decide)))⟩
    rw [kUp_uu, nLabel, nLot, cN_nI (by omega)]
    exact h.lot hi _
end Ops2
