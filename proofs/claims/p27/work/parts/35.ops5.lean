def fIn (z : kSt) : Nat := suN (fun i => unS (sR z i)) 10
def fBot (z : kSt) : Nat := suN (fun i => unS (sR z (11 + i))) (sLn z)
def fFal (z : kSt) : Nat := suN (fun i => if truI (sLo z i).2.2.2.1 (sLo z i).2.2.2.2.1 = 0 then 1 else 0) (sLn z)
def gSum (w : Int32) : Option String := gRg w 0 6 none
def rSum (z : kSt) (w : Int32) : Int64 := if cN w = 0 then nL (sFal z) else if cN w = 1 then nL (fIn z) else if cN w = 2 then nL (sSpr z) else if cN w = 3 then nL (fBot z) else if cN w = 4 then nL (sPai z) else if cN w = 5 then nL (sVil z) else nL (fFal z)
/-- whether a lot is recalled by a treatment's bit -/
def fbB (z : kSt) (bit : Int32) (i : Nat) : Bool := rcB (sLo z i).2.2.2.1 (sLo z i).2.2.2.2.2 (sLo z i).2.2.1 bit
def fbL (z : kSt) (bit : Int32) (n : Nat) : Nat → kLo := fun i => if i < n ∧ fbB z bit i = true then ((sLo z i).1, (sLo z i).2.1, (sLo z i).2.2.1, (sLo z i).2.2.2.1, (sLo z i).2.2.2.2.1, 1) else sLo z i
def fbS (z : kSt) (bit : Int32) (n : Nat) : kSt := ((z.1.1, z.1.2.1, z.1.2.2.1, z.1.2.2.2.1, z.1.2.2.2.2.1, sFb z ||| bit, z.1.2.2.2.2.2.2), z.2.1, z.2.2.1, z.2.2.2.1, (sLn z, fbL z bit n))
def fbN (z : kSt) (bit : Int32) (n : Nat) : Nat := suN (fun i => if fbB z bit i = true then 1 else 0) n
def gForbid (z : kSt) (t : Int32) : Option String := gIx t 6 (gSt (decide (sFb z &&& bitI t = 0)))
def rForbid (z : kSt) (t : Int32) : Int32 := nI (fbN z (bitI t) (sLn z))
def nForbid (z : kSt) (t : Int32) : kSt := fbS z (bitI t) (sLn z)
theorem fbL_0 {z : kSt} {bit : Int32} : fbL z bit 0 = sLo z := by
  funext i
  rw [fbL, if_neg (fun h => Nat.not_lt_zero i h.1)]
theorem fbL_no {z : kSt} {bit : Int32} {n : Nat} (h : ¬ fbB z bit n = true) : fbL z bit (n + 1) = fbL z bit n := by
  funext i
  unfold fbL
  by_cases q : i = n
  · subst q
    rw [if_neg (fun e => h e.2), if_neg (fun e => h e.2)]
  · by_cases q2 : i < n ∧ fbB z bit i = true
    · rw [if_pos ⟨by omega, q2.2⟩, if_pos q2]
    · rw [if_neg (fun e => q2 ⟨by omega, e.2⟩), if_neg q2]
theorem fbL_at {z : kSt} {bit : Int32} {n : Nat} : fbL z bit n n = sLo z n := by rw [fbL, if_neg (fun h => Nat.lt_irrefl n h.1)]
theorem fbL_yes {z : kSt} {bit : Int32} {n : Nat} (h : fbB z bit n = true) : fbL z bit (n + 1) = upN (fbL z bit n) n ((sLo z n).1, (sLo z n).2.1, (sLo z n).2.2.1, (sLo z n).2.2.2.1, (sLo z n).2.2.2.2.1, 1) := by
  funext i
  by_cases q : i = n
  · subst q
    rw [upN_eq, fbL, if_pos ⟨by omega, h⟩]
  · rw [upN_ne q]
    unfold fbL
    by_cases q2 : i < n ∧ fbB z bit i = true
    · rw [if_pos ⟨by omega, q2.2⟩, if_pos q2]
    · rw [if_neg (fun e => q2 ⟨by omega, e.2⟩), if_neg q2]
section Ops5
variable {l : Launch} {D : va_G} {σ : kS} {aO cA wA lA aJ : Nat} {cad ra wad lad : Nat → Nat} {R : Nat → kPs} {z : kSt} {J : List kJe} {F : kF}
set_option maxRecDepth 100000 in
theorem c_X9_unitsInCells (hl : l.stackTraces = false) (hs : sOk z) (h : cI D aO cA wA lA aJ cad ra wad lad R z J F σ) : kMh hX9_unitsInCells l D yX9_unitsInCells 1 0 0 [.ref aO] σ (fun v s2 => v = some (.long (nL (fIn z))) ∧ s2 = σ) (fun _ => False) := by
  refine kM_of (L := [some (.ref aO), none, none, none]) (by decide +kernel) hl (List.forall_mem_cons.mpr ⟨rfl, (fun _ h => absurd h List.not_mem_nil)⟩) (Nat.le_of_ble_eq_true rfl) rfl ?_
  intro p e s m args below meth c B hr hex hnm
  have B : kB p l s m args meth c D (kA σ s.heap.size) 4 cX9_unitsInCells RX9 := B
  obtain ⟨f, f1, f2⟩ := h.a
  have loop : ∀ n i : Nat, i + n = 10 → kK p l e (kR 1 0 0) s m args below meth c D (kA σ s.heap.size) 4 (kQ below args s D σ (fun v s2 => v = some (.long (nL (fIn z))) ∧ s2 = σ) (fun _ => False) 0 0) σ 0 0 4 [some (.ref aO), some (.long (nL (suN (fun i => unS (sR z i)) i))), none, some (.int (nI i))] [] := by
    intro n
    induction n with
    | zero =>
      intro i hi
      have hi10 : i = 10 := by omega
      subst hi10
      refine k_iload_n B dX9_unitsInCells_4 rfl ?_
      refine k_bipush B (v := 10) dX9_unitsInCells_5 (by decide) ?_
      refine k_icmp_ge B 32 dX9_unitsInCells_7 (by decide) (fun c7 => ?_) (fun c7 => ?_)
      · refine k_lload_n B dX9_unitsInCells_32 rfl ?_
        refine k_lret B hr dX9_unitsInCells_33 ?_ (by first | exact Nat.le_of_ble_eq_true rfl | omega | (simp only [kR, Value.category, kCat_q, List.map, List.sum_cons, List.sum_nil]; omega)) (by first | exact Nat.le_of_ble_eq_true rfl | omega | (simp only [kR, Value.category, kCat_q, List.map, List.sum_cons, List.sum_nil]; omega))
        exact ⟨rfl, rfl⟩
      · exact absurd (Int32.le_refl _) c7
    | succ n ih =>
      intro i hi
      have hi10 : i < 10 := by omega
      have hu := hs.un (i := i) (by omega)
      refine k_iload_n B dX9_unitsInCells_4 rfl ?_
      refine k_bipush B (v := 10) dX9_unitsInCells_5 (by decide) ?_
      refine k_icmp_ge B 32 dX9_unitsInCells_7 (by decide) (fun c7 => ?_) (fun c7 => ?_)
      · exact absurd (show nI 10 ≤ nI i from c7) (nI_ge hi10 (by omega))
      · refine k_lload_n B dX9_unitsInCells_10 rfl ?_
        refine k_aload_n B dX9_unitsInCells_11 rfl (by first | exact kRf_r _ | exact kRf_q _ | exact kRf_n) ?_
        refine gf_X9_11 B dX9_unitsInCells_12 h.o rfl ?_
        refine k_iload_n B dX9_unitsInCells_15 rfl ?_
        refine k_aald B (ti := 4) (C := RX0) rfl dX9_unitsInCells_16 f1 (vp_in_nI hi10 (by decide)) ?_
        refine kK.rev (y := .ref (cad i)) (by rw [nI_clamp (by omega), f2 i hi10]; rfl) ?_
        refine gf_X9_124 B dX9_unitsInCells_17 (h.c i hi10) rfl ?_
        refine gf_X9_142 B dX9_unitsInCells_20 (h.row (i := i) (by omega)) rfl ?_
        refine k_i2l B dX9_unitsInCells_23 ?_
        refine kK.rel (y := nL (unS (sR z i))) (nI_L (by omega)) ?_
        refine k_ladd B dX9_unitsInCells_24 ?_
        refine kK.rel (y := nL (suN (fun i => unS (sR z i)) (i + 1))) (nL_add _ _) ?_
        refine k_lstore_n B dX9_unitsInCells_25 (by decide) ?_
        refine k_iinc1 B dX9_unitsInCells_26 rfl (by decide) ?_
        try refine kK.set1 (by first | exact True.intro | rfl | exact kCat_q _) ?_
        refine k_goto B 4 dX9_unitsInCells_29 (by decide) ?_
        refine kK.sub (L2 := [some (.ref aO), some (.long (nL (suN (fun i => unS (sR z i)) (i + 1)))), none, some (.int (nI (i + 1)))]) ⟨Or.inr rfl, Or.inr rfl, Or.inl rfl, Or.inr (by rw [← nI_1]), trivial⟩ ?_
        exact ih (i + 1) (by omega)
  refine k_lconst B (v := 0) dX9_unitsInCells_0 (by decide) ?_
  refine k_lstore_n B dX9_unitsInCells_1 (by decide) ?_
  refine k_iconst B (v := 0) dX9_unitsInCells_2 (by decide) ?_
  refine k_istore_n B dX9_unitsInCells_3 (by decide) ?_
  try refine kK.set1 (by first | exact True.intro | rfl | exact kCat_q _) ?_
  refine kK.sub (L2 := [some (.ref aO), some (.long (nL (suN (fun i => unS (sR z i)) 0))), none, some (.int (nI 0))]) ⟨Or.inr rfl, Or.inr rfl, Or.inl rfl, Or.inr (by rw [nI_0]), trivial⟩ ?_
  exact loop 10 0 rfl
set_option maxRecDepth 100000 in
theorem c_X9_unitsBottled (hl : l.stackTraces = false) (hs : sOk z) (h : cI D aO cA wA lA aJ cad ra wad lad R z J F σ) : kMh hX9_unitsBottled l D yX9_unitsBottled 1 0 0 [.ref aO] σ (fun v s2 => v = some (.long (nL (fBot z))) ∧ s2 = σ) (fun _ => False) := by
  refine kM_of (L := [some (.ref aO), none, none, none]) (by decide +kernel) hl (List.forall_mem_cons.mpr ⟨rfl, (fun _ h => absurd h List.not_mem_nil)⟩) (Nat.le_of_ble_eq_true rfl) rfl ?_
  intro p e s m args below meth c B hr hex hnm
  have B : kB p l s m args meth c D (kA σ s.heap.size) 4 cX9_unitsBottled RX9 := B
  obtain ⟨f, f1, f2⟩ := h.al
  have hl40 := hs.2.2.2.1.1
  have loop : ∀ n i : Nat, i + n = sLn z → kK p l e (kR 1 0 0) s m args below meth c D (kA σ s.heap.size) 4 (kQ below args s D σ (fun v s2 => v = some (.long (nL (fBot z))) ∧ s2 = σ) (fun _ => False) 0 0) σ 0 0 4 [some (.ref aO), some (.long (nL (suN (fun i => unS (sR z (11 + i))) i))), none, some (.int (nI i))] [] := by
    intro n
    induction n with
    | zero =>
      intro i hi
      have hi10 : i = sLn z := by omega
      subst hi10
      refine k_iload_n B dX9_unitsBottled_4 rfl ?_
      refine k_aload_n B dX9_unitsBottled_5 rfl (by first | exact kRf_r _ | exact kRf_q _ | exact kRf_n) ?_
      refine gf_X9_177 B dX9_unitsBottled_6 h.o rfl ?_
      refine k_icmp_ge B 34 dX9_unitsBottled_9 (by decide) (fun c9 => ?_) (fun c9 => ?_)
      · refine k_lload_n B dX9_unitsBottled_34 rfl ?_
        refine k_lret B hr dX9_unitsBottled_35 ?_ (by first | exact Nat.le_of_ble_eq_true rfl | omega | (simp only [kR, Value.category, kCat_q, List.map, List.sum_cons, List.sum_nil]; omega)) (by first | exact Nat.le_of_ble_eq_true rfl | omega | (simp only [kR, Value.category, kCat_q, List.map, List.sum_cons, List.sum_nil]; omega))
        exact ⟨rfl, rfl⟩
      · exact absurd (Int32.le_refl _) c9
    | succ n ih =>
      intro i hi
      have hi10 : i < sLn z := by omega
      have hu := hs.un (i := 11 + i) (by omega)
      refine k_iload_n B dX9_unitsBottled_4 rfl ?_
      refine k_aload_n B dX9_unitsBottled_5 rfl (by first | exact kRf_r _ | exact kRf_q _ | exact kRf_n) ?_
      refine gf_X9_177 B dX9_unitsBottled_6 h.o rfl ?_
      refine k_icmp_ge B 34 dX9_unitsBottled_9 (by decide) (fun c9 => ?_) (fun c9 => ?_)
      · exact absurd c9 (nI_ge hi10 (by omega))
      · refine k_lload_n B dX9_unitsBottled_12 rfl ?_
        refine k_aload_n B dX9_unitsBottled_13 rfl (by first | exact kRf_r _ | exact kRf_q _ | exact kRf_n) ?_
        refine gf_X9_30 B dX9_unitsBottled_14 h.o rfl ?_
        refine k_iload_n B dX9_unitsBottled_17 rfl ?_
        refine k_aald B (ti := 6) (C := RX2) rfl dX9_unitsBottled_18 f1 (vp_in_nI (show i < 40 by omega) (by decide)) ?_
        refine kK.rev (y := .ref (lad i)) (by rw [nI_clamp (by omega), f2 i hi10]; rfl) ?_
        refine gf_X9_241 B dX9_unitsBottled_19 (h.lo.1 i hi10) rfl ?_
        refine gf_X9_142 B dX9_unitsBottled_22 (h.row (i := 11 + i) (by omega)) rfl ?_
        refine k_i2l B dX9_unitsBottled_25 ?_
        refine kK.rel (y := nL (unS (sR z (11 + i)))) (nI_L (by omega)) ?_
        refine k_ladd B dX9_unitsBottled_26 ?_
        refine kK.rel (y := nL (suN (fun i => unS (sR z (11 + i))) (i + 1))) (nL_add _ _) ?_
        refine k_lstore_n B dX9_unitsBottled_27 (by decide) ?_
        refine k_iinc1 B dX9_unitsBottled_28 rfl (by decide) ?_
        try refine kK.set1 (by first | exact True.intro | rfl | exact kCat_q _) ?_
        refine k_goto B 4 dX9_unitsBottled_31 (by decide) ?_
        refine kK.sub (L2 := [some (.ref aO), some (.long (nL (suN (fun i => unS (sR z (11 + i))) (i + 1)))), none, some (.int (nI (i + 1)))]) ⟨Or.inr rfl, Or.inr rfl, Or.inl rfl, Or.inr (by rw [← nI_1]), trivial⟩ ?_
        exact ih (i + 1) (by omega)
  refine k_lconst B (v := 0) dX9_unitsBottled_0 (by decide) ?_
  refine k_lstore_n B dX9_unitsBottled_1 (by decide) ?_
  refine k_iconst B (v := 0) dX9_unitsBottled_2 (by decide) ?_
  refine k_istore_n B dX9_unitsBottled_3 (by decide) ?_
  try refine kK.set1 (by first | exact True.intro | rfl | exact kCat_q _) ?_
  refine kK.sub (L2 := [some (.ref aO), some (.long (nL (suN (fun i => unS (sR z (11 + i))) 0))), none, some (.int (nI 0))]) ⟨Or.inr rfl, Or.inr rfl, Or.inl rfl, Or.inr (by rw [nI_0]), trivial⟩ ?_
  exact loop (sLn z) 0 (by omega)
set_option maxRecDepth 100000 in
theorem c_X9_falseLabels (hl : l.stackTraces = false) (hs : sOk z) (h : cI D aO cA wA lA aJ cad ra wad lad R z J F σ) : kMh hX9_falseLabels l D yX9_falseLabels 2 0 0 [.ref aO] σ (fun v s2 => v = some (.long (nL (fFal z))) ∧ s2 = σ) (fun _ => False) := by
  refine kM_of (L := [some (.ref aO), none, none, none]) (by decide +kernel) hl (List.forall_mem_cons.mpr ⟨rfl, (fun _ h => absurd h List.not_mem_nil)⟩) (Nat.le_of_ble_eq_true rfl) rfl ?_
  intro p e s m args below meth c B hr hex hnm
  have B : kB p l s m args meth c D (kA σ s.heap.size) 4 cX9_falseLabels RX9 := B
  obtain ⟨f, f1, f2⟩ := h.al
  have hl40 := hs.2.2.2.1.1
  generalize hg : (fun i => if truI (sLo z i).2.2.2.1 (sLo z i).2.2.2.2.1 = 0 then 1 else 0) = g
  have hgi : ∀ i, g i = if truI (sLo z i).2.2.2.1 (sLo z i).2.2.2.2.1 = 0 then 1 else 0 := fun i => by rw [← hg]
  have hff : fFal z = suN g (sLn z) := by rw [fFal, hg]
  have loop : ∀ n i : Nat, i + n = sLn z → kK p l e (kR 2 0 0) s m args below meth c D (kA σ s.heap.size) 4 (kQ below args s D σ (fun v s2 => v = some (.long (nL (fFal z))) ∧ s2 = σ) (fun _ => False) 0 0) σ 0 0 4 [some (.ref aO), some (.long (nL (suN g i))), none, some (.int (nI i))] [] := by
    intro n
    induction n with
    | zero =>
      intro i hi
      have hi10 : i = sLn z := by omega
      subst hi10
      refine k_iload_n B dX9_falseLabels_4 rfl ?_
      refine k_aload_n B dX9_falseLabels_5 rfl (by first | exact kRf_r _ | exact kRf_q _ | exact kRf_n) ?_
      refine gf_X9_177 B dX9_falseLabels_6 h.o rfl ?_
      refine k_icmp_ge B 34 dX9_falseLabels_9 (by decide) (fun c9 => ?_) (fun c9 => ?_)
      · refine k_lload_n B dX9_falseLabels_34 rfl ?_
        refine k_lret B hr dX9_falseLabels_35 ?_ (by first | exact Nat.le_of_ble_eq_true rfl | omega | (simp only [kR, Value.category, kCat_q, List.map, List.sum_cons, List.sum_nil]; omega)) (by first | exact Nat.le_of_ble_eq_true rfl | omega | (simp only [kR, Value.category, kCat_q, List.map, List.sum_cons, List.sum_nil]; omega))
        exact ⟨by rw [hff], rfl⟩
      · exact absurd (Int32.le_refl _) c9
    | succ n ih =>
      intro i hi
      have hi10 : i < sLn z := by omega
      refine k_iload_n B dX9_falseLabels_4 rfl ?_
      refine k_aload_n B dX9_falseLabels_5 rfl (by first | exact kRf_r _ | exact kRf_q _ | exact kRf_n) ?_
      refine gf_X9_177 B dX9_falseLabels_6 h.o rfl ?_
      refine k_icmp_ge B 34 dX9_falseLabels_9 (by decide) (fun c9 => ?_) (fun c9 => ?_)
      · exact absurd c9 (nI_ge hi10 (by omega))
      · have next : ∀ x : Nat, x = suN g (i + 1) → kK p l e (kR 2 0 0) s m args below meth c D (kA σ s.heap.size) 4 (kQ below args s D σ (fun v s2 => v = some (.long (nL (fFal z))) ∧ s2 = σ) (fun _ => False) 0 0) σ 0 0 28 [some (.ref aO), some (.long (nL x)), none, some (.int (nI i))] [] := by
          intro x hx
          refine k_iinc1 B dX9_falseLabels_28 rfl (by decide) ?_
          try refine kK.set1 (by first | exact True.intro | rfl | exact kCat_q _) ?_
          refine k_goto B 4 dX9_falseLabels_31 (by decide) ?_
          refine kK.sub (L2 := [some (.ref aO), some (.long (nL (suN g (i + 1)))), none, some (.int (nI (i + 1)))]) ⟨Or.inr rfl, Or.inr (by rw [← hx]), Or.inl rfl, Or.inr (by rw [← nI_1]), trivial⟩ ?_
          exact ih (i + 1) (by omega)
        refine k_aload_n B dX9_falseLabels_12 rfl (by first | exact kRf_r _ | exact kRf_q _ | exact kRf_n) ?_
        refine gf_X9_30 B dX9_falseLabels_13 h.o rfl ?_
        refine k_iload_n B dX9_falseLabels_16 rfl ?_
        refine k_aald B (ti := 6) (C := RX2) rfl dX9_falseLabels_17 f1 (vp_in_nI (show i < 40 by omega) (by decide)) ?_
        refine kK.rev (y := .ref (lad i)) (by rw [nI_clamp (by omega), f2 i hi10]; rfl) ?_
        refine cl_X9_253 B (c_X2_truth hl (h.lo.1 i hi10)) (h.lo.1 i hi10) dX9_falseLabels_18 (by first | exact Nat.le_of_ble_eq_true rfl | omega | (simp only [kR, Value.category, kCat_q, List.map, List.sum_cons, List.sum_nil]; omega)) (by first | exact Nat.le_of_ble_eq_true rfl | omega | (simp only [kR, Value.category, kCat_q, List.map, List.sum_cons, List.sum_nil]; omega)) (by first | exact Nat.le_of_ble_eq_true rfl | omega | (simp only [kR, Value.category, kCat_q, List.map, List.sum_cons, List.sum_nil]; omega)) (by first | exact Nat.le_of_ble_eq_true rfl | omega | (simp only [kR, Value.category, kCat_q, List.map, List.sum_cons, List.sum_nil]; omega)) (by first | exact Nat.le_of_ble_eq_true rfl | omega | (simp only [kR, Value.category, kCat_q, List.map, List.sum_cons, List.sum_nil]; omega)) (fun _ hx => hx.elim) (fun v18 s18 hp18 => ?_)
        obtain ⟨rfl, e18⟩ := hp18
        rw [e18]
        refine kK.rev (y := .int (truI (sLo z i).2.2.2.1 (sLo z i).2.2.2.2.1)) rfl ?_
        refine k_if_ne B 28 dX9_falseLabels_21 (by decide) (fun c21 => ?_) (fun c21 => ?_)
        · rename_i c21
          exact next (suN g i) (by simp only [suN]; rw [hgi i, if_neg c21]; rfl)
        · rename_i c21
          refine k_lload_n B dX9_falseLabels_24 rfl ?_
          refine k_lconst B (v := 1) dX9_falseLabels_25 (by decide) ?_
          refine k_ladd B dX9_falseLabels_26 ?_
          refine kK.rel (y := nL (suN g i + 1)) (nL_add _ 1) ?_
          refine k_lstore_n B dX9_falseLabels_27 (by decide) ?_
          refine kK.sub (L2 := [some (.ref aO), some (.long (nL (suN g i + 1))), none, some (.int (nI i))]) ⟨Or.inr rfl, Or.inr rfl, Or.inl rfl, Or.inr rfl, trivial⟩ ?_
          exact next (suN g i + 1) (by simp only [suN]; rw [hgi i, if_pos c21])
  refine k_lconst B (v := 0) dX9_falseLabels_0 (by decide) ?_
  refine k_lstore_n B dX9_falseLabels_1 (by decide) ?_
  refine k_iconst B (v := 0) dX9_falseLabels_2 (by decide) ?_
  refine k_istore_n B dX9_falseLabels_3 (by decide) ?_
  try refine kK.set1 (by first | exact True.intro | rfl | exact kCat_q _) ?_
  refine kK.sub (L2 := [some (.ref aO), some (.long (nL (suN g 0))), none, some (.int (nI 0))]) ⟨Or.inr rfl, Or.inr rfl, Or.inl rfl, Or.inr (by rw [nI_0]), trivial⟩ ?_
  exact loop (sLn z) 0 (by omega)
set_option maxRecDepth 100000 in
theorem c_X9_sum (hl : l.stackTraces = false) (hs : sOk z) (h : cl9 D aO z J F σ) {y : Int32} : kMh hX9_sum l D yX9_sum 8 1 6 [.ref aO, .int y] σ (fun v s2 => gSum y = none ∧ v = some (.long (rSum z y)) ∧ s2 = σ) (fun E => gSum y = some E) := by
  refine kM_of (L := [some (.ref aO), some (.int y)]) (by decide +kernel) hl (List.forall_mem_cons.mpr ⟨rfl, (List.forall_mem_cons.mpr ⟨rfl, (fun _ h => absurd h List.not_mem_nil)⟩)⟩) (Nat.le_of_ble_eq_true rfl) rfl ?_
  intro p e s m args below meth c B hr hex hnm
  have B : kB p l s m args meth c D (kA σ s.heap.size) 2 cX9_sum RX9 := B
  obtain ⟨cA, wA, lA, aJ, cad, ra, wad, lad, R, h⟩ := h
  refine k_iload_n B dX9_sum_0 rfl ?_
  refine k_iconst B (v := 0) dX9_sum_1 (by decide) ?_
  refine k_bipush B (v := 6) dX9_sum_2 (by decide) ?_
  refine cl_X9_56 B (c_X9_needRange hl) dX9_sum_4 (by first | exact Nat.le_of_ble_eq_true rfl | omega | (simp only [kR, Value.category, kCat_q, List.map, List.sum_cons, List.sum_nil]; omega)) (by first | exact Nat.le_of_ble_eq_true rfl | omega | (simp only [kR, Value.category, kCat_q, List.map, List.sum_cons, List.sum_nil]; omega)) (by first | exact Nat.le_of_ble_eq_true rfl | omega | (simp only [kR, Value.category, kCat_q, List.map, List.sum_cons, List.sum_nil]; omega)) (by first | exact Nat.le_of_ble_eq_true rfl | omega | (simp only [kR, Value.category, kCat_q, List.map, List.sum_cons, List.sum_nil]; omega)) (by first | exact Nat.le_of_ble_eq_true rfl | omega | (simp only [kR, Value.category, kCat_q, List.map, List.sum_cons, List.sum_nil]; omega)) (fun E hE => k_xout B hex (fun _ _ h => h) (gRg_n hE) (by decide) (by decide)) (fun v4 s4 hp4 => ?_)
  obtain ⟨rfl, e4, g2⟩ := hp4
  rw [e4]
  have gg : gSum y = none := gRg_p g2
  obtain ⟨j, hj1, hj2, ej⟩ := inR_of (a := 0) (n := 6) rfl rfl (by decide) (by decide) g2
  subst ej
  refine k_iload_n B dX9_sum_7 rfl ?_
  rcases (show j = 0 ∨ j = 1 ∨ j = 2 ∨ j = 3 ∨ j = 4 ∨ j = 5 ∨ j = 6 by omega) with q | q | q | q | q | q | q
  · subst q
    refine k_tabIn B 48 dX9_sum_8 (by decide) (by decide) (off := 40) (by decide) (by decide) ?_
    refine k_aload_n B dX9_sum_48 rfl (by first | exact kRf_r _ | exact kRf_q _ | exact kRf_n) ?_
    refine gf_X9_148 B dX9_sum_49 h.o rfl ?_
    refine k_lret B hr dX9_sum_52 ?_ (by first | exact Nat.le_of_ble_eq_true rfl | omega | (simp only [kR, Value.category, kCat_q, List.map, List.sum_cons, List.sum_nil]; omega)) (by first | exact Nat.le_of_ble_eq_true rfl | omega | (simp only [kR, Value.category, kCat_q, List.map, List.sum_cons, List.sum_nil]; omega))
    exact ⟨gg, (by rw [rSum, cN_nI (show 0 < 2 ^ 31 by decide), if_pos rfl]), rfl⟩
  · subst q
    refine k_tabIn B 53 dX9_sum_8 (by decide) (by decide) (off := 45) (by decide) (by decide) ?_
    refine k_aload_n B dX9_sum_53 rfl (by first | exact kRf_r _ | exact kRf_q _ | exact kRf_n) ?_
    refine cl_X9_277 B (c_X9_unitsInCells hl hs h) h.o dX9_sum_54 (by first | exact Nat.le_of_ble_eq_true rfl | omega | (simp only [kR, Value.category, kCat_q, List.map, List.sum_cons, List.sum_nil]; omega)) (by first | exact Nat.le_of_ble_eq_true rfl | omega | (simp only [kR, Value.category, kCat_q, List.map, List.sum_cons, List.sum_nil]; omega)) (by first | exact Nat.le_of_ble_eq_true rfl | omega | (simp only [kR, Value.category, kCat_q, List.map, List.sum_cons, List.sum_nil]; omega)) (by first | exact Nat.le_of_ble_eq_true rfl | omega | (simp only [kR, Value.category, kCat_q, List.map, List.sum_cons, List.sum_nil]; omega)) (by first | exact Nat.le_of_ble_eq_true rfl | omega | (simp only [kR, Value.category, kCat_q, List.map, List.sum_cons, List.sum_nil]; omega)) (fun _ hx => hx.elim) (fun v54 s54 hp54 => ?_)
    obtain ⟨rfl, e54⟩ := hp54
    rw [e54]
    refine kK.rev (y := .long (nL (fIn z))) rfl ?_
    refine k_lret B hr dX9_sum_57 ?_ (by first | exact Nat.le_of_ble_eq_true rfl | omega | (simp only [kR, Value.category, kCat_q, List.map, List.sum_cons, List.sum_nil]; omega)) (by first | exact Nat.le_of_ble_eq_true rfl | omega | (simp only [kR, Value.category, kCat_q, List.map, List.sum_cons, List.sum_nil]; omega))
    exact ⟨gg, (by rw [rSum, cN_nI (show 1 < 2 ^ 31 by decide), if_neg (by decide), if_pos rfl]), rfl⟩
  · subst q
    refine k_tabIn B 58 dX9_sum_8 (by decide) (by decide) (off := 50) (by decide) (by decide) ?_
    refine k_aload_n B dX9_sum_58 rfl (by first | exact kRf_r _ | exact kRf_q _ | exact kRf_n) ?_
    refine gf_X9_138 B dX9_sum_59 h.o rfl ?_
    refine k_lret B hr dX9_sum_62 ?_ (by first | exact Nat.le_of_ble_eq_true rfl | omega | (simp only [kR, Value.category, kCat_q, List.map, List.sum_cons, List.sum_nil]; omega)) (by first | exact Nat.le_of_ble_eq_true rfl | omega | (simp only [kR, Value.category, kCat_q, List.map, List.sum_cons, List.sum_nil]; omega))
    exact ⟨gg, (by rw [rSum, cN_nI (show 2 < 2 ^ 31 by decide), if_neg (by decide), if_neg (by decide), if_pos rfl]), rfl⟩
  · subst q
    refine k_tabIn B 63 dX9_sum_8 (by decide) (by decide) (off := 55) (by decide) (by decide) ?_
    refine k_aload_n B dX9_sum_63 rfl (by first | exact kRf_r _ | exact kRf_q _ | exact kRf_n) ?_
    refine cl_X9_281 B (c_X9_unitsBottled hl hs h) h.o dX9_sum_64 (by first | exact Nat.le_of_ble_eq_true rfl | omega | (simp only [kR, Value.category, kCat_q, List.map, List.sum_cons, List.sum_nil]; omega)) (by first | exact Nat.le_of_ble_eq_true rfl | omega | (simp only [kR, Value.category, kCat_q, List.map, List.sum_cons, List.sum_nil]; omega)) (by first | exact Nat.le_of_ble_eq_true rfl | omega | (simp only [kR, Value.category, kCat_q, List.map, List.sum_cons, List.sum_nil]; omega)) (by first | exact Nat.le_of_ble_eq_true rfl | omega | (simp only [kR, Value.category, kCat_q, List.map, List.sum_cons, List.sum_nil]; omega)) (by first | exact Nat.le_of_ble_eq_true rfl | omega | (simp only [kR, Value.category, kCat_q, List.map, List.sum_cons, List.sum_nil]; omega)) (fun _ hx => hx.elim) (fun v64 s64 hp64 => ?_)
    obtain ⟨rfl, e64⟩ := hp64
    rw [e64]
    refine kK.rev (y := .long (nL (fBot z))) rfl ?_
    refine k_lret B hr dX9_sum_67 ?_ (by first | exact Nat.le_of_ble_eq_true rfl | omega | (simp only [kR, Value.category, kCat_q, List.map, List.sum_cons, List.sum_nil]; omega)) (by first | exact Nat.le_of_ble_eq_true rfl | omega | (simp only [kR, Value.category, kCat_q, List.map, List.sum_cons, List.sum_nil]; omega))
    exact ⟨gg, (by rw [rSum, cN_nI (show 3 < 2 ^ 31 by decide), if_neg (by decide), if_neg (by decide), if_neg (by decide), if_pos rfl]), rfl⟩
  · subst q
    refine k_tabIn B 68 dX9_sum_8 (by decide) (by decide) (off := 60) (by decide) (by decide) ?_
    refine k_aload_n B dX9_sum_68 rfl (by first | exact kRf_r _ | exact kRf_q _ | exact kRf_n) ?_
    refine gf_X9_153 B dX9_sum_69 h.o rfl ?_
    refine k_lret B hr dX9_sum_72 ?_ (by first | exact Nat.le_of_ble_eq_true rfl | omega | (simp only [kR, Value.category, kCat_q, List.map, List.sum_cons, List.sum_nil]; omega)) (by first | exact Nat.le_of_ble_eq_true rfl | omega | (simp only [kR, Value.category, kCat_q, List.map, List.sum_cons, List.sum_nil]; omega))
    exact ⟨gg, (by rw [rSum, cN_nI (show 4 < 2 ^ 31 by decide), if_neg (by decide), if_neg (by decide), if_neg (by decide), if_neg (by decide), if_pos rfl]), rfl⟩
  · subst q
    refine k_tabIn B 73 dX9_sum_8 (by decide) (by decide) (off := 65) (by decide) (by decide) ?_
    refine k_aload_n B dX9_sum_73 rfl (by first | exact kRf_r _ | exact kRf_q _ | exact kRf_n) ?_
    refine gf_X9_183 B dX9_sum_74 h.o rfl ?_
    refine k_lret B hr dX9_sum_77 ?_ (by first | exact Nat.le_of_ble_eq_true rfl | omega | (simp only [kR, Value.category, kCat_q, List.map, List.sum_cons, List.sum_nil]; omega)) (by first | exact Nat.le_of_ble_eq_true rfl | omega | (simp only [kR, Value.category, kCat_q, List.map, List.sum_cons, List.sum_nil]; omega))
    exact ⟨gg, (by rw [rSum, cN_nI (show 5 < 2 ^ 31 by decide), if_neg (by decide), if_neg (by decide), if_neg (by decide), if_neg (by decide), if_neg (by decide), if_pos rfl]), rfl⟩
  · subst q
    refine k_tabOut B 78 dX9_sum_8 (by decide) (by decide) ?_
    refine k_aload_n B dX9_sum_78 rfl (by first | exact kRf_r _ | exact kRf_q _ | exact kRf_n) ?_
    refine cl_X9_284 B (c_X9_falseLabels hl hs h) h.o dX9_sum_79 (by first | exact Nat.le_of_ble_eq_true rfl | omega | (simp only [kR, Value.category, kCat_q, List.map, List.sum_cons, List.sum_nil]; omega)) (by first | exact Nat.le_of_ble_eq_true rfl | omega | (simp only [kR, Value.category, kCat_q, List.map, List.sum_cons, List.sum_nil]; omega)) (by first | exact Nat.le_of_ble_eq_true rfl | omega | (simp only [kR, Value.category, kCat_q, List.map, List.sum_cons, List.sum_nil]; omega)) (by first | exact Nat.le_of_ble_eq_true rfl | omega | (simp only [kR, Value.category, kCat_q, List.map, List.sum_cons, List.sum_nil]; omega)) (by first | exact Nat.le_of_ble_eq_true rfl | omega | (simp only [kR, Value.category, kCat_q, List.map, List.sum_cons, List.sum_nil]; omega)) (fun _ hx => hx.elim) (fun v79 s79 hp79 => ?_)
    obtain ⟨rfl, e79⟩ := hp79
    rw [e79]
    refine kK.rev (y := .long (nL (fFal z))) rfl ?_
    refine k_lret B hr dX9_sum_82 ?_ (by first | exact Nat.le_of_ble_eq_true rfl | omega | (simp only [kR, Value.category, kCat_q, List.map, List.sum_cons, List.sum_nil]; omega)) (by first | exact Nat.le_of_ble_eq_true rfl | omega | (simp only [kR, Value.category, kCat_q, List.map, List.sum_cons, List.sum_nil]; omega))
    exact ⟨gg, (by rw [rSum, cN_nI (show 6 < 2 ^ 31 by decide), if_neg (by decide), if_neg (by decide), if_neg (by decide), if_neg (by decide), if_neg (by decide), if_neg (by decide)]), rfl⟩
set_option maxHeartbeats 1000000 in
set_option maxRecDepth 100000 in
theorem c_X9_forbid (hl : l.stackTraces = false) (hs : sOk z) (h : cl9 D aO z J F σ) {y : Int32} : kMh hX9_forbid l D yX9_forbid 8 2 12 [.ref aO, .int y] σ (fun v s2 => gForbid z y = none ∧ v = some (.int (rForbid z y)) ∧ cl9 D aO (nForbid z y) J F s2 ∧ kFr k9F σ s2) (fun E => gForbid z y = some E) := by
  refine kM_of (L := [some (.ref aO), some (.int y), none, none, none]) (by decide +kernel) hl (List.forall_mem_cons.mpr ⟨rfl, (List.forall_mem_cons.mpr ⟨rfl, (fun _ h => absurd h List.not_mem_nil)⟩)⟩) (Nat.le_of_ble_eq_true rfl) rfl ?_
  intro p e s m args below meth c B hr hex hnm
  have B : kB p l s m args meth c D (kA σ s.heap.size) 5 cX9_forbid RX9 := B
  obtain ⟨cA, wA, lA, aJ, cad, ra, wad, lad, R, h⟩ := h
  have hl40 := hs.2.2.2.1.1
  refine k_iload_n B dX9_forbid_0 rfl ?_
  refine k_bipush B (v := 6) dX9_forbid_1 (by decide) ?_
  refine cl_X9_83 B (c_X9_needIndex hl) dX9_forbid_3 (by first | exact Nat.le_of_ble_eq_true rfl | omega | (simp only [kR, Value.category, kCat_q, List.map, List.sum_cons, List.sum_nil]; omega)) (by first | exact Nat.le_of_ble_eq_true rfl | omega | (simp only [kR, Value.category, kCat_q, List.map, List.sum_cons, List.sum_nil]; omega)) (by first | exact Nat.le_of_ble_eq_true rfl | omega | (simp only [kR, Value.category, kCat_q, List.map, List.sum_cons, List.sum_nil]; omega)) (by first | exact Nat.le_of_ble_eq_true rfl | omega | (simp only [kR, Value.category, kCat_q, List.map, List.sum_cons, List.sum_nil]; omega)) (by first | exact Nat.le_of_ble_eq_true rfl | omega | (simp only [kR, Value.category, kCat_q, List.map, List.sum_cons, List.sum_nil]; omega)) (fun E hE => k_xout B hex (fun _ _ h => h) (gIx_n hE) (by decide) (by decide)) (fun v3 s3 hp3 => ?_)
  obtain ⟨rfl, e3, g2⟩ := hp3
  rw [e3]
  have gg : gForbid z y = gSt (decide (sFb z &&& bitI y = 0)) := gIx_p g2
  refine k_iconst B (v := 1) dX9_forbid_6 (by decide) ?_
  refine k_iload_n B dX9_forbid_7 rfl ?_
  refine k_ishl B dX9_forbid_8 ?_
  refine k_istore_n B dX9_forbid_9 (by decide) ?_
  try refine kK.set1 (by first | exact True.intro | rfl | exact kCat_q _) ?_
  refine k_aload_n B dX9_forbid_10 rfl (by first | exact kRf_r _ | exact kRf_q _ | exact kRf_n) ?_
  refine gf_X9_208 B dX9_forbid_11 h.o rfl ?_
  refine k_iload_n B dX9_forbid_14 rfl ?_
  refine k_iand B dX9_forbid_15 ?_
  refine kK.rei (y := sFb z &&& bitI y) rfl ?_
  refine k_if_ne B 23 dX9_forbid_16 (by decide) (fun c16 => ?_) (fun c16 => ?_)
  · rename_i c16
    refine k_iconst B (v := 0) dX9_forbid_23 (by decide) ?_
    refine cl_X9_66 B (c_X9_needState hl) dX9_forbid_24 (by first | exact Nat.le_of_ble_eq_true rfl | omega | (simp only [kR, Value.category, kCat_q, List.map, List.sum_cons, List.sum_nil]; omega)) (by first | exact Nat.le_of_ble_eq_true rfl | omega | (simp only [kR, Value.category, kCat_q, List.map, List.sum_cons, List.sum_nil]; omega)) (by first | exact Nat.le_of_ble_eq_true rfl | omega | (simp only [kR, Value.category, kCat_q, List.map, List.sum_cons, List.sum_nil]; omega)) (by first | exact Nat.le_of_ble_eq_true rfl | omega | (simp only [kR, Value.category, kCat_q, List.map, List.sum_cons, List.sum_nil]; omega)) (by first | exact Nat.le_of_ble_eq_true rfl | omega | (simp only [kR, Value.category, kCat_q, List.map, List.sum_cons, List.sum_nil]; omega)) (fun E hE => k_xout B hex (fun _ _ h => h) (gg.trans (gSt_f (decide_eq_false c16) hE.1)) (by decide) (by decide)) (fun v24 s24 hp24 => ?_)
    exact absurd rfl hp24.2.2
  · rename_i c16
    refine k_iconst B (v := 1) dX9_forbid_19 (by decide) ?_
    refine k_goto B 24 dX9_forbid_20 (by decide) ?_
    refine cl_X9_66 B (c_X9_needState hl) dX9_forbid_24 (by first | exact Nat.le_of_ble_eq_true rfl | omega | (simp only [kR, Value.category, kCat_q, List.map, List.sum_cons, List.sum_nil]; omega)) (by first | exact Nat.le_of_ble_eq_true rfl | omega | (simp only [kR, Value.category, kCat_q, List.map, List.sum_cons, List.sum_nil]; omega)) (by first | exact Nat.le_of_ble_eq_true rfl | omega | (simp only [kR, Value.category, kCat_q, List.map, List.sum_cons, List.sum_nil]; omega)) (by first | exact Nat.le_of_ble_eq_true rfl | omega | (simp only [kR, Value.category, kCat_q, List.map, List.sum_cons, List.sum_nil]; omega)) (by first | exact Nat.le_of_ble_eq_true rfl | omega | (simp only [kR, Value.category, kCat_q, List.map, List.sum_cons, List.sum_nil]; omega)) (fun E hE => absurd hE.2 (by decide)) (fun v24 s24 hp24 => ?_)
    obtain ⟨rfl, e24, -⟩ := hp24
    rw [e24]
    refine k_aload_n B dX9_forbid_27 rfl (by first | exact kRf_r _ | exact kRf_q _ | exact kRf_n) ?_
    refine k_dup B dX9_forbid_28 rfl ?_
    refine gf_X9_208 B dX9_forbid_29 h.o rfl ?_
    refine k_iload_n B dX9_forbid_32 rfl ?_
    refine k_ior B dX9_forbid_33 ?_
    refine pf_X9_208 B dX9_forbid_34 h.o rfl ?_
    refine k_iconst B (v := 0) dX9_forbid_37 (by decide) ?_
    refine k_istore_n B dX9_forbid_38 (by decide) ?_
    try refine kK.set1 (by first | exact True.intro | rfl | exact kCat_q _) ?_
    refine k_iconst B (v := 0) dX9_forbid_39 (by decide) ?_
    refine k_istore B dX9_forbid_40 (by decide) ?_
    try refine kK.set1 (by first | exact True.intro | rfl | exact kCat_q _) ?_
    generalize hs1 : kUp σ aO _ = s1
    have hI : cI D aO cA wA lA aJ cad ra wad lad R (fbS z (bitI y) 0) J F s1 := by
      rw [← hs1, fbS, fbL_0]
      exact h.obj _
    have hF : kFr k9F σ s1 := by rw [← hs1]; exact kFr.up h.o (Or.inl (show (9 : Nat) ≤ 9 by decide))
    have loop : ∀ (n i : Nat) (s1 : kS), i + n = sLn z → cI D aO cA wA lA aJ cad ra wad lad R (fbS z (bitI y) i) J F s1 → kFr k9F σ s1 → kK p l e (kR 8 2 12) s m args below meth c D (kA σ s.heap.size) 5 (kQ below args s D σ (fun v s2 => gForbid z y = none ∧ v = some (.int (rForbid z y)) ∧ cl9 D aO (nForbid z y) J F s2 ∧ kFr k9F σ s2) (fun E => gForbid z y = some E) 2 12) s1 2 12 42 [some (.ref aO), some (.int y), some (.int (bitI y)), some (.int (nI (fbN z (bitI y) i))), some (.int (nI i))] [] := by
      intro n
      induction n with
      | zero =>
        intro i s1 hi hI hF
        have hi10 : i = sLn z := by omega
        subst hi10
        refine k_iload B dX9_forbid_42 rfl ?_
        refine k_aload_n B dX9_forbid_44 rfl (by first | exact kRf_r _ | exact kRf_q _ | exact kRf_n) ?_
        refine gf_X9_177 B dX9_forbid_45 hI.o rfl ?_
        refine k_icmp_ge B 85 dX9_forbid_48 (by decide) (fun c48 => ?_) (fun c48 => ?_)
        · refine k_iload_n B dX9_forbid_85 rfl ?_
          refine k_iret B hr dX9_forbid_86 ?_ (by first | exact Nat.le_of_ble_eq_true rfl | omega | (simp only [kR, Value.category, kCat_q, List.map, List.sum_cons, List.sum_nil]; omega)) (by first | exact Nat.le_of_ble_eq_true rfl | omega | (simp only [kR, Value.category, kCat_q, List.map, List.sum_cons, List.sum_nil]; omega))
          exact ⟨gg.trans (gSt_t (decide_eq_true c16)), rfl, ⟨cA, wA, lA, aJ, cad, ra, wad, lad, R, hI⟩, hF⟩
        · exact absurd (Int32.le_refl _) c48
      | succ n ih =>
        intro i s1 hi hI hF
        have hi10 : i < sLn z := by omega
        obtain ⟨f, f1, f2⟩ := hI.al
        have hlo := hI.lo.1 i hi10
        have hlo2 : s1 (lad i) = some (loE (ra (11 + i)) (sLo z i)) := by
          rw [hlo]
          show some (loE (ra (11 + i)) (fbL z (bitI y) i i)) = _
          rw [fbL_at]
        have next : ∀ (x : Nat) (s1 : kS), x = fbN z (bitI y) (i + 1) → cI D aO cA wA lA aJ cad ra wad lad R (fbS z (bitI y) (i + 1)) J F s1 → kFr k9F σ s1 → kK p l e (kR 8 2 12) s m args below meth c D (kA σ s.heap.size) 5 (kQ below args s D σ (fun v s2 => gForbid z y = none ∧ v = some (.int (rForbid z y)) ∧ cl9 D aO (nForbid z y) J F s2 ∧ kFr k9F σ s2) (fun E => gForbid z y = some E) 2 12) s1 2 12 79 [some (.ref aO), some (.int y), some (.int (bitI y)), some (.int (nI x)), some (.int (nI i))] [] := by
          intro x s1 hx hI hF
          refine k_iinc1 B dX9_forbid_79 rfl (by decide) ?_
          try refine kK.set1 (by first | exact True.intro | rfl | exact kCat_q _) ?_
          refine k_goto B 42 dX9_forbid_82 (by decide) ?_
          rw [show nI i + 1 = nI (i + 1) by rw [← nI_1]]
          subst hx
          exact ih (i + 1) s1 (by omega) hI hF
        refine k_iload B dX9_forbid_42 rfl ?_
        refine k_aload_n B dX9_forbid_44 rfl (by first | exact kRf_r _ | exact kRf_q _ | exact kRf_n) ?_
        refine gf_X9_177 B dX9_forbid_45 hI.o rfl ?_
        refine k_icmp_ge B 85 dX9_forbid_48 (by decide) (fun c48 => ?_) (fun c48 => ?_)
        · exact absurd (show nI (sLn z) ≤ nI i from c48) (nI_ge hi10 (by omega))
        · refine k_aload_n B dX9_forbid_51 rfl (by first | exact kRf_r _ | exact kRf_q _ | exact kRf_n) ?_
          refine gf_X9_30 B dX9_forbid_52 hI.o rfl ?_
          refine k_iload B dX9_forbid_55 rfl ?_
          refine k_aald B (ti := 6) (C := RX2) rfl dX9_forbid_57 f1 (vp_in_nI (show i < 40 by omega) (by decide)) ?_
          refine kK.rev (y := .ref (lad i)) (by rw [nI_clamp (by omega), f2 i hi10]; rfl) ?_
          refine k_iload_n B dX9_forbid_58 rfl ?_
          refine cl_X9_219 B (c_X2_isRecalledBy hl hlo2) hlo2 dX9_forbid_59 (by first | exact Nat.le_of_ble_eq_true rfl | omega | (simp only [kR, Value.category, kCat_q, List.map, List.sum_cons, List.sum_nil]; omega)) (by first | exact Nat.le_of_ble_eq_true rfl | omega | (simp only [kR, Value.category, kCat_q, List.map, List.sum_cons, List.sum_nil]; omega)) (by first | exact Nat.le_of_ble_eq_true rfl | omega | (simp only [kR, Value.category, kCat_q, List.map, List.sum_cons, List.sum_nil]; omega)) (by first | exact Nat.le_of_ble_eq_true rfl | omega | (simp only [kR, Value.category, kCat_q, List.map, List.sum_cons, List.sum_nil]; omega)) (by first | exact Nat.le_of_ble_eq_true rfl | omega | (simp only [kR, Value.category, kCat_q, List.map, List.sum_cons, List.sum_nil]; omega)) (fun _ hx => hx.elim) (fun v59 s59 hp59 => ?_)
          obtain ⟨rfl, e59⟩ := hp59
          rw [e59]
          refine kK.rev (y := .int (bI (fbB z (bitI y) i))) rfl ?_
          refine k_if_eq B 79 dX9_forbid_62 (by decide) (fun c62 => ?_) (fun c62 => ?_)
          · rename_i c62
            have hn : ¬ fbB z (bitI y) i = true := fun q => by rw [q] at c62; exact absurd c62 (by decide)
            refine next (fbN z (bitI y) i) s1 (by simp only [fbN, suN]; rw [if_neg hn]; rfl) ?_ hF
            rw [fbS, fbL_no hn]
            exact hI
          · rename_i c62
            have hn : fbB z (bitI y) i = true := by
              by_cases q : fbB z (bitI y) i = true
              · exact q
              · exact absurd (by rw [bI, if_neg q]) c62
            refine k_aload_n B dX9_forbid_65 rfl (by first | exact kRf_r _ | exact kRf_q _ | exact kRf_n) ?_
            refine gf_X9_30 B dX9_forbid_66 hI.o rfl ?_
            refine k_iload B dX9_forbid_69 rfl ?_
            refine k_aald B (ti := 6) (C := RX2) rfl dX9_forbid_71 f1 (vp_in_nI (show i < 40 by omega) (by decide)) ?_
            refine kK.rev (y := .ref (lad i)) (by rw [nI_clamp (by omega), f2 i hi10]; rfl) ?_
            refine k_iconst B (v := 1) dX9_forbid_72 (by decide) ?_
            refine pf_X9_223 B dX9_forbid_73 hlo2 rfl (Or.inr rfl) ?_
            refine k_iinc1 B dX9_forbid_76 rfl (by decide) ?_
            try refine kK.set1 (by first | exact True.intro | rfl | exact kCat_q _) ?_
            rw [show nI (fbN z (bitI y) i) + 1 = nI (fbN z (bitI y) i + 1) by rw [← nI_1]]
            refine next (fbN z (bitI y) i + 1) _ (by simp only [fbN, suN]; rw [if_pos hn]) ?_ (hF.tr (kFr.up hlo2 (Or.inl (show (2 : Nat) ≤ 9 by decide))))
            rw [fbS, fbL_yes hn]
            exact hI.lot hi10 _
    rw [show (0 : Int32) = nI 0 by rw [nI_0]]
    exact loop (sLn z) 0 s1 (by omega) hI hF
end Ops5
