theorem nI_L {n : Nat} (h : n < 2 ^ 31) : (nI n).toInt64 = nL n := nI_l h
def cN (c : Int32) : Nat := c.toNatClampNeg
theorem cN_nI {j : Nat} (h : j < 2 ^ 31) : cN (nI j) = j := nI_clamp h
/-- what an index in range is -/
theorem ix_of {c : Int32} {n : Nat} (hn : n < 2 ^ 31) (h : 0 ≤ c ∧ c < nI n) : ∃ i, i < n ∧ c = nI i := by
  obtain ⟨j, hj, e⟩ := nI_of (x := c) (fun q => i32_lt_nle q h.1)
  subst e
  exact ⟨j, (nI_ltI hj hn).mp h.2, rfl⟩
theorem ix_of2 {c : Int32} {n : Nat} (hn : n < 2 ^ 31) (h : 0 ≤ c ∧ c ≤ nI n) : ∃ i, i ≤ n ∧ c = nI i := by
  obtain ⟨j, hj, e⟩ := nI_of (x := c) (fun q => i32_lt_nle q h.1)
  subst e
  exact ⟨j, (nI_leI hj hn).mp h.2, rfl⟩
def k9F (k : Nat) : Prop := k ≤ 9 ∨ k = 15
section At
variable {l : Launch} {D : va_G} {σ s2 : kS} {aO cA wA lA aJ : Nat} {cad ra wad lad : Nat → Nat} {R : Nat → kPs} {z : kSt} {J : List kJe} {F : kF}
theorem cI.o (h : cI D aO cA wA lA aJ cad ra wad lad R z J F σ) : σ aO = some (o9E cA wA lA (ra 10) aJ (cad (sDr z)) z) := h.1
theorem cI.a (h : cI D aO cA wA lA aJ cad ra wad lad R z J F σ) : ar9 (D.1 15) 10 cA 10 cad σ := h.2.1
theorem cI.aw (h : cI D aO cA wA lA aJ cad ra wad lad R z J F σ) : ar9 (D.1 16) 6 wA (sWn z) wad σ := h.2.2.1
theorem cI.al (h : cI D aO cA wA lA aJ cad ra wad lad R z J F σ) : ar9 (D.1 17) 40 lA (sLn z) lad σ := h.2.2.2.1
theorem cI.c (h : cI D aO cA wA lA aJ cad ra wad lad R z J F σ) : ce9 cad ra (sK z) σ := h.2.2.2.2.1
theorem cI.w (h : cI D aO cA wA lA aJ cad ra wad lad R z J F σ) : we9 (sWn z) wad cad (sW z) σ := h.2.2.2.2.2.1
theorem cI.lo (h : cI D aO cA wA lA aJ cad ra wad lad R z J F σ) : lo9 (sLn z) lad ra (sLo z) σ := h.2.2.2.2.2.2.1
theorem cI.r (h : cI D aO cA wA lA aJ cad ra wad lad R z J F σ) : rwI (11 + sLn z) ra R σ := h.2.2.2.2.2.2.2.1
theorem cI.rc (h : cI D aO cA wA lA aJ cad ra wad lad R z J F σ) : ∀ i, i < 11 + sLn z → kCon (R i) = sR z i := h.2.2.2.2.2.2.2.2.1
theorem cI.j (h : cI D aO cA wA lA aJ cad ra wad lad R z J F σ) : jo9 D aJ J F σ := h.2.2.2.2.2.2.2.2.2
/-- an entry of another kind is none of these -/
theorem noAr {N k : Nat} {e : va_E} (h : kC e = k) (hk : k ≠ 15) : ¬ isAr N e := by
  intro q
  obtain ⟨c1, M, f | f | f | f | f⟩ | f := e
  all_goals first | exact q.elim | (subst h; exact hk rfl)
theorem noJ {k : Nat} {e : va_E} (h : kC e = k) (hk : k ≠ 1 ∧ k ≠ 3 ∧ k ≠ 4 ∧ k ≠ 7 ∧ k ≠ 15) : ¬ jP e := by
  intro q
  rcases q with q | q | q | q | q
  · exact hk.1 (h.symm.trans q)
  · exact hk.2.1 (h.symm.trans q)
  · exact hk.2.2.1 (h.symm.trans q)
  · exact hk.2.2.2.1 (h.symm.trans q)
  · exact noAr h hk.2.2.2.2 q
theorem noK {k j : Nat} {e : va_E} (h : kC e = k) (hk : k ≠ j) : ¬ (fun e : va_E => kC e = j) e := fun q => hk (h.symm.trans q)
theorem noR {k : Nat} {e : va_E} (h : kC e = k) (hk : k ≠ 5 ∧ k ≠ 6) : ¬ rP e := fun q => q.elim (fun q => hk.1 (h.symm.trans q)) (fun q => hk.2 (h.symm.trans q))
/-- one cell changed -/
theorem cI.cell (h : cI D aO cA wA lA aJ cad ra wad lad R z J F σ) {i : Nat} (hi : i < 10) (k : kCl) : cI D aO cA wA lA aJ cad ra wad lad R (z.1, upN (sK z) i k, z.2.2) J F (kUp σ (cad i) (cE cad ra i k)) := by
  obtain ⟨h1, h2, h3, h4, h5, h6, h7, h8, h9, h10⟩ := h
  have hc := h5 i hi
  exact ⟨kUp_o (kNe h1 hc (by decide)) h1, h2.keep (kKp.up hc (noAr (k := 0) rfl (by decide))), h3.keep (kKp.up hc (noAr (k := 0) rfl (by decide))), h4.keep (kKp.up hc (noAr (k := 0) rfl (by decide))), h5.up hi k, h6.keep (kKp.up hc (noK (k := 0) rfl (by decide))), h7.keep (kKp.up hc (noK (k := 0) rfl (by decide))), h8.keep (kKp.up hc (noR (k := 0) rfl (by decide))), h9, h10.keep (kKp.up hc (noJ (k := 0) rfl (by decide)))⟩
/-- the object's own cell changed -/
theorem cI.obj (h : cI D aO cA wA lA aJ cad ra wad lad R z J F σ) (c2 : kSc) : cI D aO cA wA lA aJ cad ra wad lad R (c2, z.2) J F (kUp σ aO (o9E cA wA lA (ra 10) aJ (cad c2.2.2.1) (c2, z.2))) := by
  obtain ⟨h1, h2, h3, h4, h5, h6, h7, h8, h9, h10⟩ := h
  exact ⟨kUp_eq, h2.keep (kKp.up h1 (noAr (k := 9) rfl (by decide))), h3.keep (kKp.up h1 (noAr (k := 9) rfl (by decide))), h4.keep (kKp.up h1 (noAr (k := 9) rfl (by decide))), h5.keep (kKp.up h1 (noK (k := 9) rfl (by decide))), h6.keep (kKp.up h1 (noK (k := 9) rfl (by decide))), h7.keep (kKp.up h1 (noK (k := 9) rfl (by decide))), h8.keep (kKp.up h1 (noR (k := 9) rfl (by decide))), h9, h10.keep (kKp.up h1 (noJ (k := 9) rfl (by decide)))⟩
/-- one lot changed -/
theorem cI.lot (h : cI D aO cA wA lA aJ cad ra wad lad R z J F σ) {i : Nat} (hi : i < sLn z) (t : kLo) : cI D aO cA wA lA aJ cad ra wad lad R (z.1, z.2.1, z.2.2.1, z.2.2.2.1, (sLn z, upN (sLo z) i t)) J F (kUp σ (lad i) (loE (ra (11 + i)) t)) := by
  obtain ⟨h1, h2, h3, h4, h5, h6, h7, h8, h9, h10⟩ := h
  have hc := h7.1 i hi
  exact ⟨kUp_o (kNe h1 hc (by decide)) h1, h2.keep (kKp.up hc (noAr (k := 2) rfl (by decide))), h3.keep (kKp.up hc (noAr (k := 2) rfl (by decide))), h4.keep (kKp.up hc (noAr (k := 2) rfl (by decide))), h5.keep (kKp.up hc (noK (k := 2) rfl (by decide))), h6.keep (kKp.up hc (noK (k := 2) rfl (by decide))), h7.up hi t, h8.keep (kKp.up hc (noR (k := 2) rfl (by decide))), h9, h10.keep (kKp.up hc (noJ (k := 2) rfl (by decide)))⟩
/-- one well changed -/
theorem cI.well (h : cI D aO cA wA lA aJ cad ra wad lad R z J F σ) {i : Nat} (hi : i < sWn z) (t : kWl) : cI D aO cA wA lA aJ cad ra wad lad R (z.1, z.2.1, z.2.2.1, (sWn z, upN (sW z) i t), z.2.2.2.2) J F (kUp σ (wad i) (wE cad t)) := by
  obtain ⟨h1, h2, h3, h4, h5, h6, h7, h8, h9, h10⟩ := h
  have hc := h6.1 i hi
  exact ⟨kUp_o (kNe h1 hc (by decide)) h1, h2.keep (kKp.up hc (noAr (k := 8) rfl (by decide))), h3.keep (kKp.up hc (noAr (k := 8) rfl (by decide))), h4.keep (kKp.up hc (noAr (k := 8) rfl (by decide))), h5.keep (kKp.up hc (noK (k := 8) rfl (by decide))), h6.up hi t, h7.keep (kKp.up hc (noK (k := 8) rfl (by decide))), h8.keep (kKp.up hc (noR (k := 8) rfl (by decide))), h9, h10.keep (kKp.up hc (noJ (k := 8) rfl (by decide)))⟩
set_option maxRecDepth 100000 in
theorem c_X9_cellAt (hl : l.stackTraces = false) (h : cI D aO cA wA lA aJ cad ra wad lad R z J F σ) {c9 : Int32} : kMh hX9_cellAt l D yX9_cellAt 7 1 6 [.ref aO, .int c9] σ (fun v s2 => s2 = σ ∧ ∃ i, i < 10 ∧ c9 = nI i ∧ v = some (.ref (cad i))) (fun E => E = eI ∧ ¬ (0 ≤ c9 ∧ c9 < 10)) := by
  refine kM_of (L := [some (.ref aO), some (.int c9)]) (by decide +kernel) hl (List.forall_mem_cons.mpr ⟨rfl, (List.forall_mem_cons.mpr ⟨rfl, (fun _ h => absurd h List.not_mem_nil)⟩)⟩) (Nat.le_of_ble_eq_true rfl) rfl ?_
  intro p e s m args below meth c B hr hex hnm
  have B : kB p l s m args meth c D (kA σ s.heap.size) 2 cX9_cellAt RX9 := B
  refine k_iload_n B dX9_cellAt_0 rfl ?_
  refine k_bipush B (v := 10) dX9_cellAt_1 (by decide) ?_
  refine cl_X9_83 B (c_X9_needIndex hl) dX9_cellAt_3 (by first | exact Nat.le_of_ble_eq_true rfl | omega | (simp only [kR, Value.category, kCat_q, List.map, List.sum_cons, List.sum_nil]; omega)) (by first | exact Nat.le_of_ble_eq_true rfl | omega | (simp only [kR, Value.category, kCat_q, List.map, List.sum_cons, List.sum_nil]; omega)) (by first | exact Nat.le_of_ble_eq_true rfl | omega | (simp only [kR, Value.category, kCat_q, List.map, List.sum_cons, List.sum_nil]; omega)) (by first | exact Nat.le_of_ble_eq_true rfl | omega | (simp only [kR, Value.category, kCat_q, List.map, List.sum_cons, List.sum_nil]; omega)) (by first | exact Nat.le_of_ble_eq_true rfl | omega | (simp only [kR, Value.category, kCat_q, List.map, List.sum_cons, List.sum_nil]; omega)) (fun E hE => k_xout B hex (fun _ _ h => h) hE (by decide) (by decide)) (fun v3 s3 hp3 => ?_)
  obtain ⟨rfl, rfl, b1, b2⟩ := hp3
  obtain ⟨i, hi, e0⟩ := ix_of (n := 10) (by decide) ⟨b1, b2⟩
  obtain ⟨f, f1, f2⟩ := h.a
  subst e0
  refine k_aload_n B dX9_cellAt_6 rfl (by first | exact kRf_r _ | exact kRf_q _ | exact kRf_n) ?_
  refine gf_X9_11 B dX9_cellAt_7 h.o rfl ?_
  refine k_iload_n B dX9_cellAt_10 rfl ?_
  refine k_aald B (ti := 4) (C := RX0) rfl dX9_cellAt_11 f1 (vp_in_nI hi (by decide)) ?_
  refine kK.rev (y := .ref (cad i)) (by rw [nI_clamp (by omega), f2 i hi]; rfl) ?_
  refine k_aret B hr ⟨_, rfl⟩ dX9_cellAt_12 (by first | exact kRf_r _ | exact kRf_q _ | exact kRf_n) ?_ (by first | exact Nat.le_of_ble_eq_true rfl | omega | (simp only [kR, Value.category, kCat_q, List.map, List.sum_cons, List.sum_nil]; omega)) (by first | exact Nat.le_of_ble_eq_true rfl | omega | (simp only [kR, Value.category, kCat_q, List.map, List.sum_cons, List.sum_nil]; omega))
  exact ⟨rfl, i, hi, rfl, rfl⟩
set_option maxRecDepth 100000 in
theorem c_X9_wellAt (hl : l.stackTraces = false) (h : cI D aO cA wA lA aJ cad ra wad lad R z J F σ) (hn6 : sWn z ≤ 6) {c9 : Int32} : kMh hX9_wellAt l D yX9_wellAt 7 1 6 [.ref aO, .int c9] σ (fun v s2 => s2 = σ ∧ ∃ i, i < sWn z ∧ c9 = nI i ∧ v = some (.ref (wad i))) (fun E => E = eI ∧ ¬ (0 ≤ c9 ∧ c9 < nI (sWn z))) := by
  refine kM_of (L := [some (.ref aO), some (.int c9)]) (by decide +kernel) hl (List.forall_mem_cons.mpr ⟨rfl, (List.forall_mem_cons.mpr ⟨rfl, (fun _ h => absurd h List.not_mem_nil)⟩)⟩) (Nat.le_of_ble_eq_true rfl) rfl ?_
  intro p e s m args below meth c B hr hex hnm
  have B : kB p l s m args meth c D (kA σ s.heap.size) 2 cX9_wellAt RX9 := B
  refine k_iload_n B dX9_wellAt_0 rfl ?_
  refine k_aload_n B dX9_wellAt_1 rfl (by first | exact kRf_r _ | exact kRf_q _ | exact kRf_n) ?_
  refine gf_X9_112 B dX9_wellAt_2 h.o rfl ?_
  refine cl_X9_83 B (c_X9_needIndex hl) dX9_wellAt_5 (by first | exact Nat.le_of_ble_eq_true rfl | omega | (simp only [kR, Value.category, kCat_q, List.map, List.sum_cons, List.sum_nil]; omega)) (by first | exact Nat.le_of_ble_eq_true rfl | omega | (simp only [kR, Value.category, kCat_q, List.map, List.sum_cons, List.sum_nil]; omega)) (by first | exact Nat.le_of_ble_eq_true rfl | omega | (simp only [kR, Value.category, kCat_q, List.map, List.sum_cons, List.sum_nil]; omega)) (by first | exact Nat.le_of_ble_eq_true rfl | omega | (simp only [kR, Value.category, kCat_q, List.map, List.sum_cons, List.sum_nil]; omega)) (by first | exact Nat.le_of_ble_eq_true rfl | omega | (simp only [kR, Value.category, kCat_q, List.map, List.sum_cons, List.sum_nil]; omega)) (fun E hE => k_xout B hex (fun _ _ h => h) hE (by decide) (by decide)) (fun v5 s5 hp5 => ?_)
  obtain ⟨rfl, rfl, b1, b2⟩ := hp5
  obtain ⟨i, hi, e0⟩ := ix_of (n := sWn z) (by omega) ⟨b1, b2⟩
  obtain ⟨f, f1, f2⟩ := h.aw
  subst e0
  refine k_aload_n B dX9_wellAt_8 rfl (by first | exact kRf_r _ | exact kRf_q _ | exact kRf_n) ?_
  refine gf_X9_24 B dX9_wellAt_9 h.o rfl ?_
  refine k_iload_n B dX9_wellAt_12 rfl ?_
  refine k_aald B (ti := 5) (C := RX8) rfl dX9_wellAt_13 f1 (vp_in_nI (show i < 6 by omega) (by decide)) ?_
  refine kK.rev (y := .ref (wad i)) (by rw [nI_clamp (by omega), f2 i hi]; rfl) ?_
  refine k_aret B hr ⟨_, rfl⟩ dX9_wellAt_14 (by first | exact kRf_r _ | exact kRf_q _ | exact kRf_n) ?_ (by first | exact Nat.le_of_ble_eq_true rfl | omega | (simp only [kR, Value.category, kCat_q, List.map, List.sum_cons, List.sum_nil]; omega)) (by first | exact Nat.le_of_ble_eq_true rfl | omega | (simp only [kR, Value.category, kCat_q, List.map, List.sum_cons, List.sum_nil]; omega))
  exact ⟨rfl, i, hi, rfl, rfl⟩
set_option maxRecDepth 100000 in
theorem c_X9_lotAt (hl : l.stackTraces = false) (h : cI D aO cA wA lA aJ cad ra wad lad R z J F σ) (hn6 : sLn z ≤ 40) {c9 : Int32} : kMh hX9_lotAt l D yX9_lotAt 7 1 6 [.ref aO, .int c9] σ (fun v s2 => s2 = σ ∧ ∃ i, i < sLn z ∧ c9 = nI i ∧ v = some (.ref (lad i))) (fun E => E = eI ∧ ¬ (0 ≤ c9 ∧ c9 < nI (sLn z))) := by
  refine kM_of (L := [some (.ref aO), some (.int c9)]) (by decide +kernel) hl (List.forall_mem_cons.mpr ⟨rfl, (List.forall_mem_cons.mpr ⟨rfl, (fun _ h => absurd h List.not_mem_nil)⟩)⟩) (Nat.le_of_ble_eq_true rfl) rfl ?_
  intro p e s m args below meth c B hr hex hnm
  have B : kB p l s m args meth c D (kA σ s.heap.size) 2 cX9_lotAt RX9 := B
  refine k_iload_n B dX9_lotAt_0 rfl ?_
  refine k_aload_n B dX9_lotAt_1 rfl (by first | exact kRf_r _ | exact kRf_q _ | exact kRf_n) ?_
  refine gf_X9_177 B dX9_lotAt_2 h.o rfl ?_
  refine cl_X9_83 B (c_X9_needIndex hl) dX9_lotAt_5 (by first | exact Nat.le_of_ble_eq_true rfl | omega | (simp only [kR, Value.category, kCat_q, List.map, List.sum_cons, List.sum_nil]; omega)) (by first | exact Nat.le_of_ble_eq_true rfl | omega | (simp only [kR, Value.category, kCat_q, List.map, List.sum_cons, List.sum_nil]; omega)) (by first | exact Nat.le_of_ble_eq_true rfl | omega | (simp only [kR, Value.category, kCat_q, List.map, List.sum_cons, List.sum_nil]; omega)) (by first | exact Nat.le_of_ble_eq_true rfl | omega | (simp only [kR, Value.category, kCat_q, List.map, List.sum_cons, List.sum_nil]; omega)) (by first | exact Nat.le_of_ble_eq_true rfl | omega | (simp only [kR, Value.category, kCat_q, List.map, List.sum_cons, List.sum_nil]; omega)) (fun E hE => k_xout B hex (fun _ _ h => h) hE (by decide) (by decide)) (fun v5 s5 hp5 => ?_)
  obtain ⟨rfl, rfl, b1, b2⟩ := hp5
  obtain ⟨i, hi, e0⟩ := ix_of (n := sLn z) (by omega) ⟨b1, b2⟩
  obtain ⟨f, f1, f2⟩ := h.al
  subst e0
  refine k_aload_n B dX9_lotAt_8 rfl (by first | exact kRf_r _ | exact kRf_q _ | exact kRf_n) ?_
  refine gf_X9_30 B dX9_lotAt_9 h.o rfl ?_
  refine k_iload_n B dX9_lotAt_12 rfl ?_
  refine k_aald B (ti := 6) (C := RX2) rfl dX9_lotAt_13 f1 (vp_in_nI (show i < 40 by omega) (by decide)) ?_
  refine kK.rev (y := .ref (lad i)) (by rw [nI_clamp (by omega), f2 i hi]; rfl) ?_
  refine k_aret B hr ⟨_, rfl⟩ dX9_lotAt_14 (by first | exact kRf_r _ | exact kRf_q _ | exact kRf_n) ?_ (by first | exact Nat.le_of_ble_eq_true rfl | omega | (simp only [kR, Value.category, kCat_q, List.map, List.sum_cons, List.sum_nil]; omega)) (by first | exact Nat.le_of_ble_eq_true rfl | omega | (simp only [kR, Value.category, kCat_q, List.map, List.sum_cons, List.sum_nil]; omega))
  exact ⟨rfl, i, hi, rfl, rfl⟩
end At
