theorem eaS_mem {bit : Int32} {L : kPs} {f : Option (Nat × kP)} {q : Nat × kP} (h : eaS bit L f = some q) : q ∈ L ∨ f = some q := by
  induction L generalizing f with
  | nil => exact Or.inr h
  | cons r t ih =>
    simp only [eaS] at h
    rcases ih h with h1 | h1
    · exact Or.inl (List.mem_cons_of_mem _ h1)
    · split at h1
      · exact Or.inr h1
      · split at h1
        · exact Or.inl (by cases h1; exact List.mem_cons_self)
        · split at h1
          · exact Or.inl (by cases h1; exact List.mem_cons_self)
          · exact Or.inr h1
/-- the earliest portion with a compound, by contents -/
def eaC (bit : Int32) : List kP → Option kP → Option kP
  | [], f => f
  | q :: t, f => eaC bit t (if q.2.2.2.1 &&& bit = 0 then f else match f with
    | none => some q
    | some g => if kEarlB q g = true then some q else f)
theorem eaS_con {bit : Int32} {L : kPs} {f : Option (Nat × kP)} : (eaS bit L f).map (·.2) = eaC bit (kCon L) (f.map (·.2)) := by
  induction L generalizing f with
  | nil => rfl
  | cons r t ih =>
    show (eaS bit t _).map (·.2) = eaC bit (kCon t) _
    rw [ih]
    congr 1
    by_cases h : r.2.2.2.2.1 &&& bit = 0
    · rw [if_pos h, if_pos h]
    · rw [if_neg h, if_neg h]
      cases f with
      | none => rfl
      | some g =>
        show Option.map _ (if kEarlB r.2 g.2 = true then some r else some g) = if kEarlB r.2 g.2 = true then some r.2 else some g.2
        split <;> rfl
def gBest (z : kSt) (c : Int32) : Option String := gLot z c none
def rBest (z : kSt) (c : Int32) : Int32 := if kindB z c 0 = true then 0 else if kindB z c 1 = true then 1 else 2
def gFrom (z : kSt) (l c : Int32) : Option String := gLot z l (gIx c 10 none)
def rFrom (z : kSt) (l c y : Int32) : Int32 := nI (frS c y (sR z (11 + cN l)))
def gWhence (z : kSt) (l q : Int32) : Option String := gLot z l (gIx q 8 none)
def whI : Option kP → Int32
  | none => -1
  | some p => 1000 * nI p.1 + nI p.2.1
def rWhence (z : kSt) (l q : Int32) : Int32 := whI (eaC (bitI q) (sR z (11 + cN l)) none)
def rMay (z : kSt) (i : Nat) : Nat := (if unS (sR z (sDr z)) < sL2 z then 0 else if unS (sR z (sDr z)) < sL1 z then (sW z i).2.1 / 2 else (sW z i).2.1) - (sW z i).2.2
def gWl (z : kSt) (c : Int32) (g : Option String) : Option String := gIx c (nI (sWn z)) g
def gWellOf (z : kSt) (c w : Int32) : Option String := gWl z c (gRg w 0 3 none)
def rWellOf (z : kSt) (c w : Int32) : Int32 := if cN w = 0 then nI (sW z (cN c)).1 else if cN w = 1 then nI (sW z (cN c)).2.1 else if cN w = 2 then nI (sW z (cN c)).2.2 else nI (rMay z (cN c))
def gCellOf (c w : Int32) : Option String := gCell c (gRg w 0 6 none)
def rCellOf (z : kSt) (c w : Int32) : Int32 := if cN w = 0 then nI (unS (sR z (cN c))) else if cN w = 1 then nI (sK z (cN c)).2.1 else if cN w = 2 then nI (sK z (cN c)).2.2.1 else if cN w = 3 then ldI (sK z (cN c)).1 else if cN w = 4 then trvI z c else if cN w = 5 then nI (sK z (cN c)).2.2.2.1 else fyS (sR z (cN c))
def gFlow (w : Int32) : Option String := gRg w 0 3 none
def rFlow (z : kSt) (w : Int32) : Int32 := if cN w = 0 then nI (unS (sR z 10)) else if cN w = 1 then nI (niS (sR z 10)) else if cN w = 2 then coS (sR z 10) 0 else olI (sR z 10)
def gLotOf (z : kSt) (c w : Int32) : Option String := gLot z c (gRg w 0 10 none)
def rLotOf (z : kSt) (c w : Int32) : Int32 := if cN w = 0 then nI (sLo z (cN c)).1 else if cN w = 1 then nI (unS (sR z (11 + cN c))) else if cN w = 2 then nI (niS (sR z (11 + cN c))) else if cN w = 3 then nI (sLo z (cN c)).2.1 else if cN w = 4 then coS (sR z (11 + cN c)) 0 else if cN w = 5 then nI (sLo z (cN c)).2.1 - yoI (sR z (11 + cN c)) else if cN w = 6 then nI (sLo z (cN c)).2.1 - olI (sR z (11 + cN c)) else if cN w = 7 then (sLo z (cN c)).2.2.1 else if cN w = 8 then (sLo z (cN c)).2.2.2.1 else if cN w = 9 then truI (sLo z (cN c)).2.2.2.1 (sLo z (cN c)).2.2.2.2.1 else if (sLo z (cN c)).2.2.2.2.2 = 0 then 0 else 1
def gAge (z : kSt) (c : Int32) : Option String := gLot z c none
def ageF (z : kSt) (i : Nat) : UInt32 := FP.fdiv (FP.i2f (nI (agS (sLo z i).2.1 (sR z (11 + i))))) (FP.i2f (nI (unS (sR z (11 + i)))))
section Ops3
variable {l : Launch} {D : va_G} {σ : kS} {aO cA wA lA aJ : Nat} {cad ra wad lad : Nat → Nat} {R : Nat → kPs} {z : kSt} {J : List kJe} {F : kF}
theorem cI.row (h : cI D aO cA wA lA aJ cad ra wad lad R z J F σ) {i : Nat} (hi : i < 11 + sLn z) : σ (ra i) = some (rowE (nI (unS (sR z i))) (hdA (R i)) (lsA (R i))) := by
  rw [← h.rc i hi]; exact h.r.1 i hi
theorem cI.ch (h : cI D aO cA wA lA aJ cad ra wad lad R z J F σ) {i : Nat} (hi : i < 11 + sLn z) : pCh σ (R i) := h.r.2.1 i hi
theorem sOk.pk (hs : sOk z) {i : Nat} (hi : i < 11 + sLn z) : ∀ q ∈ sR z i, pOk (sNow z) q := by
  intro q hq
  by_cases h : i < 11
  · exact hs.2.2.2.2.1 i h q hq
  · have := hs.2.2.2.1.2 (i - 11) (by omega)
    have e : 11 + (i - 11) = i := by omega
    rw [e] at this
    have h2 := this.2.2.2.2.2.1 q hq
    exact ⟨h2.1, by have := this.2.1; have := h2.2.1; omega, h2.2.2⟩
theorem cI.yr (h : cI D aO cA wA lA aJ cad ra wad lad R z J F σ) (hs : sOk z) {i : Nat} (hi : i < 11 + sLn z) : ∀ q ∈ R i, q.2.2.1 < 2 ^ 31 ∧ q.2.1 < 2 ^ 31 := fun q hq => by
  have h1 := hs.pk hi q.2 (by rw [← h.rc i hi]; exact kCon_mem hq)
  have h2 := h1.1
  have h3 := h1.2.1
  have h4 := hs.1.1
  constructor <;> omega
theorem sOk.lot (hs : sOk z) {i : Nat} (hi : i < sLn z) : niS (sR z (11 + i)) < 2 ^ 31 ∧ 8 * unS (sR z (11 + i)) < 2 ^ 31 := by
  have hlt := hs.2.2.2.1.2 i hi
  have h1 := niS_le hlt.2.2.2.2.2.1
  have h2 := hlt.2.2.2.2.2.2.2
  constructor <;> omega
theorem kindB_nI {i : Nat} (hi : i < 2 ^ 31) {k : Int32} : kindB z (nI i) k = okB k (sFb z) (sLo z i).2.2.1 (sLo z i).2.1 (sR z (11 + i)) := by rw [kindB, cN_nI hi]
set_option maxRecDepth 100000 in
theorem c_X9_best (hl : l.stackTraces = false) (hs : sOk z) (h : cl9 D aO z J F σ) {c9 : Int32} : kMh hX9_best l D yX9_best 8 1 6 [.ref aO, .int c9] σ (fun v s2 => gBest z c9 = none ∧ v = some (.int (rBest z c9)) ∧ s2 = σ) (fun E => gBest z c9 = some E) := by
  refine kM_of (L := [some (.ref aO), some (.int c9), none]) (by decide +kernel) hl (List.forall_mem_cons.mpr ⟨rfl, (List.forall_mem_cons.mpr ⟨rfl, (fun _ h => absurd h List.not_mem_nil)⟩)⟩) (Nat.le_of_ble_eq_true rfl) rfl ?_
  intro p e s m args below meth c B hr hex hnm
  have B : kB p l s m args meth c D (kA σ s.heap.size) 3 cX9_best RX9 := B
  obtain ⟨cA, wA, lA, aJ, cad, ra, wad, lad, R, h⟩ := h
  have hl40 := hs.2.2.2.1.1
  refine k_aload_n B dX9_best_0 rfl (by first | exact kRf_r _ | exact kRf_q _ | exact kRf_n) ?_
  refine k_iload_n B dX9_best_1 rfl ?_
  refine cl_X9_198 B (c_X9_lotAt hl h hl40) h.o dX9_best_2 (by first | exact Nat.le_of_ble_eq_true rfl | omega | (simp only [kR, Value.category, kCat_q, List.map, List.sum_cons, List.sum_nil]; omega)) (by first | exact Nat.le_of_ble_eq_true rfl | omega | (simp only [kR, Value.category, kCat_q, List.map, List.sum_cons, List.sum_nil]; omega)) (by first | exact Nat.le_of_ble_eq_true rfl | omega | (simp only [kR, Value.category, kCat_q, List.map, List.sum_cons, List.sum_nil]; omega)) (by first | exact Nat.le_of_ble_eq_true rfl | omega | (simp only [kR, Value.category, kCat_q, List.map, List.sum_cons, List.sum_nil]; omega)) (by first | exact Nat.le_of_ble_eq_true rfl | omega | (simp only [kR, Value.category, kCat_q, List.map, List.sum_cons, List.sum_nil]; omega)) (fun E hE => k_xout B hex (fun _ _ h => h) (gIx_n hE) (by decide) (by decide)) (fun v2 s2 hp2 => ?_)
  obtain ⟨e2, i, hi, e3, rfl⟩ := hp2
  rw [e2]
  subst e3
  have g1 : 0 ≤ nI i ∧ nI i < nI (sLn z) := ⟨nI_pos' (by omega), nI_lt hi (by omega)⟩
  have ha := h.lo.1 i hi
  have hρ := h.row (i := 11 + i) (by omega)
  have hch := h.ch (i := 11 + i) (by omega)
  have hcon : kCon (R (11 + i)) = sR z (11 + i) := h.rc (11 + i) (by omega)
  have hyr := h.yr hs (i := 11 + i) (by omega)
  have hl2 := hs.lot hi
  refine k_astore_n B dX9_best_5 (by decide) (by first | exact kRf_r _ | exact kRf_q _ | exact kRf_n) ?_
  try refine kK.set1 (by first | exact True.intro | rfl | exact kCat_q _) ?_
  refine k_aload_n B dX9_best_6 rfl (by first | exact kRf_r _ | exact kRf_q _ | exact kRf_n) ?_
  refine k_iconst B (v := 0) dX9_best_7 (by decide) ?_
  refine k_aload_n B dX9_best_8 rfl (by first | exact kRf_r _ | exact kRf_q _ | exact kRf_n) ?_
  refine gf_X9_208 B dX9_best_9 h.o rfl ?_
  refine cl_X9_211 B (c_X2_isOfKind hl (Or.inl rfl) ha hρ hch (by rw [hcon]) (by rw [hcon]; exact hl2.1) hl2.2 (fun q hq => (hyr q hq).1)) ha dX9_best_12 (by first | exact Nat.le_of_ble_eq_true rfl | omega | (simp only [kR, Value.category, kCat_q, List.map, List.sum_cons, List.sum_nil]; omega)) (by first | exact Nat.le_of_ble_eq_true rfl | omega | (simp only [kR, Value.category, kCat_q, List.map, List.sum_cons, List.sum_nil]; omega)) (by first | exact Nat.le_of_ble_eq_true rfl | omega | (simp only [kR, Value.category, kCat_q, List.map, List.sum_cons, List.sum_nil]; omega)) (by first | exact Nat.le_of_ble_eq_true rfl | omega | (simp only [kR, Value.category, kCat_q, List.map, List.sum_cons, List.sum_nil]; omega)) (by first | exact Nat.le_of_ble_eq_true rfl | omega | (simp only [kR, Value.category, kCat_q, List.map, List.sum_cons, List.sum_nil]; omega)) (fun _ hx => hx.elim) (fun v12 s12 hp12 => ?_)
  obtain ⟨rfl, e12⟩ := hp12
  rw [e12]
  refine kK.rev (y := .int (bI (kindB z (nI i) 0))) (by rw [kindB_nI (by omega), ← hcon]) ?_
  refine k_if_eq B 20 dX9_best_15 (by decide) (fun c15 => ?_) (fun c15 => ?_)
  · rename_i c15
    have hn : ¬ kindB z (nI i) 0 = true := fun q => by rw [q] at c15; exact absurd c15 (by decide)
    refine k_aload_n B dX9_best_20 rfl (by first | exact kRf_r _ | exact kRf_q _ | exact kRf_n) ?_
    refine k_iconst B (v := 1) dX9_best_21 (by decide) ?_
    refine k_aload_n B dX9_best_22 rfl (by first | exact kRf_r _ | exact kRf_q _ | exact kRf_n) ?_
    refine gf_X9_208 B dX9_best_23 h.o rfl ?_
    refine cl_X9_211 B (c_X2_isOfKind hl (Or.inr (Or.inl rfl)) ha hρ hch (by rw [hcon]) (by rw [hcon]; exact hl2.1) hl2.2 (fun q hq => (hyr q hq).1)) ha dX9_best_26 (by first | exact Nat.le_of_ble_eq_true rfl | omega | (simp only [kR, Value.category, kCat_q, List.map, List.sum_cons, List.sum_nil]; omega)) (by first | exact Nat.le_of_ble_eq_true rfl | omega | (simp only [kR, Value.category, kCat_q, List.map, List.sum_cons, List.sum_nil]; omega)) (by first | exact Nat.le_of_ble_eq_true rfl | omega | (simp only [kR, Value.category, kCat_q, List.map, List.sum_cons, List.sum_nil]; omega)) (by first | exact Nat.le_of_ble_eq_true rfl | omega | (simp only [kR, Value.category, kCat_q, List.map, List.sum_cons, List.sum_nil]; omega)) (by first | exact Nat.le_of_ble_eq_true rfl | omega | (simp only [kR, Value.category, kCat_q, List.map, List.sum_cons, List.sum_nil]; omega)) (fun _ hx => hx.elim) (fun v26 s26 hp26 => ?_)
    obtain ⟨rfl, e26⟩ := hp26
    rw [e26]
    refine kK.rev (y := .int (bI (kindB z (nI i) 1))) (by rw [kindB_nI (by omega), ← hcon]) ?_
    refine k_if_eq B 36 dX9_best_29 (by decide) (fun c29 => ?_) (fun c29 => ?_)
    · rename_i c29
      have hn2 : ¬ kindB z (nI i) 1 = true := fun q => by rw [q] at c29; exact absurd c29 (by decide)
      refine k_iconst B (v := 2) dX9_best_36 (by decide) ?_
      refine k_iret B hr dX9_best_37 ?_ (by first | exact Nat.le_of_ble_eq_true rfl | omega | (simp only [kR, Value.category, kCat_q, List.map, List.sum_cons, List.sum_nil]; omega)) (by first | exact Nat.le_of_ble_eq_true rfl | omega | (simp only [kR, Value.category, kCat_q, List.map, List.sum_cons, List.sum_nil]; omega))
      exact ⟨gIx_p g1, by rw [rBest, if_neg hn, if_neg hn2], rfl⟩
    · rename_i c29
      have hn2 : kindB z (nI i) 1 = true := by
        by_cases q : kindB z (nI i) 1 = true
        · exact q
        · exact absurd (by rw [bI, if_neg q]) c29
      refine k_iconst B (v := 1) dX9_best_32 (by decide) ?_
      refine k_goto B 37 dX9_best_33 (by decide) ?_
      refine k_iret B hr dX9_best_37 ?_ (by first | exact Nat.le_of_ble_eq_true rfl | omega | (simp only [kR, Value.category, kCat_q, List.map, List.sum_cons, List.sum_nil]; omega)) (by first | exact Nat.le_of_ble_eq_true rfl | omega | (simp only [kR, Value.category, kCat_q, List.map, List.sum_cons, List.sum_nil]; omega))
      exact ⟨gIx_p g1, by rw [rBest, if_neg hn, if_pos hn2], rfl⟩
  · rename_i c15
    have hn : kindB z (nI i) 0 = true := by
      by_cases q : kindB z (nI i) 0 = true
      · exact q
      · exact absurd (by rw [bI, if_neg q]) c15
    refine k_iconst B (v := 0) dX9_best_18 (by decide) ?_
    refine k_iret B hr dX9_best_19 ?_ (by first | exact Nat.le_of_ble_eq_true rfl | omega | (simp only [kR, Value.category, kCat_q, List.map, List.sum_cons, List.sum_nil]; omega)) (by first | exact Nat.le_of_ble_eq_true rfl | omega | (simp only [kR, Value.category, kCat_q, List.map, List.sum_cons, List.sum_nil]; omega))
    exact ⟨gIx_p g1, by rw [rBest, if_pos hn], rfl⟩
set_option maxRecDepth 100000 in
theorem c_X9_from (hl : l.stackTraces = false) (hs : sOk z) (h : cl9 D aO z J F σ) {c9 x y : Int32} : kMh hX9_from l D yX9_from 8 2 12 [.ref aO, .int c9, .int x, .int y] σ (fun v s2 => gFrom z c9 x = none ∧ v = some (.int (rFrom z c9 x y)) ∧ s2 = σ) (fun E => gFrom z c9 x = some E) := by
  refine kM_of (L := [some (.ref aO), some (.int c9), some (.int x), some (.int y), none]) (by decide +kernel) hl (List.forall_mem_cons.mpr ⟨rfl, (List.forall_mem_cons.mpr ⟨rfl, (List.forall_mem_cons.mpr ⟨rfl, (List.forall_mem_cons.mpr ⟨rfl, (fun _ h => absurd h List.not_mem_nil)⟩)⟩)⟩)⟩) (Nat.le_of_ble_eq_true rfl) rfl ?_
  intro p e s m args below meth c B hr hex hnm
  have B : kB p l s m args meth c D (kA σ s.heap.size) 5 cX9_from RX9 := B
  obtain ⟨cA, wA, lA, aJ, cad, ra, wad, lad, R, h⟩ := h
  have hl40 := hs.2.2.2.1.1
  refine k_aload_n B dX9_from_0 rfl (by first | exact kRf_r _ | exact kRf_q _ | exact kRf_n) ?_
  refine k_iload_n B dX9_from_1 rfl ?_
  refine cl_X9_198 B (c_X9_lotAt hl h hl40) h.o dX9_from_2 (by first | exact Nat.le_of_ble_eq_true rfl | omega | (simp only [kR, Value.category, kCat_q, List.map, List.sum_cons, List.sum_nil]; omega)) (by first | exact Nat.le_of_ble_eq_true rfl | omega | (simp only [kR, Value.category, kCat_q, List.map, List.sum_cons, List.sum_nil]; omega)) (by first | exact Nat.le_of_ble_eq_true rfl | omega | (simp only [kR, Value.category, kCat_q, List.map, List.sum_cons, List.sum_nil]; omega)) (by first | exact Nat.le_of_ble_eq_true rfl | omega | (simp only [kR, Value.category, kCat_q, List.map, List.sum_cons, List.sum_nil]; omega)) (by first | exact Nat.le_of_ble_eq_true rfl | omega | (simp only [kR, Value.category, kCat_q, List.map, List.sum_cons, List.sum_nil]; omega)) (fun E hE => k_xout B hex (fun _ _ h => h) (gIx_n hE) (by decide) (by decide)) (fun v2 s2 hp2 => ?_)
  obtain ⟨e2, i, hi, e3, rfl⟩ := hp2
  rw [e2]
  subst e3
  have g1 : 0 ≤ nI i ∧ nI i < nI (sLn z) := ⟨nI_pos' (by omega), nI_lt hi (by omega)⟩
  have ha := h.lo.1 i hi
  have hρ := h.row (i := 11 + i) (by omega)
  have hch := h.ch (i := 11 + i) (by omega)
  have hcon : kCon (R (11 + i)) = sR z (11 + i) := h.rc (11 + i) (by omega)
  have hyr := h.yr hs (i := 11 + i) (by omega)
  refine k_astore B dX9_from_5 (by decide) (by first | exact kRf_r _ | exact kRf_q _ | exact kRf_n) ?_
  try refine kK.set1 (by first | exact True.intro | rfl | exact kCat_q _) ?_
  refine k_iload_n B dX9_from_7 rfl ?_
  refine k_bipush B (v := 10) dX9_from_8 (by decide) ?_
  refine cl_X9_83 B (c_X9_needIndex hl) dX9_from_10 (by first | exact Nat.le_of_ble_eq_true rfl | omega | (simp only [kR, Value.category, kCat_q, List.map, List.sum_cons, List.sum_nil]; omega)) (by first | exact Nat.le_of_ble_eq_true rfl | omega | (simp only [kR, Value.category, kCat_q, List.map, List.sum_cons, List.sum_nil]; omega)) (by first | exact Nat.le_of_ble_eq_true rfl | omega | (simp only [kR, Value.category, kCat_q, List.map, List.sum_cons, List.sum_nil]; omega)) (by first | exact Nat.le_of_ble_eq_true rfl | omega | (simp only [kR, Value.category, kCat_q, List.map, List.sum_cons, List.sum_nil]; omega)) (by first | exact Nat.le_of_ble_eq_true rfl | omega | (simp only [kR, Value.category, kCat_q, List.map, List.sum_cons, List.sum_nil]; omega)) (fun E hE => k_xout B hex (fun _ _ h => h) ((gIx_p g1).trans (gIx_n hE)) (by decide) (by decide)) (fun v10 s10 hp10 => ?_)
  obtain ⟨rfl, e10, g2⟩ := hp10
  rw [e10]
  refine k_aload B dX9_from_13 rfl (by first | exact kRf_r _ | exact kRf_q _ | exact kRf_n) ?_
  refine gf_X9_241 B dX9_from_15 ha rfl ?_
  refine k_iload_n B dX9_from_18 rfl ?_
  refine k_iload_n B dX9_from_19 rfl ?_
  refine cl_X9_260 B (c_X6_unitsThatFell hl hρ hch) hρ dX9_from_20 (by first | exact Nat.le_of_ble_eq_true rfl | omega | (simp only [kR, Value.category, kCat_q, List.map, List.sum_cons, List.sum_nil]; omega)) (by first | exact Nat.le_of_ble_eq_true rfl | omega | (simp only [kR, Value.category, kCat_q, List.map, List.sum_cons, List.sum_nil]; omega)) (by first | exact Nat.le_of_ble_eq_true rfl | omega | (simp only [kR, Value.category, kCat_q, List.map, List.sum_cons, List.sum_nil]; omega)) (by first | exact Nat.le_of_ble_eq_true rfl | omega | (simp only [kR, Value.category, kCat_q, List.map, List.sum_cons, List.sum_nil]; omega)) (by first | exact Nat.le_of_ble_eq_true rfl | omega | (simp only [kR, Value.category, kCat_q, List.map, List.sum_cons, List.sum_nil]; omega)) (fun _ hx => hx.elim) (fun v20 s20 hp20 => ?_)
  obtain ⟨rfl, e20⟩ := hp20
  rw [e20]
  refine kK.rev (y := .int (nI (frS x y (kCon (R (11 + i)))))) rfl ?_
  refine k_iret B hr dX9_from_23 ?_ (by first | exact Nat.le_of_ble_eq_true rfl | omega | (simp only [kR, Value.category, kCat_q, List.map, List.sum_cons, List.sum_nil]; omega)) (by first | exact Nat.le_of_ble_eq_true rfl | omega | (simp only [kR, Value.category, kCat_q, List.map, List.sum_cons, List.sum_nil]; omega))
  exact ⟨(gIx_p g1).trans (gIx_p g2), by rw [rFrom, cN_nI (by omega), hcon], rfl⟩
set_option maxRecDepth 100000 in
theorem c_X9_whence (hl : l.stackTraces = false) (hs : sOk z) (h : cl9 D aO z J F σ) {c9 x : Int32} : kMh hX9_whence l D yX9_whence 8 2 12 [.ref aO, .int c9, .int x] σ (fun v s2 => gWhence z c9 x = none ∧ v = some (.int (rWhence z c9 x)) ∧ s2 = σ) (fun E => gWhence z c9 x = some E) := by
  refine kM_of (L := [some (.ref aO), some (.int c9), some (.int x), none, none]) (by decide +kernel) hl (List.forall_mem_cons.mpr ⟨rfl, (List.forall_mem_cons.mpr ⟨rfl, (List.forall_mem_cons.mpr ⟨rfl, (fun _ h => absurd h List.not_mem_nil)⟩)⟩)⟩) (Nat.le_of_ble_eq_true rfl) rfl ?_
  intro p e s m args below meth c B hr hex hnm
  have B : kB p l s m args meth c D (kA σ s.heap.size) 5 cX9_whence RX9 := B
  obtain ⟨cA, wA, lA, aJ, cad, ra, wad, lad, R, h⟩ := h
  have hl40 := hs.2.2.2.1.1
  refine k_aload_n B dX9_whence_0 rfl (by first | exact kRf_r _ | exact kRf_q _ | exact kRf_n) ?_
  refine k_iload_n B dX9_whence_1 rfl ?_
  refine cl_X9_198 B (c_X9_lotAt hl h hl40) h.o dX9_whence_2 (by first | exact Nat.le_of_ble_eq_true rfl | omega | (simp only [kR, Value.category, kCat_q, List.map, List.sum_cons, List.sum_nil]; omega)) (by first | exact Nat.le_of_ble_eq_true rfl | omega | (simp only [kR, Value.category, kCat_q, List.map, List.sum_cons, List.sum_nil]; omega)) (by first | exact Nat.le_of_ble_eq_true rfl | omega | (simp only [kR, Value.category, kCat_q, List.map, List.sum_cons, List.sum_nil]; omega)) (by first | exact Nat.le_of_ble_eq_true rfl | omega | (simp only [kR, Value.category, kCat_q, List.map, List.sum_cons, List.sum_nil]; omega)) (by first | exact Nat.le_of_ble_eq_true rfl | omega | (simp only [kR, Value.category, kCat_q, List.map, List.sum_cons, List.sum_nil]; omega)) (fun E hE => k_xout B hex (fun _ _ h => h) (gIx_n hE) (by decide) (by decide)) (fun v2 s2 hp2 => ?_)
  obtain ⟨e2, i, hi, e3, rfl⟩ := hp2
  rw [e2]
  subst e3
  have g1 : 0 ≤ nI i ∧ nI i < nI (sLn z) := ⟨nI_pos' (by omega), nI_lt hi (by omega)⟩
  have ha := h.lo.1 i hi
  have hρ := h.row (i := 11 + i) (by omega)
  have hch := h.ch (i := 11 + i) (by omega)
  have hcon : kCon (R (11 + i)) = sR z (11 + i) := h.rc (11 + i) (by omega)
  have hyr := h.yr hs (i := 11 + i) (by omega)
  refine k_astore_n B dX9_whence_5 (by decide) (by first | exact kRf_r _ | exact kRf_q _ | exact kRf_n) ?_
  try refine kK.set1 (by first | exact True.intro | rfl | exact kCat_q _) ?_
  refine k_iload_n B dX9_whence_6 rfl ?_
  refine k_bipush B (v := 8) dX9_whence_7 (by decide) ?_
  refine cl_X9_83 B (c_X9_needIndex hl) dX9_whence_9 (by first | exact Nat.le_of_ble_eq_true rfl | omega | (simp only [kR, Value.category, kCat_q, List.map, List.sum_cons, List.sum_nil]; omega)) (by first | exact Nat.le_of_ble_eq_true rfl | omega | (simp only [kR, Value.category, kCat_q, List.map, List.sum_cons, List.sum_nil]; omega)) (by first | exact Nat.le_of_ble_eq_true rfl | omega | (simp only [kR, Value.category, kCat_q, List.map, List.sum_cons, List.sum_nil]; omega)) (by first | exact Nat.le_of_ble_eq_true rfl | omega | (simp only [kR, Value.category, kCat_q, List.map, List.sum_cons, List.sum_nil]; omega)) (by first | exact Nat.le_of_ble_eq_true rfl | omega | (simp only [kR, Value.category, kCat_q, List.map, List.sum_cons, List.sum_nil]; omega)) (fun E hE => k_xout B hex (fun _ _ h => h) ((gIx_p g1).trans (gIx_n hE)) (by decide) (by decide)) (fun v9 s9 hp9 => ?_)
  obtain ⟨rfl, e9, g2⟩ := hp9
  rw [e9]
  have hval : ∀ f, eaS (bitI x) (R (11 + i)) none = f → rWhence z (nI i) x = whI (f.map (·.2)) := fun f hf => by rw [rWhence, cN_nI (by omega), ← hcon, ← hf, eaS_con]; rfl
  refine k_aload_n B dX9_whence_12 rfl (by first | exact kRf_r _ | exact kRf_q _ | exact kRf_n) ?_
  refine gf_X9_241 B dX9_whence_13 ha rfl ?_
  refine k_iconst B (v := 1) dX9_whence_16 (by decide) ?_
  refine k_iload_n B dX9_whence_17 rfl ?_
  refine k_ishl B dX9_whence_18 ?_
  refine cl_X9_267 B (c_X6_earliestWith hl hρ hch hyr) hρ dX9_whence_19 (by first | exact Nat.le_of_ble_eq_true rfl | omega | (simp only [kR, Value.category, kCat_q, List.map, List.sum_cons, List.sum_nil]; omega)) (by first | exact Nat.le_of_ble_eq_true rfl | omega | (simp only [kR, Value.category, kCat_q, List.map, List.sum_cons, List.sum_nil]; omega)) (by first | exact Nat.le_of_ble_eq_true rfl | omega | (simp only [kR, Value.category, kCat_q, List.map, List.sum_cons, List.sum_nil]; omega)) (by first | exact Nat.le_of_ble_eq_true rfl | omega | (simp only [kR, Value.category, kCat_q, List.map, List.sum_cons, List.sum_nil]; omega)) (by first | exact Nat.le_of_ble_eq_true rfl | omega | (simp only [kR, Value.category, kCat_q, List.map, List.sum_cons, List.sum_nil]; omega)) (fun _ hx => hx.elim) (fun v19 s19 hp19 => ?_)
  obtain ⟨rfl, e19⟩ := hp19
  rw [e19]
  generalize hf : eaS (1 <<< (x &&& 31)) (R (11 + i)) none = f
  have hv := hval f hf
  cases f with
  | none =>
    refine kK.rev (y := .null) rfl ?_
    refine k_astore B dX9_whence_22 (by decide) (by first | exact kRf_r _ | exact kRf_q _ | exact kRf_n) ?_
    try refine kK.set1 (by first | exact True.intro | rfl | exact kCat_q _) ?_
    refine k_aload B dX9_whence_24 rfl (by first | exact kRf_r _ | exact kRf_q _ | exact kRf_n) ?_
    refine k_ifnonnullN B 33 dX9_whence_26 (by decide) ?_
    refine k_iconst B (v := (-1)) dX9_whence_29 (by decide) ?_
    refine k_goto B 48 dX9_whence_30 (by decide) ?_
    refine k_iret B hr dX9_whence_48 ?_ (by first | exact Nat.le_of_ble_eq_true rfl | omega | (simp only [kR, Value.category, kCat_q, List.map, List.sum_cons, List.sum_nil]; omega)) (by first | exact Nat.le_of_ble_eq_true rfl | omega | (simp only [kR, Value.category, kCat_q, List.map, List.sum_cons, List.sum_nil]; omega))
    exact ⟨(gIx_p g1).trans (gIx_p g2), by rw [hv]; rfl, rfl⟩
  | some q =>
    obtain ⟨a, q⟩ := q
    obtain ⟨nx, hq⟩ := pCh_mem hch ((eaS_mem hf).elim id (fun h => by cases h))
    refine kK.rev (y := .ref a) rfl ?_
    refine k_astore B dX9_whence_22 (by decide) (by first | exact kRf_r _ | exact kRf_q _ | exact kRf_n) ?_
    try refine kK.set1 (by first | exact True.intro | rfl | exact kCat_q _) ?_
    refine k_aload B dX9_whence_24 rfl (by first | exact kRf_r _ | exact kRf_q _ | exact kRf_n) ?_
    refine k_ifnonnullR B 33 dX9_whence_26 (by decide) ?_
    refine k_sipush B (v := 1000) dX9_whence_33 (by decide) ?_
    refine k_aload B dX9_whence_36 rfl (by first | exact kRf_r _ | exact kRf_q _ | exact kRf_n) ?_
    refine gf_X9_270 B dX9_whence_38 hq rfl ?_
    refine k_imul B dX9_whence_41 ?_
    refine k_aload B dX9_whence_42 rfl (by first | exact kRf_r _ | exact kRf_q _ | exact kRf_n) ?_
    refine gf_X9_274 B dX9_whence_44 hq rfl ?_
    refine k_iadd B dX9_whence_47 ?_
    refine k_iret B hr dX9_whence_48 ?_ (by first | exact Nat.le_of_ble_eq_true rfl | omega | (simp only [kR, Value.category, kCat_q, List.map, List.sum_cons, List.sum_nil]; omega)) (by first | exact Nat.le_of_ble_eq_true rfl | omega | (simp only [kR, Value.category, kCat_q, List.map, List.sum_cons, List.sum_nil]; omega))
    exact ⟨(gIx_p g1).trans (gIx_p g2), by rw [hv]; rfl, rfl⟩
set_option maxRecDepth 100000 in
theorem c_X9_age (hl : l.stackTraces = false) (hs : sOk z) (h : cl9 D aO z J F σ) {c9 : Int32} (hnn : ∀ i, i < sLn z → vf_n32 (ageF z i)) : kMh hX9_age l D yX9_age 8 1 6 [.ref aO, .int c9] σ (fun v s2 => gAge z c9 = none ∧ v = some (.float (ageF z (cN c9))) ∧ s2 = σ) (fun E => gAge z c9 = some E) := by
  refine kM_of (L := [some (.ref aO), some (.int c9)]) (by decide +kernel) hl (List.forall_mem_cons.mpr ⟨rfl, (List.forall_mem_cons.mpr ⟨rfl, (fun _ h => absurd h List.not_mem_nil)⟩)⟩) (Nat.le_of_ble_eq_true rfl) rfl ?_
  intro p e s m args below meth c B hr hex hnm
  have B : kB p l s m args meth c D (kA σ s.heap.size) 2 cX9_age RX9 := B
  obtain ⟨cA, wA, lA, aJ, cad, ra, wad, lad, R, h⟩ := h
  have hl40 := hs.2.2.2.1.1
  refine k_aload_n B dX9_age_0 rfl (by first | exact kRf_r _ | exact kRf_q _ | exact kRf_n) ?_
  refine k_iload_n B dX9_age_1 rfl ?_
  refine cl_X9_198 B (c_X9_lotAt hl h hl40) h.o dX9_age_2 (by first | exact Nat.le_of_ble_eq_true rfl | omega | (simp only [kR, Value.category, kCat_q, List.map, List.sum_cons, List.sum_nil]; omega)) (by first | exact Nat.le_of_ble_eq_true rfl | omega | (simp only [kR, Value.category, kCat_q, List.map, List.sum_cons, List.sum_nil]; omega)) (by first | exact Nat.le_of_ble_eq_true rfl | omega | (simp only [kR, Value.category, kCat_q, List.map, List.sum_cons, List.sum_nil]; omega)) (by first | exact Nat.le_of_ble_eq_true rfl | omega | (simp only [kR, Value.category, kCat_q, List.map, List.sum_cons, List.sum_nil]; omega)) (by first | exact Nat.le_of_ble_eq_true rfl | omega | (simp only [kR, Value.category, kCat_q, List.map, List.sum_cons, List.sum_nil]; omega)) (fun E hE => k_xout B hex (fun _ _ h => h) (gIx_n hE) (by decide) (by decide)) (fun v2 s2 hp2 => ?_)
  obtain ⟨e2, i, hi, e3, rfl⟩ := hp2
  rw [e2]
  subst e3
  have g1 : 0 ≤ nI i ∧ nI i < nI (sLn z) := ⟨nI_pos' (by omega), nI_lt hi (by omega)⟩
  have ha := h.lo.1 i hi
  have hρ := h.row (i := 11 + i) (by omega)
  have hch := h.ch (i := 11 + i) (by omega)
  have hcon : kCon (R (11 + i)) = sR z (11 + i) := h.rc (11 + i) (by omega)
  have hyr := h.yr hs (i := 11 + i) (by omega)
  have hlt := hs.2.2.2.1.2 i hi
  refine cl_X9_256 B (c_X2_meanAge hl ha hρ hch hlt.2.2.2.2.2.2.1 (by have := hlt.2.2.2.2.2.2.2; omega) (fun q hq => Nat.le_of_lt (hlt.2.2.2.2.2.1 q.2 (by rw [← hcon]; exact kCon_mem hq)).2.1) (by rw [hcon]; exact hnn i hi)) ha dX9_age_5 (by first | exact Nat.le_of_ble_eq_true rfl | omega | (simp only [kR, Value.category, kCat_q, List.map, List.sum_cons, List.sum_nil]; omega)) (by first | exact Nat.le_of_ble_eq_true rfl | omega | (simp only [kR, Value.category, kCat_q, List.map, List.sum_cons, List.sum_nil]; omega)) (by first | exact Nat.le_of_ble_eq_true rfl | omega | (simp only [kR, Value.category, kCat_q, List.map, List.sum_cons, List.sum_nil]; omega)) (by first | exact Nat.le_of_ble_eq_true rfl | omega | (simp only [kR, Value.category, kCat_q, List.map, List.sum_cons, List.sum_nil]; omega)) (by first | exact Nat.le_of_ble_eq_true rfl | omega | (simp only [kR, Value.category, kCat_q, List.map, List.sum_cons, List.sum_nil]; omega)) (fun _ hx => hx.elim) (fun v5 s5 hp5 => ?_)
  obtain ⟨rfl, e5⟩ := hp5
  rw [e5]
  refine kK.rev (y := .float (ageF z i)) (by rw [hcon]; rfl) ?_
  refine k_fret B hr dX9_age_8 ?_ (by first | exact Nat.le_of_ble_eq_true rfl | omega | (simp only [kR, Value.category, kCat_q, List.map, List.sum_cons, List.sum_nil]; omega)) (by first | exact Nat.le_of_ble_eq_true rfl | omega | (simp only [kR, Value.category, kCat_q, List.map, List.sum_cons, List.sum_nil]; omega))
  exact ⟨gIx_p g1, by rw [cN_nI (by omega)], rfl⟩
end Ops3
