def clOk (i : Nat) (k : kCl) : Prop := (∀ d, k.1 = some d → d < i) ∧ 1 ≤ k.2.1 ∧ k.2.1 ≤ 40 ∧ k.2.2.1 ≤ 2 ∧ k.2.2.2.1 ≤ 30 ∧ k.2.2.2.2.1 ≤ 1000
def suN (f : Nat → Nat) : Nat → Nat
  | 0 => 0
  | n + 1 => suN f n + f n
def pOk (y : Nat) (q : kP) : Prop := q.1 < 10 ∧ q.2.1 < y ∧ q.2.2.1 ≤ 10 ∧ 1 ≤ q.2.2.2.2
def wlOk (w : kWl) : Prop := w.1 < 10 ∧ w.2.1 ≤ 10000 ∧ w.2.2 ≤ w.2.1
def ltOk (y : Nat) (t : kLo) (P : List kP) : Prop := t.1 < 6 ∧ t.2.1 ≤ y ∧ (t.2.2.2.1 = -1 ∨ t.2.2.2.1 = 0 ∨ t.2.2.2.1 = 1 ∨ t.2.2.2.1 = 2) ∧ (t.2.2.2.2.1 = 0 ∨ t.2.2.2.2.1 = 1) ∧ (t.2.2.2.2.2 = 0 ∨ t.2.2.2.2.2 = 1) ∧ (∀ q ∈ P, pOk t.2.1 q) ∧ 1 ≤ unS P ∧ unS P ≤ 1000
/-- the bounds of a state -/
def sOk (z : kSt) : Prop := (sNow z ≤ 300 ∧ sCen z ≤ 100 ∧ sDr z < 10 ∧ sL1 z ≤ 100000 ∧ sL2 z ≤ 100000) ∧ (∀ i, i < 10 → clOk i (sK z i)) ∧ (sWn z ≤ 6 ∧ ∀ i, i < sWn z → wlOk (sW z i)) ∧ (sLn z ≤ 40 ∧ ∀ i, i < sLn z → ltOk (sNow z) (sLo z i) (sR z (11 + i))) ∧ (∀ i, i < 11 → ∀ q ∈ sR z i, pOk (sNow z) q) ∧ suN (fun i => unS (sR z i)) 10 ≤ 10000 * sNow z ∧ unS (sR z 10) ≤ 10000 * sNow z
theorem suN_le {f : Nat → Nat} {i n : Nat} (h : i < n) : f i ≤ suN f n := by
  induction n with
  | zero => omega
  | succ n ih =>
    simp only [suN]
    by_cases q : i = n
    · subst q; omega
    · have := ih (by omega); omega
theorem sOk.un {z : kSt} (h : sOk z) {i : Nat} (hi : i < 11 + sLn z) : unS (sR z i) ≤ 3000000 := by
  obtain ⟨h1, -, -, h4, -, h6, h7⟩ := h
  by_cases q : i < 10
  · have : unS (sR z i) ≤ suN (fun i => unS (sR z i)) 10 := suN_le (f := fun i => unS (sR z i)) q
    omega
  · by_cases q2 : i = 10
    · subst q2; omega
    · have := (h4.2 (i - 11) (by omega)).2.2.2.2.2.2.2
      rw [show 11 + (i - 11) = i by omega] at this
      omega
def gCell (c : Int32) (g : Option String) : Option String := if 0 ≤ c ∧ c < 10 then g else some eI
def gRg (x lo hi : Int32) (g : Option String) : Option String := if lo ≤ x ∧ x ≤ hi then g else some eA
def gIx (x n : Int32) (g : Option String) : Option String := if 0 ≤ x ∧ x < n then g else some eI
def gSt (b : Bool) : Option String := if b = true then none else some eS
theorem gCell_p {c : Int32} {g : Option String} (h : 0 ≤ c ∧ c < 10) : gCell c g = g := if_pos h
theorem gCell_n {c : Int32} {g : Option String} {E : String} (hE : E = eI ∧ ¬ (0 ≤ c ∧ c < 10)) : gCell c g = some E := by rw [hE.1]; exact if_neg hE.2
theorem gRg_p {x lo hi : Int32} {g : Option String} (h : inR x lo hi) : gRg x lo hi g = g := if_pos h
theorem gRg_n {x lo hi : Int32} {g : Option String} {E : String} (hE : E = eA ∧ ¬ inR x lo hi) : gRg x lo hi g = some E := by rw [hE.1]; exact if_neg hE.2
theorem gIx_p {x n : Int32} {g : Option String} (h : 0 ≤ x ∧ x < n) : gIx x n g = g := if_pos h
theorem gIx_n {x n : Int32} {g : Option String} {E : String} (hE : E = eI ∧ ¬ (0 ≤ x ∧ x < n)) : gIx x n g = some E := by rw [hE.1]; exact if_neg hE.2
theorem gSt_t {b : Bool} (h : b = true) : gSt b = none := if_pos h
theorem gSt_f {b : Bool} (h : b = false) {E : String} (hE : E = eS) : gSt b = some E := by rw [hE, gSt, h]; rfl
theorem nI_10 {i : Nat} (hi : i < 10) : 0 ≤ nI i ∧ nI i < 10 := ⟨nI_pos' (by omega), nI_lt hi (by decide)⟩
theorem inR_of {x lo hi : Int32} {a n : Nat} (hlo : lo = nI a) (hhi : hi = nI n) (ha : a ≤ n) (hn : n < 2 ^ 31) (h : inR x lo hi) : ∃ j, a ≤ j ∧ j ≤ n ∧ x = nI j := by
  subst hlo; subst hhi
  have h0 : 0 ≤ x := Int32.le_trans (nI_pos' (n := a) (by omega)) h.1
  obtain ⟨j, hj, e⟩ := ix_of2 hn ⟨h0, h.2⟩
  subst e
  exact ⟨j, (nI_leI (by omega) (by omega)).mp h.1, hj, rfl⟩
def gRock (c y : Int32) : Option String := gCell c (gRg y 1 40 none)
def rRock (z : kSt) (c : Int32) : Int32 := nI (sK z (cN c)).2.1
def nRock (z : kSt) (c y : Int32) : kSt := (z.1, upN (sK z) (cN c) ((sK z (cN c)).1, cN y, (sK z (cN c)).2.2), z.2.2)
def gLand (z : kSt) (c y : Int32) : Option String := gCell c (gRg y 0 2 (gSt (decide ((sK z (cN c)).2.2.2.1 = 0))))
def rLand (z : kSt) (c : Int32) : Int32 := nI (sK z (cN c)).2.2.1
def nLand (z : kSt) (c y : Int32) : kSt := (z.1, upN (sK z) (cN c) ((sK z (cN c)).1, (sK z (cN c)).2.1, cN y, (sK z (cN c)).2.2.2), z.2.2)
def bitI (q : Int32) : Int32 := 1 <<< (q &&& 31)
def gArg (b : Bool) : Option String := if b = true then none else some eA
theorem gArg_t {b : Bool} (h : b = true) : gArg b = none := if_pos h
theorem gArg_f {b : Bool} (h : b = false) {E : String} (hE : E = eA) : gArg b = some E := by rw [hE, gArg, h]; rfl
def gLead (c t : Int32) : Option String := gCell c (if t = -1 then gArg (decide (t < c)) else gCell t (gArg (decide (t < c))))
def rLead (z : kSt) (c : Int32) : Int32 := ldI (sK z (cN c)).1
def nLead (z : kSt) (c t : Int32) : kSt := (z.1, upN (sK z) (cN c) (if t = -1 then none else some (cN t), (sK z (cN c)).2), z.2.2)
def trvI (z : kSt) (c : Int32) : Int32 := nI (trvF (sK z) (cN c + 1) (cN c))
def gSpill (z : kSt) (c q : Int32) : Option String := gCell c (gIx q 8 (gSt (decide (¬ trvI z c ≤ 5))))
def rSpill (z : kSt) (c q : Int32) : Int32 := (sK z (cN c)).2.2.2.2.2 ||| bitI q
def nSpill (z : kSt) (c q : Int32) : kSt := (z.1, upN (sK z) (cN c) ((sK z (cN c)).1, (sK z (cN c)).2.1, (sK z (cN c)).2.2.1, (sK z (cN c)).2.2.2.1, (sK z (cN c)).2.2.2.2.1, rSpill z c q), z.2.2)
def gContract (z : kSt) (c y p : Int32) : Option String := gCell c (gRg y 1 30 (gRg p 0 1000 (gSt (decide ((sK z (cN c)).2.2.1 = 2) && decide ((sK z (cN c)).2.2.2.1 = 0)))))
def nContract (z : kSt) (c y p : Int32) : kSt := (z.1, upN (sK z) (cN c) ((sK z (cN c)).1, (sK z (cN c)).2.1, (sK z (cN c)).2.2.1, cN y, cN p, (sK z (cN c)).2.2.2.2.2), z.2.2)
section Ops1
variable {l : Launch} {D : va_G} {σ : kS} {aO : Nat} {z : kSt} {J : List kJe} {F : kF}
set_option maxRecDepth 100000 in
theorem c_X9_rock (hl : l.stackTraces = false) (hs : sOk z) (h : cl9 D aO z J F σ) {c9 y : Int32} : kMh hX9_rock l D yX9_rock 8 2 12 [.ref aO, .int c9, .int y] σ (fun v s2 => gRock c9 y = none ∧ v = some (.int (rRock z c9)) ∧ cl9 D aO (nRock z c9 y) J F s2 ∧ kFr k9F σ s2) (fun E => gRock c9 y = some E) := by
  refine kM_of (L := [some (.ref aO), some (.int c9), some (.int y), none, none]) (by decide +kernel) hl (List.forall_mem_cons.mpr ⟨rfl, (List.forall_mem_cons.mpr ⟨rfl, (List.forall_mem_cons.mpr ⟨rfl, (fun _ h => absurd h List.not_mem_nil)⟩)⟩)⟩) (Nat.le_of_ble_eq_true rfl) rfl ?_
  intro p e s m args below meth c B hr hex hnm
  have B : kB p l s m args meth c D (kA σ s.heap.size) 5 cX9_rock RX9 := B
  obtain ⟨cA, wA, lA, aJ, cad, ra, wad, lad, R, h⟩ := h
  refine k_aload_n B dX9_rock_0 rfl (by first | exact kRf_r _ | exact kRf_q _ | exact kRf_n) ?_
  refine k_iload_n B dX9_rock_1 rfl ?_
  refine cl_X9_52 B (c_X9_cellAt hl h) h.o dX9_rock_2 (by first | exact Nat.le_of_ble_eq_true rfl | omega | (simp only [kR, Value.category, kCat_q, List.map, List.sum_cons, List.sum_nil]; omega)) (by first | exact Nat.le_of_ble_eq_true rfl | omega | (simp only [kR, Value.category, kCat_q, List.map, List.sum_cons, List.sum_nil]; omega)) (by first | exact Nat.le_of_ble_eq_true rfl | omega | (simp only [kR, Value.category, kCat_q, List.map, List.sum_cons, List.sum_nil]; omega)) (by first | exact Nat.le_of_ble_eq_true rfl | omega | (simp only [kR, Value.category, kCat_q, List.map, List.sum_cons, List.sum_nil]; omega)) (by first | exact Nat.le_of_ble_eq_true rfl | omega | (simp only [kR, Value.category, kCat_q, List.map, List.sum_cons, List.sum_nil]; omega)) (fun E hE => k_xout B hex (fun _ _ h => h) (gCell_n hE) (by decide) (by decide)) (fun v2 s2 hp2 => ?_)
  obtain ⟨e2, i, hi, e3, rfl⟩ := hp2
  rw [e2]
  subst e3
  refine k_astore_n B dX9_rock_5 (by decide) (by first | exact kRf_r _ | exact kRf_q _ | exact kRf_n) ?_
  try refine kK.set1 (by first | exact True.intro | rfl | exact kCat_q _) ?_
  refine k_iload_n B dX9_rock_6 rfl ?_
  refine k_iconst B (v := 1) dX9_rock_7 (by decide) ?_
  refine k_bipush B (v := 40) dX9_rock_8 (by decide) ?_
  refine cl_X9_56 B (c_X9_needRange hl) dX9_rock_10 (by first | exact Nat.le_of_ble_eq_true rfl | omega | (simp only [kR, Value.category, kCat_q, List.map, List.sum_cons, List.sum_nil]; omega)) (by first | exact Nat.le_of_ble_eq_true rfl | omega | (simp only [kR, Value.category, kCat_q, List.map, List.sum_cons, List.sum_nil]; omega)) (by first | exact Nat.le_of_ble_eq_true rfl | omega | (simp only [kR, Value.category, kCat_q, List.map, List.sum_cons, List.sum_nil]; omega)) (by first | exact Nat.le_of_ble_eq_true rfl | omega | (simp only [kR, Value.category, kCat_q, List.map, List.sum_cons, List.sum_nil]; omega)) (by first | exact Nat.le_of_ble_eq_true rfl | omega | (simp only [kR, Value.category, kCat_q, List.map, List.sum_cons, List.sum_nil]; omega)) (fun E hE => k_xout B hex (fun _ _ h => h) ((gCell_p (nI_10 hi)).trans (gRg_n hE)) (by decide) (by decide)) (fun v10 s10 hp10 => ?_)
  obtain ⟨rfl, e10, g2⟩ := hp10
  rw [e10]
  obtain ⟨j, hj1, hj2, ej⟩ := inR_of (a := 1) (n := 40) rfl rfl (by decide) (by decide) g2
  subst ej
  refine k_aload_n B dX9_rock_13 rfl (by first | exact kRf_r _ | exact kRf_q _ | exact kRf_n) ?_
  refine gf_X9_60 B dX9_rock_14 (h.c i hi) rfl ?_
  refine k_istore B dX9_rock_17 (by decide) ?_
  try refine kK.set1 (by first | exact True.intro | rfl | exact kCat_q _) ?_
  refine k_aload_n B dX9_rock_19 rfl (by first | exact kRf_r _ | exact kRf_q _ | exact kRf_n) ?_
  refine k_iload_n B dX9_rock_20 rfl ?_
  refine pf_X9_60 B dX9_rock_21 (h.c i hi) rfl ?_
  refine k_iload B dX9_rock_24 rfl ?_
  refine k_iret B hr dX9_rock_26 ?_ (by first | exact Nat.le_of_ble_eq_true rfl | omega | (simp only [kR, Value.category, kCat_q, List.map, List.sum_cons, List.sum_nil]; omega)) (by first | exact Nat.le_of_ble_eq_true rfl | omega | (simp only [kR, Value.category, kCat_q, List.map, List.sum_cons, List.sum_nil]; omega))
  refine ⟨(gCell_p (nI_10 hi)).trans (gRg_p g2), by rw [rRock, cN_nI (by omega)], ⟨cA, wA, lA, aJ, cad, ra, wad, lad, R, ?_⟩, kFr.up (h.c i hi) (Or.inl (show (0 : Nat) ≤ 9 by decide))⟩
  rw [nRock, cN_nI (by omega), cN_nI (by omega)]
  exact h.cell hi _
set_option maxRecDepth 100000 in
theorem c_X9_land (hl : l.stackTraces = false) (hs : sOk z) (h : cl9 D aO z J F σ) {c9 y : Int32} : kMh hX9_land l D yX9_land 8 3 18 [.ref aO, .int c9, .int y] σ (fun v s2 => gLand z c9 y = none ∧ v = some (.int (rLand z c9)) ∧ cl9 D aO (nLand z c9 y) J F s2 ∧ kFr k9F σ s2) (fun E => gLand z c9 y = some E) := by
  refine kM_of (L := [some (.ref aO), some (.int c9), some (.int y), none, none]) (by decide +kernel) hl (List.forall_mem_cons.mpr ⟨rfl, (List.forall_mem_cons.mpr ⟨rfl, (List.forall_mem_cons.mpr ⟨rfl, (fun _ h => absurd h List.not_mem_nil)⟩)⟩)⟩) (Nat.le_of_ble_eq_true rfl) rfl ?_
  intro p e s m args below meth c B hr hex hnm
  have B : kB p l s m args meth c D (kA σ s.heap.size) 5 cX9_land RX9 := B
  obtain ⟨cA, wA, lA, aJ, cad, ra, wad, lad, R, h⟩ := h
  refine k_aload_n B dX9_land_0 rfl (by first | exact kRf_r _ | exact kRf_q _ | exact kRf_n) ?_
  refine k_iload_n B dX9_land_1 rfl ?_
  refine cl_X9_52 B (c_X9_cellAt hl h) h.o dX9_land_2 (by first | exact Nat.le_of_ble_eq_true rfl | omega | (simp only [kR, Value.category, kCat_q, List.map, List.sum_cons, List.sum_nil]; omega)) (by first | exact Nat.le_of_ble_eq_true rfl | omega | (simp only [kR, Value.category, kCat_q, List.map, List.sum_cons, List.sum_nil]; omega)) (by first | exact Nat.le_of_ble_eq_true rfl | omega | (simp only [kR, Value.category, kCat_q, List.map, List.sum_cons, List.sum_nil]; omega)) (by first | exact Nat.le_of_ble_eq_true rfl | omega | (simp only [kR, Value.category, kCat_q, List.map, List.sum_cons, List.sum_nil]; omega)) (by first | exact Nat.le_of_ble_eq_true rfl | omega | (simp only [kR, Value.category, kCat_q, List.map, List.sum_cons, List.sum_nil]; omega)) (fun E hE => k_xout B hex (fun _ _ h => h) (gCell_n hE) (by decide) (by decide)) (fun v2 s2 hp2 => ?_)
  obtain ⟨e2, i, hi, e3, rfl⟩ := hp2
  rw [e2]
  subst e3
  have g1 := nI_10 hi
  have hk := hs.2.1 i hi
  refine k_astore_n B dX9_land_5 (by decide) (by first | exact kRf_r _ | exact kRf_q _ | exact kRf_n) ?_
  try refine kK.set1 (by first | exact True.intro | rfl | exact kCat_q _) ?_
  refine k_iload_n B dX9_land_6 rfl ?_
  refine k_iconst B (v := 0) dX9_land_7 (by decide) ?_
  refine k_iconst B (v := 2) dX9_land_8 (by decide) ?_
  refine cl_X9_56 B (c_X9_needRange hl) dX9_land_9 (by first | exact Nat.le_of_ble_eq_true rfl | omega | (simp only [kR, Value.category, kCat_q, List.map, List.sum_cons, List.sum_nil]; omega)) (by first | exact Nat.le_of_ble_eq_true rfl | omega | (simp only [kR, Value.category, kCat_q, List.map, List.sum_cons, List.sum_nil]; omega)) (by first | exact Nat.le_of_ble_eq_true rfl | omega | (simp only [kR, Value.category, kCat_q, List.map, List.sum_cons, List.sum_nil]; omega)) (by first | exact Nat.le_of_ble_eq_true rfl | omega | (simp only [kR, Value.category, kCat_q, List.map, List.sum_cons, List.sum_nil]; omega)) (by first | exact Nat.le_of_ble_eq_true rfl | omega | (simp only [kR, Value.category, kCat_q, List.map, List.sum_cons, List.sum_nil]; omega)) (fun E hE => k_xout B hex (fun _ _ h => h) ((gCell_p g1).trans (gRg_n hE)) (by decide) (by decide)) (fun v9 s9 hp9 => ?_)
  obtain ⟨rfl, e9, g2⟩ := hp9
  rw [e9]
  obtain ⟨j, hj1, hj2, ej⟩ := inR_of (a := 0) (n := 2) rfl rfl (by decide) (by decide) g2
  subst ej
  have gg : gLand z (nI i) (nI j) = gSt (decide ((sK z i).2.2.2.1 = 0)) := by
    rw [gLand, gCell_p g1, gRg_p g2, cN_nI (by omega)]
  refine k_aload_n B dX9_land_12 rfl (by first | exact kRf_r _ | exact kRf_q _ | exact kRf_n) ?_
  refine gf_X9_63 B dX9_land_13 (h.c i hi) rfl ?_
  refine k_if_ne B 23 dX9_land_16 (by decide) (fun c16 => ?_) (fun c16 => ?_)
  · have hne : ¬ (sK z i).2.2.2.1 = 0 := fun q => c16 (by rw [q]; rfl)
    refine k_iconst B (v := 0) dX9_land_23 (by decide) ?_
    refine cl_X9_66 B (c_X9_needState hl) dX9_land_24 (by first | exact Nat.le_of_ble_eq_true rfl | omega | (simp only [kR, Value.category, kCat_q, List.map, List.sum_cons, List.sum_nil]; omega)) (by first | exact Nat.le_of_ble_eq_true rfl | omega | (simp only [kR, Value.category, kCat_q, List.map, List.sum_cons, List.sum_nil]; omega)) (by first | exact Nat.le_of_ble_eq_true rfl | omega | (simp only [kR, Value.category, kCat_q, List.map, List.sum_cons, List.sum_nil]; omega)) (by first | exact Nat.le_of_ble_eq_true rfl | omega | (simp only [kR, Value.category, kCat_q, List.map, List.sum_cons, List.sum_nil]; omega)) (by first | exact Nat.le_of_ble_eq_true rfl | omega | (simp only [kR, Value.category, kCat_q, List.map, List.sum_cons, List.sum_nil]; omega)) (fun E hE => k_xout B hex (fun _ _ h => h) (gg.trans (gSt_f (decide_eq_false hne) hE.1)) (by decide) (by decide)) (fun v24 s24 hp24 => ?_)
    exact absurd rfl hp24.2.2
  · have he : (sK z i).2.2.2.1 = 0 := (nI_eq (by have := hk.2.2.2.2.1; omega) (by decide)).mp (by rw [nI_0]; exact c16)
    refine k_iconst B (v := 1) dX9_land_19 (by decide) ?_
    refine k_goto B 24 dX9_land_20 (by decide) ?_
    refine cl_X9_66 B (c_X9_needState hl) dX9_land_24 (by first | exact Nat.le_of_ble_eq_true rfl | omega | (simp only [kR, Value.category, kCat_q, List.map, List.sum_cons, List.sum_nil]; omega)) (by first | exact Nat.le_of_ble_eq_true rfl | omega | (simp only [kR, Value.category, kCat_q, List.map, List.sum_cons, List.sum_nil]; omega)) (by first | exact Nat.le_of_ble_eq_true rfl | omega | (simp only [kR, Value.category, kCat_q, List.map, List.sum_cons, List.sum_nil]; omega)) (by first | exact Nat.le_of_ble_eq_true rfl | omega | (simp only [kR, Value.category, kCat_q, List.map, List.sum_cons, List.sum_nil]; omega)) (by first | exact Nat.le_of_ble_eq_true rfl | omega | (simp only [kR, Value.category, kCat_q, List.map, List.sum_cons, List.sum_nil]; omega)) (fun E hE => absurd hE.2 (by decide)) (fun v24 s24 hp24 => ?_)
    obtain ⟨rfl, e24, -⟩ := hp24
    rw [e24]
    refine k_aload_n B dX9_land_27 rfl (by first | exact kRf_r _ | exact kRf_q _ | exact kRf_n) ?_
    refine gf_X9_70 B dX9_land_28 (h.c i hi) rfl ?_
    refine k_istore B dX9_land_31 (by decide) ?_
    try refine kK.set1 (by first | exact True.intro | rfl | exact kCat_q _) ?_
    refine k_aload_n B dX9_land_33 rfl (by first | exact kRf_r _ | exact kRf_q _ | exact kRf_n) ?_
    refine k_iload_n B dX9_land_34 rfl ?_
    refine pf_X9_70 B dX9_land_35 (h.c i hi) rfl ?_
    refine k_iload B dX9_land_38 rfl ?_
    refine k_iret B hr dX9_land_40 ?_ (by first | exact Nat.le_of_ble_eq_true rfl | omega | (simp only [kR, Value.category, kCat_q, List.map, List.sum_cons, List.sum_nil]; omega)) (by first | exact Nat.le_of_ble_eq_true rfl | omega | (simp only [kR, Value.category, kCat_q, List.map, List.sum_cons, List.sum_nil]; omega))
    refine ⟨gg.trans (gSt_t (decide_eq_true he)), by rw [rLand, cN_nI (by omega)], ⟨cA, wA, lA, aJ, cad, ra, wad, lad, R, ?_⟩, kFr.up (h.c i hi) (Or.inl (show (0 : Nat) ≤ 9 by decide))⟩
    rw [nLand, cN_nI (by omega), cN_nI (by omega)]
    exact h.cell hi _
set_option maxRecDepth 100000 in
theorem c_X9_lead (hl : l.stackTraces = false) (hs : sOk z) (h : cl9 D aO z J F σ) {c9 y : Int32} : kMh hX9_lead l D yX9_lead 8 3 18 [.ref aO, .int c9, .int y] σ (fun v s2 => gLead c9 y = none ∧ v = some (.int (rLead z c9)) ∧ cl9 D aO (nLead z c9 y) J F s2 ∧ kFr k9F σ s2) (fun E => gLead c9 y = some E) := by
  refine kM_of (L := [some (.ref aO), some (.int c9), some (.int y), none, none, none]) (by decide +kernel) hl (List.forall_mem_cons.mpr ⟨rfl, (List.forall_mem_cons.mpr ⟨rfl, (List.forall_mem_cons.mpr ⟨rfl, (fun _ h => absurd h List.not_mem_nil)⟩)⟩)⟩) (Nat.le_of_ble_eq_true rfl) rfl ?_
  intro p e s m args below meth c B hr hex hnm
  have B : kB p l s m args meth c D (kA σ s.heap.size) 6 cX9_lead RX9 := B
  obtain ⟨cA, wA, lA, aJ, cad, ra, wad, lad, R, h⟩ := h
  refine k_aload_n B dX9_lead_0 rfl (by first | exact kRf_r _ | exact kRf_q _ | exact kRf_n) ?_
  refine k_iload_n B dX9_lead_1 rfl ?_
  refine cl_X9_52 B (c_X9_cellAt hl h) h.o dX9_lead_2 (by first | exact Nat.le_of_ble_eq_true rfl | omega | (simp only [kR, Value.category, kCat_q, List.map, List.sum_cons, List.sum_nil]; omega)) (by first | exact Nat.le_of_ble_eq_true rfl | omega | (simp only [kR, Value.category, kCat_q, List.map, List.sum_cons, List.sum_nil]; omega)) (by first | exact Nat.le_of_ble_eq_true rfl | omega | (simp only [kR, Value.category, kCat_q, List.map, List.sum_cons, List.sum_nil]; omega)) (by first | exact Nat.le_of_ble_eq_true rfl | omega | (simp only [kR, Value.category, kCat_q, List.map, List.sum_cons, List.sum_nil]; omega)) (by first | exact Nat.le_of_ble_eq_true rfl | omega | (simp only [kR, Value.category, kCat_q, List.map, List.sum_cons, List.sum_nil]; omega)) (fun E hE => k_xout B hex (fun _ _ h => h) (gCell_n hE) (by decide) (by decide)) (fun v2 s2 hp2 => ?_)
  obtain ⟨e2, i, hi, e3, rfl⟩ := hp2
  rw [e2]
  subst e3
  have g1 := nI_10 hi
  have hd : ∀ d, (sK z i).1 = some d → ∃ K2, σ (cad d) = some (cE cad ra d K2) := fun d hd => ⟨_, h.c d (by have := (hs.2.1 i hi).1 d hd; omega)⟩
  have tail : ∀ tt : Option Nat, (if y = -1 then none else some (cN y)) = tt → (∀ d, tt = some d → d < 10) → gLead (nI i) y = gArg (decide (y < nI i)) → kK p l e (kR 8 3 18) s m args below meth c D (kA σ s.heap.size) 6 (kQ below args s D σ (fun v s2 => gLead (nI i) y = none ∧ v = some (.int (rLead z (nI i))) ∧ cl9 D aO (nLead z (nI i) y) J F s2 ∧ kFr k9F σ s2) (fun E => gLead (nI i) y = some E) 3 18) σ 2 12 20 [some (.ref aO), some (.int (nI i)), some (.int y), some (.ref (cad i)), none, none] [va_rf (tt.map cad)] := by
    intro tt htt htd gg
    refine k_astore B dX9_lead_20 (by decide) (by first | exact kRf_r _ | exact kRf_q _ | exact kRf_n) ?_
    try refine kK.set1 (by first | exact True.intro | rfl | exact kCat_q _) ?_
    refine k_iload_n B dX9_lead_22 rfl ?_
    refine k_iload_n B dX9_lead_23 rfl ?_
    refine k_icmp_ge B 31 dX9_lead_24 (by decide) (fun c24 => ?_) (fun c24 => ?_)
    · rename_i c24
      refine k_iconst B (v := 0) dX9_lead_31 (by decide) ?_
      refine cl_X9_73 B (c_X9_needArgument hl) dX9_lead_32 (by first | exact Nat.le_of_ble_eq_true rfl | omega | (simp only [kR, Value.category, kCat_q, List.map, List.sum_cons, List.sum_nil]; omega)) (by first | exact Nat.le_of_ble_eq_true rfl | omega | (simp only [kR, Value.category, kCat_q, List.map, List.sum_cons, List.sum_nil]; omega)) (by first | exact Nat.le_of_ble_eq_true rfl | omega | (simp only [kR, Value.category, kCat_q, List.map, List.sum_cons, List.sum_nil]; omega)) (by first | exact Nat.le_of_ble_eq_true rfl | omega | (simp only [kR, Value.category, kCat_q, List.map, List.sum_cons, List.sum_nil]; omega)) (by first | exact Nat.le_of_ble_eq_true rfl | omega | (simp only [kR, Value.category, kCat_q, List.map, List.sum_cons, List.sum_nil]; omega)) (fun E hE => k_xout B hex (fun _ _ h => h) (gg.trans (gArg_f (decide_eq_false (fun q => i32_lt_nle q c24)) hE.1)) (by decide) (by decide)) (fun v32 s32 hp32 => ?_)
      exact absurd rfl hp32.2.2
    · rename_i c24
      refine k_iconst B (v := 1) dX9_lead_27 (by decide) ?_
      refine k_goto B 32 dX9_lead_28 (by decide) ?_
      refine cl_X9_73 B (c_X9_needArgument hl) dX9_lead_32 (by first | exact Nat.le_of_ble_eq_true rfl | omega | (simp only [kR, Value.category, kCat_q, List.map, List.sum_cons, List.sum_nil]; omega)) (by first | exact Nat.le_of_ble_eq_true rfl | omega | (simp only [kR, Value.category, kCat_q, List.map, List.sum_cons, List.sum_nil]; omega)) (by first | exact Nat.le_of_ble_eq_true rfl | omega | (simp only [kR, Value.category, kCat_q, List.map, List.sum_cons, List.sum_nil]; omega)) (by first | exact Nat.le_of_ble_eq_true rfl | omega | (simp only [kR, Value.category, kCat_q, List.map, List.sum_cons, List.sum_nil]; omega)) (by first | exact Nat.le_of_ble_eq_true rfl | omega | (simp only [kR, Value.category, kCat_q, List.map, List.sum_cons, List.sum_nil]; omega)) (fun E hE => absurd hE.2 (by decide)) (fun v32 s32 hp32 => ?_)
      obtain ⟨rfl, e32, -⟩ := hp32
      rw [e32]
      refine k_aload_n B dX9_lead_35 rfl (by first | exact kRf_r _ | exact kRf_q _ | exact kRf_n) ?_
      refine cl_X9_76 B (c_X0_leadsTo hl (h.c i hi) hd) (h.c i hi) dX9_lead_36 (by first | exact Nat.le_of_ble_eq_true rfl | omega | (simp only [kR, Value.category, kCat_q, List.map, List.sum_cons, List.sum_nil]; omega)) (by first | exact Nat.le_of_ble_eq_true rfl | omega | (simp only [kR, Value.category, kCat_q, List.map, List.sum_cons, List.sum_nil]; omega)) (by first | exact Nat.le_of_ble_eq_true rfl | omega | (simp only [kR, Value.category, kCat_q, List.map, List.sum_cons, List.sum_nil]; omega)) (by first | exact Nat.le_of_ble_eq_true rfl | omega | (simp only [kR, Value.category, kCat_q, List.map, List.sum_cons, List.sum_nil]; omega)) (by first | exact Nat.le_of_ble_eq_true rfl | omega | (simp only [kR, Value.category, kCat_q, List.map, List.sum_cons, List.sum_nil]; omega)) (fun _ hx => hx.elim) (fun v36 s36 hp36 => ?_)
      obtain ⟨rfl, e36⟩ := hp36
      rw [e36]
      refine kK.rev (y := .int (ldI (sK z i).1)) rfl ?_
      refine k_istore B dX9_lead_39 (by decide) ?_
      try refine kK.set1 (by first | exact True.intro | rfl | exact kCat_q _) ?_
      refine k_aload_n B dX9_lead_41 rfl (by first | exact kRf_r _ | exact kRf_q _ | exact kRf_n) ?_
      refine k_aload B dX9_lead_42 rfl (by first | exact kRf_r _ | exact kRf_q _ | exact kRf_n) ?_
      refine pf_X9_80 B dX9_lead_44 (h.c i hi) rfl (by first | exact kRf_r _ | exact kRf_q _ | exact kRf_n) ?_
      refine k_iload B dX9_lead_47 rfl ?_
      refine k_iret B hr dX9_lead_49 ?_ (by first | exact Nat.le_of_ble_eq_true rfl | omega | (simp only [kR, Value.category, kCat_q, List.map, List.sum_cons, List.sum_nil]; omega)) (by first | exact Nat.le_of_ble_eq_true rfl | omega | (simp only [kR, Value.category, kCat_q, List.map, List.sum_cons, List.sum_nil]; omega))
      refine ⟨gg.trans (gArg_t (decide_eq_true (Int32.not_le.mp c24))), by rw [rLead, cN_nI (by omega)], ⟨cA, wA, lA, aJ, cad, ra, wad, lad, R, ?_⟩, kFr.up (h.c i hi) (Or.inl (show (0 : Nat) ≤ 9 by decide))⟩
      rw [nLead, cN_nI (by omega), htt]
      exact h.cell hi (tt, (sK z i).2)
  refine k_astore_n B dX9_lead_5 (by decide) (by first | exact kRf_r _ | exact kRf_q _ | exact kRf_n) ?_
  try refine kK.set1 (by first | exact True.intro | rfl | exact kCat_q _) ?_
  refine k_iload_n B dX9_lead_6 rfl ?_
  refine k_iconst B (v := (-1)) dX9_lead_7 (by decide) ?_
  refine k_icmp_ne B 15 dX9_lead_8 (by decide) (fun c8 => ?_) (fun c8 => ?_)
  · have hy : ¬ y = -1 := c8
    refine k_aload_n B dX9_lead_15 rfl (by first | exact kRf_r _ | exact kRf_q _ | exact kRf_n) ?_
    refine k_iload_n B dX9_lead_16 rfl ?_
    refine cl_X9_52 B (c_X9_cellAt hl h) h.o dX9_lead_17 (by first | exact Nat.le_of_ble_eq_true rfl | omega | (simp only [kR, Value.category, kCat_q, List.map, List.sum_cons, List.sum_nil]; omega)) (by first | exact Nat.le_of_ble_eq_true rfl | omega | (simp only [kR, Value.category, kCat_q, List.map, List.sum_cons, List.sum_nil]; omega)) (by first | exact Nat.le_of_ble_eq_true rfl | omega | (simp only [kR, Value.category, kCat_q, List.map, List.sum_cons, List.sum_nil]; omega)) (by first | exact Nat.le_of_ble_eq_true rfl | omega | (simp only [kR, Value.category, kCat_q, List.map, List.sum_cons, List.sum_nil]; omega)) (by first | exact Nat.le_of_ble_eq_true rfl | omega | (simp only [kR, Value.category, kCat_q, List.map, List.sum_cons, List.sum_nil]; omega)) (fun E hE => k_xout B hex (fun _ _ h => h) ((gCell_p g1).trans ((if_neg hy).trans (gCell_n hE))) (by decide) (by decide)) (fun v17 s17 hp17 => ?_)
    obtain ⟨e17, j, hj, e18, rfl⟩ := hp17
    rw [e17]
    subst e18
    exact tail (some j) (by rw [if_neg hy, cN_nI (by omega)]) (fun d hd => by cases hd; exact hj) ((gCell_p g1).trans ((if_neg hy).trans (gCell_p (nI_10 hj))))
  · have hy : y = -1 := c8
    refine k_null B dX9_lead_11 ?_
    refine k_goto B 20 dX9_lead_12 (by decide) ?_
    refine kK.widen (k2 := 2) (n2 := 12) (by decide) (by decide) ?_
    exact tail none (by rw [if_pos hy]) (fun d hd => by cases hd) ((gCell_p g1).trans (if_pos hy))
set_option maxRecDepth 100000 in
theorem c_X9_spill (hl : l.stackTraces = false) (hs : sOk z) (h : cl9 D aO z J F σ) {c9 y : Int32} : kMh hX9_spill l D yX9_spill 8 3 18 [.ref aO, .int c9, .int y] σ (fun v s2 => gSpill z c9 y = none ∧ v = some (.int (rSpill z c9 y)) ∧ cl9 D aO (nSpill z c9 y) J F s2 ∧ kFr k9F σ s2) (fun E => gSpill z c9 y = some E) := by
  refine kM_of (L := [some (.ref aO), some (.int c9), some (.int y), none]) (by decide +kernel) hl (List.forall_mem_cons.mpr ⟨rfl, (List.forall_mem_cons.mpr ⟨rfl, (List.forall_mem_cons.mpr ⟨rfl, (fun _ h => absurd h List.not_mem_nil)⟩)⟩)⟩) (Nat.le_of_ble_eq_true rfl) rfl ?_
  intro p e s m args below meth c B hr hex hnm
  have B : kB p l s m args meth c D (kA σ s.heap.size) 4 cX9_spill RX9 := B
  obtain ⟨cA, wA, lA, aJ, cad, ra, wad, lad, R, h⟩ := h
  refine k_aload_n B dX9_spill_0 rfl (by first | exact kRf_r _ | exact kRf_q _ | exact kRf_n) ?_
  refine k_iload_n B dX9_spill_1 rfl ?_
  refine cl_X9_52 B (c_X9_cellAt hl h) h.o dX9_spill_2 (by first | exact Nat.le_of_ble_eq_true rfl | omega | (simp only [kR, Value.category, kCat_q, List.map, List.sum_cons, List.sum_nil]; omega)) (by first | exact Nat.le_of_ble_eq_true rfl | omega | (simp only [kR, Value.category, kCat_q, List.map, List.sum_cons, List.sum_nil]; omega)) (by first | exact Nat.le_of_ble_eq_true rfl | omega | (simp only [kR, Value.category, kCat_q, List.map, List.sum_cons, List.sum_nil]; omega)) (by first | exact Nat.le_of_ble_eq_true rfl | omega | (simp only [kR, Value.category, kCat_q, List.map, List.sum_cons, List.sum_nil]; omega)) (by first | exact Nat.le_of_ble_eq_true rfl | omega | (simp only [kR, Value.category, kCat_q, List.map, List.sum_cons, List.sum_nil]; omega)) (fun E hE => k_xout B hex (fun _ _ h => h) (gCell_n hE) (by decide) (by decide)) (fun v2 s2 hp2 => ?_)
  obtain ⟨e2, i, hi, e3, rfl⟩ := hp2
  rw [e2]
  subst e3
  have g1 := nI_10 hi
  refine k_astore_n B dX9_spill_5 (by decide) (by first | exact kRf_r _ | exact kRf_q _ | exact kRf_n) ?_
  try refine kK.set1 (by first | exact True.intro | rfl | exact kCat_q _) ?_
  refine k_iload_n B dX9_spill_6 rfl ?_
  refine k_bipush B (v := 8) dX9_spill_7 (by decide) ?_
  refine cl_X9_83 B (c_X9_needIndex hl) dX9_spill_9 (by first | exact Nat.le_of_ble_eq_true rfl | omega | (simp only [kR, Value.category, kCat_q, List.map, List.sum_cons, List.sum_nil]; omega)) (by first | exact Nat.le_of_ble_eq_true rfl | omega | (simp only [kR, Value.category, kCat_q, List.map, List.sum_cons, List.sum_nil]; omega)) (by first | exact Nat.le_of_ble_eq_true rfl | omega | (simp only [kR, Value.category, kCat_q, List.map, List.sum_cons, List.sum_nil]; omega)) (by first | exact Nat.le_of_ble_eq_true rfl | omega | (simp only [kR, Value.category, kCat_q, List.map, List.sum_cons, List.sum_nil]; omega)) (by first | exact Nat.le_of_ble_eq_true rfl | omega | (simp only [kR, Value.category, kCat_q, List.map, List.sum_cons, List.sum_nil]; omega)) (fun E hE => k_xout B hex (fun _ _ h => h) ((gCell_p g1).trans (gIx_n hE)) (by decide) (by decide)) (fun v9 s9 hp9 => ?_)
  obtain ⟨rfl, e9, g2⟩ := hp9
  rw [e9]
  have gg : gSpill z (nI i) y = gSt (decide (¬ trvI z (nI i) ≤ 5)) := by rw [gSpill, gCell_p g1, gIx_p g2]
  have ht : trvI z (nI i) = nI (trvF (sK z) (i + 1) i) := by rw [trvI, cN_nI (by omega)]
  refine k_aload_n B dX9_spill_12 rfl (by first | exact kRf_r _ | exact kRf_q _ | exact kRf_n) ?_
  refine cl_X9_87 B (c_X0_travel hl (KK := sK z) h.c (fun a d ha hd => (hs.2.1 a ha).1 d hd) hi) (h.c i hi) dX9_spill_13 (by first | exact Nat.le_of_ble_eq_true rfl | omega | (simp only [kR, Value.category, kCat_q, List.map, List.sum_cons, List.sum_nil]; omega)) (by first | exact Nat.le_of_ble_eq_true rfl | omega | (simp only [kR, Value.category, kCat_q, List.map, List.sum_cons, List.sum_nil]; omega)) (by first | exact Nat.le_of_ble_eq_true rfl | omega | (simp only [kR, Value.category, kCat_q, List.map, List.sum_cons, List.sum_nil]; omega)) (by first | exact Nat.le_of_ble_eq_true rfl | omega | (simp only [kR, Value.category, kCat_q, List.map, List.sum_cons, List.sum_nil]; omega)) (by first | exact Nat.le_of_ble_eq_true rfl | omega | (simp only [kR, Value.category, kCat_q, List.map, List.sum_cons, List.sum_nil]; omega)) (fun _ hx => hx.elim) (fun v13 s13 hp13 => ?_)
  obtain ⟨rfl, e13⟩ := hp13
  rw [e13]
  refine kK.rev (y := .int (nI (trvF (sK z) (i + 1) i))) rfl ?_
  refine k_iconst B (v := 5) dX9_spill_16 (by decide) ?_
  refine k_icmp_le B 24 dX9_spill_17 (by decide) (fun c17 => ?_) (fun c17 => ?_)
  · rename_i c17
    have hn : decide (¬ trvI z (nI i) ≤ 5) = false := decide_eq_false (fun q => q (by rw [ht]; exact c17))
    refine k_iconst B (v := 0) dX9_spill_24 (by decide) ?_
    refine cl_X9_66 B (c_X9_needState hl) dX9_spill_25 (by first | exact Nat.le_of_ble_eq_true rfl | omega | (simp only [kR, Value.category, kCat_q, List.map, List.sum_cons, List.sum_nil]; omega)) (by first | exact Nat.le_of_ble_eq_true rfl | omega | (simp only [kR, Value.category, kCat_q, List.map, List.sum_cons, List.sum_nil]; omega)) (by first | exact Nat.le_of_ble_eq_true rfl | omega | (simp only [kR, Value.category, kCat_q, List.map, List.sum_cons, List.sum_nil]; omega)) (by first | exact Nat.le_of_ble_eq_true rfl | omega | (simp only [kR, Value.category, kCat_q, List.map, List.sum_cons, List.sum_nil]; omega)) (by first | exact Nat.le_of_ble_eq_true rfl | omega | (simp only [kR, Value.category, kCat_q, List.map, List.sum_cons, List.sum_nil]; omega)) (fun E hE => k_xout B hex (fun _ _ h => h) (gg.trans (gSt_f hn hE.1)) (by decide) (by decide)) (fun v25 s25 hp25 => ?_)
    exact absurd rfl hp25.2.2
  · rename_i c17
    have hn : decide (¬ trvI z (nI i) ≤ 5) = true := decide_eq_true (by rw [ht]; exact c17)
    refine k_iconst B (v := 1) dX9_spill_20 (by decide) ?_
    refine k_goto B 25 dX9_spill_21 (by decide) ?_
    refine cl_X9_66 B (c_X9_needState hl) dX9_spill_25 (by first | exact Nat.le_of_ble_eq_true rfl | omega | (simp only [kR, Value.category, kCat_q, List.map, List.sum_cons, List.sum_nil]; omega)) (by first | exact Nat.le_of_ble_eq_true rfl | omega | (simp only [kR, Value.category, kCat_q, List.map, List.sum_cons, List.sum_nil]; omega)) (by first | exact Nat.le_of_ble_eq_true rfl | omega | (simp only [kR, Value.category, kCat_q, List.map, List.sum_cons, List.sum_nil]; omega)) (by first | exact Nat.le_of_ble_eq_true rfl | omega | (simp only [kR, Value.category, kCat_q, List.map, List.sum_cons, List.sum_nil]; omega)) (by first | exact Nat.le_of_ble_eq_true rfl | omega | (simp only [kR, Value.category, kCat_q, List.map, List.sum_cons, List.sum_nil]; omega)) (fun E hE => absurd hE.2 (by decide)) (fun v25 s25 hp25 => ?_)
    obtain ⟨rfl, e25, -⟩ := hp25
    rw [e25]
    refine k_aload_n B dX9_spill_28 rfl (by first | exact kRf_r _ | exact kRf_q _ | exact kRf_n) ?_
    refine k_dup B dX9_spill_29 rfl ?_
    refine gf_X9_90 B dX9_spill_30 (h.c i hi) rfl ?_
    refine k_iconst B (v := 1) dX9_spill_33 (by decide) ?_
    refine k_iload_n B dX9_spill_34 rfl ?_
    refine k_ishl B dX9_spill_35 ?_
    refine k_ior B dX9_spill_36 ?_
    refine pf_X9_90 B dX9_spill_37 (h.c i hi) rfl ?_
    refine k_aload_n B dX9_spill_40 rfl (by first | exact kRf_r _ | exact kRf_q _ | exact kRf_n) ?_
    refine gf_X9_90 B dX9_spill_41 kUp_eq rfl ?_
    refine k_iret B hr dX9_spill_44 ?_ (by first | exact Nat.le_of_ble_eq_true rfl | omega | (simp only [kR, Value.category, kCat_q, List.map, List.sum_cons, List.sum_nil]; omega)) (by first | exact Nat.le_of_ble_eq_true rfl | omega | (simp only [kR, Value.category, kCat_q, List.map, List.sum_cons, List.sum_nil]; omega))
    refine ⟨gg.trans (gSt_t hn), by rw [rSpill, cN_nI (by omega)]; rfl, ⟨cA, wA, lA, aJ, cad, ra, wad, lad, R, ?_⟩, kFr.up (h.c i hi) (Or.inl (show (0 : Nat) ≤ 9 by decide))⟩
    rw [nSpill, rSpill, cN_nI (by omega)]
    exact h.cell hi _
set_option maxRecDepth 100000 in
theorem c_X9_contract (hl : l.stackTraces = false) (hs : sOk z) (h : cl9 D aO z J F σ) {c9 y w : Int32} : kMh hX9_contract l D yX9_contract 8 4 24 [.ref aO, .int c9, .int y, .int w] σ (fun v s2 => gContract z c9 y w = none ∧ v = none ∧ cl9 D aO (nContract z c9 y w) J F s2 ∧ kFr k9F σ s2) (fun E => gContract z c9 y w = some E) := by
  refine kM_of (L := [some (.ref aO), some (.int c9), some (.int y), some (.int w), none]) (by decide +kernel) hl (List.forall_mem_cons.mpr ⟨rfl, (List.forall_mem_cons.mpr ⟨rfl, (List.forall_mem_cons.mpr ⟨rfl, (List.forall_mem_cons.mpr ⟨rfl, (fun _ h => absurd h List.not_mem_nil)⟩)⟩)⟩)⟩) (Nat.le_of_ble_eq_true rfl) rfl ?_
  intro p e s m args below meth c B hr hex hnm
  have B : kB p l s m args meth c D (kA σ s.heap.size) 5 cX9_contract RX9 := B
  obtain ⟨cA, wA, lA, aJ, cad, ra, wad, lad, R, h⟩ := h
  refine k_aload_n B dX9_contract_0 rfl (by first | exact kRf_r _ | exact kRf_q _ | exact kRf_n) ?_
  refine k_iload_n B dX9_contract_1 rfl ?_
  refine cl_X9_52 B (c_X9_cellAt hl h) h.o dX9_contract_2 (by first | exact Nat.le_of_ble_eq_true rfl | omega | (simp only [kR, Value.category, kCat_q, List.map, List.sum_cons, List.sum_nil]; omega)) (by first | exact Nat.le_of_ble_eq_true rfl | omega | (simp only [kR, Value.category, kCat_q, List.map, List.sum_cons, List.sum_nil]; omega)) (by first | exact Nat.le_of_ble_eq_true rfl | omega | (simp only [kR, Value.category, kCat_q, List.map, List.sum_cons, List.sum_nil]; omega)) (by first | exact Nat.le_of_ble_eq_true rfl | omega | (simp only [kR, Value.category, kCat_q, List.map, List.sum_cons, List.sum_nil]; omega)) (by first | exact Nat.le_of_ble_eq_true rfl | omega | (simp only [kR, Value.category, kCat_q, List.map, List.sum_cons, List.sum_nil]; omega)) (fun E hE => k_xout B hex (fun _ _ h => h) (gCell_n hE) (by decide) (by decide)) (fun v2 s2 hp2 => ?_)
  obtain ⟨e2, i, hi, e3, rfl⟩ := hp2
  rw [e2]
  subst e3
  have g1 := nI_10 hi
  have hk := hs.2.1 i hi
  refine k_astore B dX9_contract_5 (by decide) (by first | exact kRf_r _ | exact kRf_q _ | exact kRf_n) ?_
  try refine kK.set1 (by first | exact True.intro | rfl | exact kCat_q _) ?_
  refine k_iload_n B dX9_contract_7 rfl ?_
  refine k_iconst B (v := 1) dX9_contract_8 (by decide) ?_
  refine k_bipush B (v := 30) dX9_contract_9 (by decide) ?_
  refine cl_X9_56 B (c_X9_needRange hl) dX9_contract_11 (by first | exact Nat.le_of_ble_eq_true rfl | omega | (simp only [kR, Value.category, kCat_q, List.map, List.sum_cons, List.sum_nil]; omega)) (by first | exact Nat.le_of_ble_eq_true rfl | omega | (simp only [kR, Value.category, kCat_q, List.map, List.sum_cons, List.sum_nil]; omega)) (by first | exact Nat.le_of_ble_eq_true rfl | omega | (simp only [kR, Value.category, kCat_q, List.map, List.sum_cons, List.sum_nil]; omega)) (by first | exact Nat.le_of_ble_eq_true rfl | omega | (simp only [kR, Value.category, kCat_q, List.map, List.sum_cons, List.sum_nil]; omega)) (by first | exact Nat.le_of_ble_eq_true rfl | omega | (simp only [kR, Value.category, kCat_q, List.map, List.sum_cons, List.sum_nil]; omega)) (fun E hE => k_xout B hex (fun _ _ h => h) ((gCell_p g1).trans (gRg_n hE)) (by decide) (by decide)) (fun v11 s11 hp11 => ?_)
  obtain ⟨rfl, e11, g2⟩ := hp11
  rw [e11]
  refine k_iload_n B dX9_contract_14 rfl ?_
  refine k_iconst B (v := 0) dX9_contract_15 (by decide) ?_
  refine k_sipush B (v := 1000) dX9_contract_16 (by decide) ?_
  refine cl_X9_56 B (c_X9_needRange hl) dX9_contract_19 (by first | exact Nat.le_of_ble_eq_true rfl | omega | (simp only [kR, Value.category, kCat_q, List.map, List.sum_cons, List.sum_nil]; omega)) (by first | exact Nat.le_of_ble_eq_true rfl | omega | (simp only [kR, Value.category, kCat_q, List.map, List.sum_cons, List.sum_nil]; omega)) (by first | exact Nat.le_of_ble_eq_true rfl | omega | (simp only [kR, Value.category, kCat_q, List.map, List.sum_cons, List.sum_nil]; omega)) (by first | exact Nat.le_of_ble_eq_true rfl | omega | (simp only [kR, Value.category, kCat_q, List.map, List.sum_cons, List.sum_nil]; omega)) (by first | exact Nat.le_of_ble_eq_true rfl | omega | (simp only [kR, Value.category, kCat_q, List.map, List.sum_cons, List.sum_nil]; omega)) (fun E hE => k_xout B hex (fun _ _ h => h) ((gCell_p g1).trans ((gRg_p g2).trans (gRg_n hE))) (by decide) (by decide)) (fun v19 s19 hp19 => ?_)
  obtain ⟨rfl, e19, g3⟩ := hp19
  rw [e19]
  have gg : gContract z (nI i) y w = gSt (decide ((sK z i).2.2.1 = 2) && decide ((sK z i).2.2.2.1 = 0)) := by
    rw [gContract, gCell_p g1, gRg_p g2, gRg_p g3, cN_nI (by omega)]
  obtain ⟨j, hj1, hj2, ej⟩ := inR_of (a := 1) (n := 30) rfl rfl (by decide) (by decide) g2
  obtain ⟨j2, hj3, hj4, ej2⟩ := inR_of (a := 0) (n := 1000) rfl rfl (by decide) (by decide) g3
  subst ej
  subst ej2
  have bad : (decide ((sK z i).2.2.1 = 2) && decide ((sK z i).2.2.2.1 = 0)) = false → kK p l e (kR 8 4 24) s m args below meth c D (kA σ s.heap.size) 5 (kQ below args s D σ (fun v s2 => gContract z (nI i) (nI j) (nI j2) = none ∧ v = none ∧ cl9 D aO (nContract z (nI i) (nI j) (nI j2)) J F s2 ∧ kFr k9F σ s2) (fun E => gContract z (nI i) (nI j) (nI j2) = some E) 4 24) σ 3 18 43 [some (.ref aO), some (.int (nI i)), some (.int (nI j)), some (.int (nI j2)), some (.ref (cad i))] [] := by
    intro hb
    refine k_iconst B (v := 0) dX9_contract_43 (by decide) ?_
    refine cl_X9_66 B (c_X9_needState hl) dX9_contract_44 (by first | exact Nat.le_of_ble_eq_true rfl | omega | (simp only [kR, Value.category, kCat_q, List.map, List.sum_cons, List.sum_nil]; omega)) (by first | exact Nat.le_of_ble_eq_true rfl | omega | (simp only [kR, Value.category, kCat_q, List.map, List.sum_cons, List.sum_nil]; omega)) (by first | exact Nat.le_of_ble_eq_true rfl | omega | (simp only [kR, Value.category, kCat_q, List.map, List.sum_cons, List.sum_nil]; omega)) (by first | exact Nat.le_of_ble_eq_true rfl | omega | (simp only [kR, Value.category, kCat_q, List.map, List.sum_cons, List.sum_nil]; omega)) (by first | exact Nat.le_of_ble_eq_true rfl | omega | (simp only [kR, Value.category, kCat_q, List.map, List.sum_cons, List.sum_nil]; omega)) (fun E hE => k_xout B hex (fun _ _ h => h) (gg.trans (gSt_f hb hE.1)) (by decide) (by decide)) (fun v44 s44 hp44 => ?_)
    exact absurd rfl hp44.2.2
  refine k_aload B dX9_contract_22 rfl (by first | exact kRf_r _ | exact kRf_q _ | exact kRf_n) ?_
  refine gf_X9_70 B dX9_contract_24 (h.c i hi) rfl ?_
  refine k_iconst B (v := 2) dX9_contract_27 (by decide) ?_
  refine k_icmp_ne B 43 dX9_contract_28 (by decide) (fun c28 => ?_) (fun c28 => ?_)
  · rename_i c28
    have hne : ¬ (sK z i).2.2.1 = 2 := fun q => c28 (by rw [q]; rfl)
    exact bad (by rw [decide_eq_false hne]; rfl)
  · rename_i c28
    have he : (sK z i).2.2.1 = 2 := (nI_eq (by have := hk.2.2.2.1; omega) (by decide)).mp c28
    refine k_aload B dX9_contract_31 rfl (by first | exact kRf_r _ | exact kRf_q _ | exact kRf_n) ?_
    refine gf_X9_63 B dX9_contract_33 (h.c i hi) rfl ?_
    refine k_if_ne B 43 dX9_contract_36 (by decide) (fun c36 => ?_) (fun c36 => ?_)
    · rename_i c36
      have hne : ¬ (sK z i).2.2.2.1 = 0 := fun q => c36 (by rw [q]; rfl)
      exact bad (by rw [decide_eq_false hne, Bool.and_false])
    · rename_i c36
      have he2 : (sK z i).2.2.2.1 = 0 := (nI_eq (by have := hk.2.2.2.2.1; omega) (by decide)).mp (by rw [nI_0]; exact c36)
      refine k_iconst B (v := 1) dX9_contract_39 (by decide) ?_
      refine k_goto B 44 dX9_contract_40 (by decide) ?_
      refine cl_X9_66 B (c_X9_needState hl) dX9_contract_44 (by first | exact Nat.le_of_ble_eq_true rfl | omega | (simp only [kR, Value.category, kCat_q, List.map, List.sum_cons, List.sum_nil]; omega)) (by first | exact Nat.le_of_ble_eq_true rfl | omega | (simp only [kR, Value.category, kCat_q, List.map, List.sum_cons, List.sum_nil]; omega)) (by first | exact Nat.le_of_ble_eq_true rfl | omega | (simp only [kR, Value.category, kCat_q, List.map, List.sum_cons, List.sum_nil]; omega)) (by first | exact Nat.le_of_ble_eq_true rfl | omega | (simp only [kR, Value.category, kCat_q, List.map, List.sum_cons, List.sum_nil]; omega)) (by first | exact Nat.le_of_ble_eq_true rfl | omega | (simp only [kR, Value.category, kCat_q, List.map, List.sum_cons, List.sum_nil]; omega)) (fun E hE => absurd hE.2 (by decide)) (fun v44 s44 hp44 => ?_)
      obtain ⟨rfl, e44, -⟩ := hp44
      rw [e44]
      refine k_aload B dX9_contract_47 rfl (by first | exact kRf_r _ | exact kRf_q _ | exact kRf_n) ?_
      refine k_iload_n B dX9_contract_49 rfl ?_
      refine pf_X9_63 B dX9_contract_50 (h.c i hi) rfl ?_
      refine k_aload B dX9_contract_53 rfl (by first | exact kRf_r _ | exact kRf_q _ | exact kRf_n) ?_
      refine k_iload_n B dX9_contract_55 rfl ?_
      refine pf_X9_93 B dX9_contract_56 kUp_eq rfl ?_
      refine kK.eq (kUp_uu) ?_
      refine k_vret B hr dX9_contract_59 ?_ (by first | exact Nat.le_of_ble_eq_true rfl | omega | (simp only [kR, Value.category, kCat_q, List.map, List.sum_cons, List.sum_nil]; omega)) (by first | exact Nat.le_of_ble_eq_true rfl | omega | (simp only [kR, Value.category, kCat_q, List.map, List.sum_cons, List.sum_nil]; omega))
      refine ⟨gg.trans (gSt_t (by rw [decide_eq_true he, decide_eq_true he2]; rfl)), rfl, ⟨cA, wA, lA, aJ, cad, ra, wad, lad, R, ?_⟩, kFr.up (h.c i hi) (Or.inl (show (0 : Nat) ≤ 9 by decide))⟩
      rw [nContract, cN_nI (by omega), cN_nI (by omega), cN_nI (by omega)]
      exact h.cell hi _
end Ops1
