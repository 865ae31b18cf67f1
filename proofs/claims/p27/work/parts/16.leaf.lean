/-! ===== cells, wells, lots ===== -/
/-- a cell: to where it leads, how long it holds, land, years and pay of its contract, what waits -/
abbrev kCl : Type := Option Nat × Nat × Nat × Nat × Nat × Int32
def cE (cad rad : Nat → Nat) (c : Nat) (K : kCl) : va_E := .inr (0, [.int (nI c), .ref (rad c), va_rf (K.1.map cad), .int (nI K.2.1), .int (nI K.2.2.1), .int (nI K.2.2.2.1), .int (nI K.2.2.2.2.1), .int K.2.2.2.2.2])
def ldI : Option Nat → Int32
  | none => -1
  | some d => nI d
def nitOf (land cy : Nat) : Nat := if land = 0 then 1 else if land = 1 ∨ 0 < cy then 3 else 10
def trvF (K : Nat → kCl) : Nat → Nat → Nat
  | 0, _ => 0
  | n + 1, c => (K c).2.1 + match (K c).1 with
    | none => 0
    | some d => trvF K n d
def lotE (w b : Nat) (r : Nat) (tr lb tru rc : Int32) : va_E := .inr (2, [.int (nI w), .int (nI b), .ref r, .int tr, .int lb, .int tru, .int rc])
def yoI : List kP → Int32
  | [] => -1
  | q :: t => nI (maS t q.2.1)
def olI : List kP → Int32
  | [] => -1
  | q :: t => nI (miS t q.2.1)
def hamB (tr li : Int32) (nf : Nat) (P : List kP) : Bool := decide (tr &&& (li ^^^ (-1)) = 0) && decide (niS P ≤ nf * unS P)
def okB (kind fb tr : Int32) (bt : Nat) (P : List kP) : Bool := if kind = 0 then (hamB tr (1 &&& (fb ^^^ (-1))) 5 P && decide (coS P 0 = 0) && decide (10 ≤ nI bt - yoI P)) else if kind = 1 then hamB tr (3 &&& (fb ^^^ (-1))) 8 P else true
def bI (b : Bool) : Int32 := if b = true then 1 else 0
def truI (lb tru : Int32) : Int32 := if lb = -1 then -1 else if tru = 0 then 0 else 1
def rcB (lb rc tr bit : Int32) : Bool := (decide (lb = 0) || decide (lb = 1)) && decide (rc = 0) && !decide (tr &&& bit = 0)
theorem bI_t {b : Bool} (h : b = true) : bI b = 1 := by rw [bI, if_pos h]
theorem bI_f {b : Bool} (h : ¬ b = true) : bI b = 0 := by rw [bI, if_neg h]
theorem bI_n (b : Bool) : narrow .boolean (.int (bI b)) = .int (bI b) := by cases b <;> rfl
theorem bI_01 (b : Bool) : bI b = 0 ∨ bI b = 1 := by cases b <;> decide
theorem nI_toNe {x : Nat} {y : Nat} (hx : x < 2 ^ 31) (hy : y < 2 ^ 31) (h : ¬ nI x = nI y) : x ≠ y := fun e => h (by rw [e])
def lc0 (k : Nat) : Prop := k = 0
section Leaf
variable {l : Launch} {D : va_G} {σ : kS} {cad rad : Nat → Nat} {ic : Nat} {K : kCl}
set_option maxRecDepth 100000 in
theorem c_X0_leadsTo (hl : l.stackTraces = false) (hc : σ (cad ic) = some (cE cad rad ic K)) (hd : ∀ d, K.1 = some d → ∃ K2, σ (cad d) = some (cE cad rad d K2)) : kMh hX0_leadsTo l D yX0_leadsTo 1 0 0 [.ref (cad ic)] σ (fun v s2 => v = some (.int (ldI K.1)) ∧ s2 = σ) (fun _ => False) := by
  refine kM_of (L := [some (.ref (cad ic))]) (by decide +kernel) hl (List.forall_mem_cons.mpr ⟨rfl, (fun _ h => absurd h List.not_mem_nil)⟩) (Nat.le_of_ble_eq_true rfl) rfl ?_
  intro p e s m args below meth c B hr hex hnm
  have B : kB p l s m args meth c D (kA σ s.heap.size) 1 cX0_leadsTo RX0 := B
  obtain ⟨ld, K⟩ := K
  cases ld with
  | none =>
    refine k_aload_n B dX0_leadsTo_0 rfl (by first | exact kRf_r _ | exact kRf_q _ | exact kRf_n) ?_
    refine gf_X0_28 B dX0_leadsTo_1 hc rfl ?_
    refine k_ifnonnullN B 11 dX0_leadsTo_4 (by decide) ?_
    refine k_iconst B (v := (-1)) dX0_leadsTo_7 (by decide) ?_
    refine k_goto B 18 dX0_leadsTo_8 (by decide) ?_
    refine k_iret B hr dX0_leadsTo_18 ?_ (by first | exact Nat.le_of_ble_eq_true rfl | omega | (simp only [kR, Value.category, kCat_q, List.map, List.sum_cons, List.sum_nil]; omega)) (by first | exact Nat.le_of_ble_eq_true rfl | omega | (simp only [kR, Value.category, kCat_q, List.map, List.sum_cons, List.sum_nil]; omega))
    exact ⟨rfl, rfl⟩
  | some d =>
    obtain ⟨K2, h2⟩ := hd d rfl
    refine k_aload_n B dX0_leadsTo_0 rfl (by first | exact kRf_r _ | exact kRf_q _ | exact kRf_n) ?_
    refine gf_X0_28 B dX0_leadsTo_1 hc rfl ?_
    refine k_ifnonnullR B 11 dX0_leadsTo_4 (by decide) ?_
    refine k_aload_n B dX0_leadsTo_11 rfl (by first | exact kRf_r _ | exact kRf_q _ | exact kRf_n) ?_
    refine gf_X0_28 B dX0_leadsTo_12 hc rfl ?_
    refine gf_X0_25 B dX0_leadsTo_15 h2 rfl ?_
    refine k_iret B hr dX0_leadsTo_18 ?_ (by first | exact Nat.le_of_ble_eq_true rfl | omega | (simp only [kR, Value.category, kCat_q, List.map, List.sum_cons, List.sum_nil]; omega)) (by first | exact Nat.le_of_ble_eq_true rfl | omega | (simp only [kR, Value.category, kCat_q, List.map, List.sum_cons, List.sum_nil]; omega))
    exact ⟨rfl, rfl⟩
set_option maxRecDepth 100000 in
theorem c_X0_travel (hl : l.stackTraces = false) {KK : Nat → kCl} (hc : ∀ i, i < 10 → σ (cad i) = some (cE cad rad i (KK i))) (hd : ∀ i d, i < 10 → (KK i).1 = some d → d < i) (h10 : ic < 10) : kMh hX0_travel l D yX0_travel 1 0 0 [.ref (cad ic)] σ (fun v s2 => v = some (.int (nI (trvF KK (ic + 1) ic))) ∧ s2 = σ) (fun _ => False) := by
  refine kM_of (L := [some (.ref (cad ic)), none, none]) (by decide +kernel) hl (List.forall_mem_cons.mpr ⟨rfl, (fun _ h => absurd h List.not_mem_nil)⟩) (Nat.le_of_ble_eq_true rfl) rfl ?_
  intro p e s m args below meth c B hr hex hnm
  have B : kB p l s m args meth c D (kA σ s.heap.size) 3 cX0_travel RX0 := B
  generalize hgoal : trvF KK (ic + 1) ic = G
  have loop : ∀ (n i acc : Nat), i < n → n ≤ 10 → acc + trvF KK n i = G → kK p l e (kR 1 0 0) s m args below meth c D (kA σ s.heap.size) 3 (kQ below args s D σ (fun v s2 => v = some (.int (nI (G))) ∧ s2 = σ) (fun _ => False) 0 0) σ 0 0 4 [some (.ref (cad ic)), some (.int (nI acc)), some (.ref (cad i))] [] := by
    intro n
    induction n with
    | zero => intro i acc h; omega
    | succ n ih =>
      intro i acc hi hn hs
      have hci := hc i (by omega)
      refine k_aload_n B dX0_travel_4 rfl (by first | exact kRf_r _ | exact kRf_q _ | exact kRf_n) ?_
      refine k_ifnullR B 23 dX0_travel_5 (by decide) ?_
      refine k_iload_n B dX0_travel_8 rfl ?_
      refine k_aload_n B dX0_travel_9 rfl (by first | exact kRf_r _ | exact kRf_q _ | exact kRf_n) ?_
      refine gf_X0_18 B dX0_travel_10 hci rfl ?_
      refine k_iadd B dX0_travel_13 ?_
      refine kK.rei (y := nI (acc + (KK i).2.1)) (nI_add _ _) ?_
      simp only [trvF] at hs
      cases hld : (KK i).1 with
      | none =>
        rw [hld] at hs
        have hci2 : σ (cad i) = some (.inr (0, [.int (nI i), .ref (rad i), .null, .int (nI (KK i).2.1), .int (nI (KK i).2.2.1), .int (nI (KK i).2.2.2.1), .int (nI (KK i).2.2.2.2.1), .int (KK i).2.2.2.2.2])) := by rw [hci, cE, hld]; rfl
        refine k_istore_n B dX0_travel_14 (by decide) ?_
        try refine kK.set1 (by first | exact True.intro | rfl | exact kCat_q _) ?_
        refine k_aload_n B dX0_travel_15 rfl (by first | exact kRf_r _ | exact kRf_q _ | exact kRf_n) ?_
        refine gf_X0_28 B dX0_travel_16 hci2 rfl ?_
        refine k_astore_n B dX0_travel_19 (by decide) (by first | exact kRf_r _ | exact kRf_q _ | exact kRf_n) ?_
        try refine kK.set1 (by first | exact True.intro | rfl | exact kCat_q _) ?_
        refine k_goto B 4 dX0_travel_20 (by decide) ?_
        refine k_aload_n B dX0_travel_4 rfl (by first | exact kRf_r _ | exact kRf_q _ | exact kRf_n) ?_
        refine k_ifnullN B 23 dX0_travel_5 (by decide) ?_
        refine k_iload_n B dX0_travel_23 rfl ?_
        refine k_iret B hr dX0_travel_24 ?_ (by first | exact Nat.le_of_ble_eq_true rfl | omega | (simp only [kR, Value.category, kCat_q, List.map, List.sum_cons, List.sum_nil]; omega)) (by first | exact Nat.le_of_ble_eq_true rfl | omega | (simp only [kR, Value.category, kCat_q, List.map, List.sum_cons, List.sum_nil]; omega))
        exact ⟨by rw [← hs]; rfl, rfl⟩
      | some d =>
        rw [hld] at hs
        have hdi := hd i d (by omega) hld
        have hci2 : σ (cad i) = some (.inr (0, [.int (nI i), .ref (rad i), .ref (cad d), .int (nI (KK i).2.1), .int (nI (KK i).2.2.1), .int (nI (KK i).2.2.2.1), .int (nI (KK i).2.2.2.2.1), .int (KK i).2.2.2.2.2])) := by rw [hci, cE, hld]; rfl
        refine k_istore_n B dX0_travel_14 (by decide) ?_
        try refine kK.set1 (by first | exact True.intro | rfl | exact kCat_q _) ?_
        refine k_aload_n B dX0_travel_15 rfl (by first | exact kRf_r _ | exact kRf_q _ | exact kRf_n) ?_
        refine gf_X0_28 B dX0_travel_16 hci2 rfl ?_
        refine k_astore_n B dX0_travel_19 (by decide) (by first | exact kRf_r _ | exact kRf_q _ | exact kRf_n) ?_
        try refine kK.set1 (by first | exact True.intro | rfl | exact kCat_q _) ?_
        refine k_goto B 4 dX0_travel_20 (by decide) ?_
        exact ih d _ (by omega) (by omega) (by rw [← hs]; simp only []; omega)
  refine k_iconst B (v := 0) dX0_travel_0 (by decide) ?_
  refine k_istore_n B dX0_travel_1 (by decide) ?_
  try refine kK.set1 (by first | exact True.intro | rfl | exact kCat_q _) ?_
  refine k_aload_n B dX0_travel_2 rfl (by first | exact kRf_r _ | exact kRf_q _ | exact kRf_n) ?_
  refine k_astore_n B dX0_travel_3 (by decide) (by first | exact kRf_r _ | exact kRf_q _ | exact kRf_n) ?_
  try refine kK.set1 (by first | exact True.intro | rfl | exact kCat_q _) ?_
  exact loop (ic + 1) ic 0 (by omega) (by omega) (by omega)
set_option maxRecDepth 100000 in
theorem c_X0_yearly (hl : l.stackTraces = false) {u : Nat} {f z : Option Nat} (hc : σ (cad ic) = some (cE cad rad ic K)) (hρ : σ (rad ic) = some (rowE (nI u) f z)) (h1 : 1 ≤ K.2.1) (h2 : K.2.1 < 2 ^ 31) (hu : u < 2 ^ 31) : kMh hX0_yearly l D yX0_yearly 1 0 0 [.ref (cad ic)] σ (fun v s2 => v = some (.int (nI (u / K.2.1))) ∧ s2 = σ) (fun _ => False) := by
  refine kM_of (L := [some (.ref (cad ic))]) (by decide +kernel) hl (List.forall_mem_cons.mpr ⟨rfl, (fun _ h => absurd h List.not_mem_nil)⟩) (Nat.le_of_ble_eq_true rfl) rfl ?_
  intro p e s m args below meth c B hr hex hnm
  have B : kB p l s m args meth c D (kA σ s.heap.size) 1 cX0_yearly RX0 := B
  refine k_aload_n B dX0_yearly_0 rfl (by first | exact kRf_r _ | exact kRf_q _ | exact kRf_n) ?_
  refine gf_X0_18 B dX0_yearly_1 hc rfl ?_
  refine k_iconst B (v := 1) dX0_yearly_4 (by decide) ?_
  refine k_icmp_ge B 12 dX0_yearly_5 (by decide) (fun c5 => ?_) (fun c5 => ?_)
  · refine k_aload_n B dX0_yearly_12 rfl (by first | exact kRf_r _ | exact kRf_q _ | exact kRf_n) ?_
    refine gf_X0_12 B dX0_yearly_13 hc rfl ?_
    refine gf_X0_32 B dX0_yearly_16 hρ rfl ?_
    refine k_aload_n B dX0_yearly_19 rfl (by first | exact kRf_r _ | exact kRf_q _ | exact kRf_n) ?_
    refine gf_X0_18 B dX0_yearly_20 hc rfl ?_
    refine k_idiv B dX0_yearly_23 (nI_ne0 h1 h2) ?_
    refine kK.rei (y := nI (u / K.2.1)) (pk_div hu h1 h2) ?_
    refine k_iret B hr dX0_yearly_24 ?_ (by first | exact Nat.le_of_ble_eq_true rfl | omega | (simp only [kR, Value.category, kCat_q, List.map, List.sum_cons, List.sum_nil]; omega)) (by first | exact Nat.le_of_ble_eq_true rfl | omega | (simp only [kR, Value.category, kCat_q, List.map, List.sum_cons, List.sum_nil]; omega))
    exact ⟨rfl, rfl⟩
  · exact absurd (show nI 1 ≤ nI K.2.1 from (nI_leI (by omega) h2).mpr h1) c5
set_option maxRecDepth 100000 in
theorem c_X0_nitrateOfRain (hl : l.stackTraces = false) (hc : σ (cad ic) = some (cE cad rad ic K)) (h1 : K.2.2.1 < 2 ^ 31) (h2 : K.2.2.2.1 < 2 ^ 31) : kMh hX0_nitrateOfRain l D yX0_nitrateOfRain 1 0 0 [.ref (cad ic)] σ (fun v s2 => v = some (.int (nI (nitOf K.2.2.1 K.2.2.2.1))) ∧ s2 = σ) (fun _ => False) := by
  refine kM_of (L := [some (.ref (cad ic))]) (by decide +kernel) hl (List.forall_mem_cons.mpr ⟨rfl, (fun _ h => absurd h List.not_mem_nil)⟩) (Nat.le_of_ble_eq_true rfl) rfl ?_
  intro p e s m args below meth c B hr hex hnm
  have B : kB p l s m args meth c D (kA σ s.heap.size) 1 cX0_nitrateOfRain RX0 := B
  refine k_aload_n B dX0_nitrateOfRain_0 rfl (by first | exact kRf_r _ | exact kRf_q _ | exact kRf_n) ?_
  refine gf_X0_22 B dX0_nitrateOfRain_1 hc rfl ?_
  refine k_if_ne B 9 dX0_nitrateOfRain_4 (by decide) (fun c4 => ?_) (fun c4 => ?_)
  · have n0 : ¬ K.2.2.1 = 0 := fun h => c4 (by rw [h]; rfl)
    refine k_aload_n B dX0_nitrateOfRain_9 rfl (by first | exact kRf_r _ | exact kRf_q _ | exact kRf_n) ?_
    refine gf_X0_22 B dX0_nitrateOfRain_10 hc rfl ?_
    refine k_iconst B (v := 1) dX0_nitrateOfRain_13 (by decide) ?_
    refine k_icmp_eq B 24 dX0_nitrateOfRain_14 (by decide) (fun c14 => ?_) (fun c14 => ?_)
    · have n1 : K.2.2.1 = 1 := (nI_eq h1 (by omega)).mp c14
      refine k_iconst B (v := 3) dX0_nitrateOfRain_24 (by decide) ?_
      refine k_goto B 30 dX0_nitrateOfRain_25 (by decide) ?_
      refine k_iret B hr dX0_nitrateOfRain_30 ?_ (by first | exact Nat.le_of_ble_eq_true rfl | omega | (simp only [kR, Value.category, kCat_q, List.map, List.sum_cons, List.sum_nil]; omega)) (by first | exact Nat.le_of_ble_eq_true rfl | omega | (simp only [kR, Value.category, kCat_q, List.map, List.sum_cons, List.sum_nil]; omega))
      exact ⟨by rw [nitOf, if_neg n0, if_pos (Or.inl n1)]; rfl, rfl⟩
    · have n1 : ¬ K.2.2.1 = 1 := fun h => c14 (by rw [h]; rfl)
      refine k_aload_n B dX0_nitrateOfRain_17 rfl (by first | exact kRf_r _ | exact kRf_q _ | exact kRf_n) ?_
      refine gf_X0_51 B dX0_nitrateOfRain_18 hc rfl ?_
      refine k_if_le B 28 dX0_nitrateOfRain_21 (by decide) (fun c21 => ?_) (fun c21 => ?_)
      · have n2 : ¬ 0 < K.2.2.2.1 := fun h => nI_nle h h2 c21
        refine k_bipush B (v := 10) dX0_nitrateOfRain_28 (by decide) ?_
        refine k_iret B hr dX0_nitrateOfRain_30 ?_ (by first | exact Nat.le_of_ble_eq_true rfl | omega | (simp only [kR, Value.category, kCat_q, List.map, List.sum_cons, List.sum_nil]; omega)) (by first | exact Nat.le_of_ble_eq_true rfl | omega | (simp only [kR, Value.category, kCat_q, List.map, List.sum_cons, List.sum_nil]; omega))
        exact ⟨by rw [nitOf, if_neg n0, if_neg (by omega)]; rfl, rfl⟩
      · have n2 : 0 < K.2.2.2.1 := by
          rcases Nat.eq_zero_or_pos K.2.2.2.1 with h | h
          · exact absurd (by rw [h, nI_0]; exact Int32.le_refl 0) c21
          · exact h
        refine k_iconst B (v := 3) dX0_nitrateOfRain_24 (by decide) ?_
        refine k_goto B 30 dX0_nitrateOfRain_25 (by decide) ?_
        refine k_iret B hr dX0_nitrateOfRain_30 ?_ (by first | exact Nat.le_of_ble_eq_true rfl | omega | (simp only [kR, Value.category, kCat_q, List.map, List.sum_cons, List.sum_nil]; omega)) (by first | exact Nat.le_of_ble_eq_true rfl | omega | (simp only [kR, Value.category, kCat_q, List.map, List.sum_cons, List.sum_nil]; omega))
        exact ⟨by rw [nitOf, if_neg n0, if_pos (Or.inr n2)]; rfl, rfl⟩
  · have n0 : K.2.2.1 = 0 := (nI_eq h1 (by omega)).mp (by rw [nI_0]; exact c4)
    refine k_iconst B (v := 1) dX0_nitrateOfRain_7 (by decide) ?_
    refine k_iret B hr dX0_nitrateOfRain_8 ?_ (by first | exact Nat.le_of_ble_eq_true rfl | omega | (simp only [kR, Value.category, kCat_q, List.map, List.sum_cons, List.sum_nil]; omega)) (by first | exact Nat.le_of_ble_eq_true rfl | omega | (simp only [kR, Value.category, kCat_q, List.map, List.sum_cons, List.sum_nil]; omega))
    exact ⟨by rw [nitOf, if_pos n0]; rfl, rfl⟩
set_option maxRecDepth 100000 in
theorem c_X3_init (hl : l.stackTraces = false) {a : Nat} {f t u : Int32} (ha : σ a = some (.inr (3, [.int 0, .int 0, .int 0, .null]))) : kMh hX3_init l D yX3_init 1 0 0 [.ref a, .int f, .int t, .int u] σ (fun v s2 => v = none ∧ s2 = kUp σ a (.inr (3, [.int f, .int t, .int u, .null]))) (fun _ => False) := by
  refine kM_of (L := [some (.ref a), some (.int f), some (.int t), some (.int u)]) (by decide +kernel) hl (List.forall_mem_cons.mpr ⟨rfl, (List.forall_mem_cons.mpr ⟨rfl, (List.forall_mem_cons.mpr ⟨rfl, (List.forall_mem_cons.mpr ⟨rfl, (fun _ h => absurd h List.not_mem_nil)⟩)⟩)⟩)⟩) (Nat.le_of_ble_eq_true rfl) rfl ?_
  intro p e s m args below meth c B hr hex hnm
  have B : kB p l s m args meth c D (kA σ s.heap.size) 4 cX3_init RX3 := B
  have hini : meth.name = "<init>" := hnm
  refine k_aload_n B dX3_init_0 rfl (by first | exact kRf_r _ | exact kRf_q _ | exact kRf_n) ?_
  refine ob_X3_1 B dX3_init_1 (by first | exact Nat.le_of_ble_eq_true rfl | omega | (simp only [kR, Value.category, kCat_q, List.map, List.sum_cons, List.sum_nil]; omega)) (by first | exact Nat.le_of_ble_eq_true rfl | omega | (simp only [kR, Value.category, kCat_q, List.map, List.sum_cons, List.sum_nil]; omega)) ?_
  refine k_aload_n B dX3_init_4 rfl (by first | exact kRf_r _ | exact kRf_q _ | exact kRf_n) ?_
  refine k_iload_n B dX3_init_5 rfl ?_
  refine pf_X3_7 B hini dX3_init_6 ha rfl ?_
  refine k_aload_n B dX3_init_9 rfl (by first | exact kRf_r _ | exact kRf_q _ | exact kRf_n) ?_
  refine k_iload_n B dX3_init_10 rfl ?_
  refine pf_X3_13 B hini dX3_init_11 kUp_eq rfl ?_
  refine k_aload_n B dX3_init_14 rfl (by first | exact kRf_r _ | exact kRf_q _ | exact kRf_n) ?_
  refine k_iload_n B dX3_init_15 rfl ?_
  refine pf_X3_16 B hini dX3_init_16 kUp_eq rfl ?_
  refine k_vret B hr dX3_init_19 ?_ (by first | exact Nat.le_of_ble_eq_true rfl | omega | (simp only [kR, Value.category, kCat_q, List.map, List.sum_cons, List.sum_nil]; omega)) (by first | exact Nat.le_of_ble_eq_true rfl | omega | (simp only [kR, Value.category, kCat_q, List.map, List.sum_cons, List.sum_nil]; omega))
  exact ⟨rfl, by rw [kUp_uu, kUp_uu]; rfl⟩
set_option maxRecDepth 100000 in
theorem c_X4_init (hl : l.stackTraces = false) {a : Nat} : kMh hX4_init l D yX4_init 1 0 0 [.ref a] σ (fun v s2 => v = none ∧ s2 = σ) (fun _ => False) := by
  refine kM_of (L := [some (.ref a)]) (by decide +kernel) hl (List.forall_mem_cons.mpr ⟨rfl, (fun _ h => absurd h List.not_mem_nil)⟩) (Nat.le_of_ble_eq_true rfl) rfl ?_
  intro p e s m args below meth c B hr hex hnm
  have B : kB p l s m args meth c D (kA σ s.heap.size) 1 cX4_init RX4 := B
  have hini : meth.name = "<init>" := hnm
  refine k_aload_n B dX4_init_0 rfl (by first | exact kRf_r _ | exact kRf_q _ | exact kRf_n) ?_
  refine ob_X4_1 B dX4_init_1 (by first | exact Nat.le_of_ble_eq_true rfl | omega | (simp only [kR, Value.category, kCat_q, List.map, List.sum_cons, List.sum_nil]; omega)) (by first | exact Nat.le_of_ble_eq_true rfl | omega | (simp only [kR, Value.category, kCat_q, List.map, List.sum_cons, List.sum_nil]; omega)) ?_
  refine k_vret B hr dX4_init_4 ?_ (by first | exact Nat.le_of_ble_eq_true rfl | omega | (simp only [kR, Value.category, kCat_q, List.map, List.sum_cons, List.sum_nil]; omega)) (by first | exact Nat.le_of_ble_eq_true rfl | omega | (simp only [kR, Value.category, kCat_q, List.map, List.sum_cons, List.sum_nil]; omega))
  exact ⟨rfl, rfl⟩
set_option maxRecDepth 100000 in
theorem c_X7_init (hl : l.stackTraces = false) {a : Nat} : kMh hX7_init l D yX7_init 1 0 0 [.ref a] σ (fun v s2 => v = none ∧ s2 = σ) (fun _ => False) := by
  refine kM_of (L := [some (.ref a)]) (by decide +kernel) hl (List.forall_mem_cons.mpr ⟨rfl, (fun _ h => absurd h List.not_mem_nil)⟩) (Nat.le_of_ble_eq_true rfl) rfl ?_
  intro p e s m args below meth c B hr hex hnm
  have B : kB p l s m args meth c D (kA σ s.heap.size) 1 cX7_init RX7 := B
  have hini : meth.name = "<init>" := hnm
  refine k_aload_n B dX7_init_0 rfl (by first | exact kRf_r _ | exact kRf_q _ | exact kRf_n) ?_
  refine ob_X7_1 B dX7_init_1 (by first | exact Nat.le_of_ble_eq_true rfl | omega | (simp only [kR, Value.category, kCat_q, List.map, List.sum_cons, List.sum_nil]; omega)) (by first | exact Nat.le_of_ble_eq_true rfl | omega | (simp only [kR, Value.category, kCat_q, List.map, List.sum_cons, List.sum_nil]; omega)) ?_
  refine k_vret B hr dX7_init_4 ?_ (by first | exact Nat.le_of_ble_eq_true rfl | omega | (simp only [kR, Value.category, kCat_q, List.map, List.sum_cons, List.sum_nil]; omega)) (by first | exact Nat.le_of_ble_eq_true rfl | omega | (simp only [kR, Value.category, kCat_q, List.map, List.sum_cons, List.sum_nil]; omega))
  exact ⟨rfl, rfl⟩
set_option maxRecDepth 100000 in
theorem c_X8_init (hl : l.stackTraces = false) {a b : Nat} {u : Int32} (ha : σ a = some (.inr (8, [.null, .int 0, .int 0]))) : kMh hX8_init l D yX8_init 1 0 0 [.ref a, .ref b, .int u] σ (fun v s2 => v = none ∧ s2 = kUp σ a (.inr (8, [.ref b, .int u, .int 0]))) (fun _ => False) := by
  refine kM_of (L := [some (.ref a), some (.ref b), some (.int u)]) (by decide +kernel) hl (List.forall_mem_cons.mpr ⟨rfl, (List.forall_mem_cons.mpr ⟨rfl, (List.forall_mem_cons.mpr ⟨rfl, (fun _ h => absurd h List.not_mem_nil)⟩)⟩)⟩) (Nat.le_of_ble_eq_true rfl) rfl ?_
  intro p e s m args below meth c B hr hex hnm
  have B : kB p l s m args meth c D (kA σ s.heap.size) 3 cX8_init RX8 := B
  have hini : meth.name = "<init>" := hnm
  refine k_aload_n B dX8_init_0 rfl (by first | exact kRf_r _ | exact kRf_q _ | exact kRf_n) ?_
  refine ob_X8_1 B dX8_init_1 (by first | exact Nat.le_of_ble_eq_true rfl | omega | (simp only [kR, Value.category, kCat_q, List.map, List.sum_cons, List.sum_nil]; omega)) (by first | exact Nat.le_of_ble_eq_true rfl | omega | (simp only [kR, Value.category, kCat_q, List.map, List.sum_cons, List.sum_nil]; omega)) ?_
  refine k_aload_n B dX8_init_4 rfl (by first | exact kRf_r _ | exact kRf_q _ | exact kRf_n) ?_
  refine k_aload_n B dX8_init_5 rfl (by first | exact kRf_r _ | exact kRf_q _ | exact kRf_n) ?_
  refine pf_X8_7 B hini dX8_init_6 ha rfl (by first | exact kRf_r _ | exact kRf_q _ | exact kRf_n) ?_
  refine k_aload_n B dX8_init_9 rfl (by first | exact kRf_r _ | exact kRf_q _ | exact kRf_n) ?_
  refine k_iload_n B dX8_init_10 rfl ?_
  refine pf_X8_13 B hini dX8_init_11 kUp_eq rfl ?_
  refine k_vret B hr dX8_init_14 ?_ (by first | exact Nat.le_of_ble_eq_true rfl | omega | (simp only [kR, Value.category, kCat_q, List.map, List.sum_cons, List.sum_nil]; omega)) (by first | exact Nat.le_of_ble_eq_true rfl | omega | (simp only [kR, Value.category, kCat_q, List.map, List.sum_cons, List.sum_nil]; omega))
  exact ⟨rfl, by rw [kUp_uu]; rfl⟩
set_option maxRecDepth 100000 in
theorem c_X0_init (hl : l.stackTraces = false) {a i : Nat} {r : Option Nat} (ha : σ a = some (.inr (0, [.int 0, .null, .null, .int 0, .int 0, .int 0, .int 0, .int 0]))) : kMh hX0_init l D yX0_init 2 1 3 [.ref a, .int (nI i), va_rf r] σ (fun v s2 => ∃ b, v = none ∧ σ b = none ∧ s2 = kUp (kUp σ b (rowE 0 none none)) a (.inr (0, [.int (nI i), .ref b, va_rf r, .int 5, .int 0, .int 0, .int 0, .int 0]))) (fun _ => False) := by
  refine kM_of (L := [some (.ref a), some (.int (nI i)), some (va_rf r)]) (by decide +kernel) hl (List.forall_mem_cons.mpr ⟨rfl, (List.forall_mem_cons.mpr ⟨rfl, (List.forall_mem_cons.mpr ⟨kCat_q _, (fun _ h => absurd h List.not_mem_nil)⟩)⟩)⟩) (Nat.le_of_ble_eq_true rfl) rfl ?_
  intro p e s m args below meth c B hr hex hnm
  have B : kB p l s m args meth c D (kA σ s.heap.size) 3 cX0_init RX0 := B
  have hini : meth.name = "<init>" := hnm
  refine k_aload_n B dX0_init_0 rfl (by first | exact kRf_r _ | exact kRf_q _ | exact kRf_n) ?_
  refine ob_X0_3 B dX0_init_1 (by first | exact Nat.le_of_ble_eq_true rfl | omega | (simp only [kR, Value.category, kCat_q, List.map, List.sum_cons, List.sum_nil]; omega)) (by first | exact Nat.le_of_ble_eq_true rfl | omega | (simp only [kR, Value.category, kCat_q, List.map, List.sum_cons, List.sum_nil]; omega)) ?_
  refine k_aload_n B dX0_init_4 rfl (by first | exact kRf_r _ | exact kRf_q _ | exact kRf_n) ?_
  refine nw_X0_9 B dX0_init_5 (by first | exact Nat.le_of_ble_eq_true rfl | omega | (simp only [kR, Value.category, kCat_q, List.map, List.sum_cons, List.sum_nil]; omega)) (by first | exact Nat.le_of_ble_eq_true rfl | omega | (simp only [kR, Value.category, kCat_q, List.map, List.sum_cons, List.sum_nil]; omega)) (fun q5 hq5 => ?_)
  have hba : a ≠ q5 := kNeN ha hq5
  refine k_dup B dX0_init_8 rfl ?_
  refine cl_X0_11 B (c_X6_init hl) dX0_init_9 (by first | exact Nat.le_of_ble_eq_true rfl | omega | (simp only [kR, Value.category, kCat_q, List.map, List.sum_cons, List.sum_nil]; omega)) (by first | exact Nat.le_of_ble_eq_true rfl | omega | (simp only [kR, Value.category, kCat_q, List.map, List.sum_cons, List.sum_nil]; omega)) (by first | exact Nat.le_of_ble_eq_true rfl | omega | (simp only [kR, Value.category, kCat_q, List.map, List.sum_cons, List.sum_nil]; omega)) (by first | exact Nat.le_of_ble_eq_true rfl | omega | (simp only [kR, Value.category, kCat_q, List.map, List.sum_cons, List.sum_nil]; omega)) (by first | exact Nat.le_of_ble_eq_true rfl | omega | (simp only [kR, Value.category, kCat_q, List.map, List.sum_cons, List.sum_nil]; omega)) (fun _ hx => hx.elim) (fun v9 s9 hp9 => ?_)
  obtain ⟨rfl, rfl⟩ := hp9
  have ha2 := kUp_o (e := .inr (6, [.int 0, .null, .null])) hba ha
  refine pf_X0_12 B hini dX0_init_12 ha2 rfl (by first | exact kRf_r _ | exact kRf_q _ | exact kRf_n) ?_
  refine k_aload_n B dX0_init_15 rfl (by first | exact kRf_r _ | exact kRf_q _ | exact kRf_n) ?_
  refine k_iconst B (v := 5) dX0_init_16 (by decide) ?_
  refine pf_X0_18 B dX0_init_17 kUp_eq rfl ?_
  refine k_aload_n B dX0_init_20 rfl (by first | exact kRf_r _ | exact kRf_q _ | exact kRf_n) ?_
  refine k_iconst B (v := 0) dX0_init_21 (by decide) ?_
  refine pf_X0_22 B dX0_init_22 kUp_eq rfl ?_
  refine k_aload_n B dX0_init_25 rfl (by first | exact kRf_r _ | exact kRf_q _ | exact kRf_n) ?_
  refine k_iload_n B dX0_init_26 rfl ?_
  refine pf_X0_25 B hini dX0_init_27 kUp_eq rfl ?_
  refine k_aload_n B dX0_init_30 rfl (by first | exact kRf_r _ | exact kRf_q _ | exact kRf_n) ?_
  refine k_aload_n B dX0_init_31 rfl (by first | exact kRf_r _ | exact kRf_q _ | exact kRf_n) ?_
  refine pf_X0_28 B dX0_init_32 kUp_eq rfl (by first | exact kRf_r _ | exact kRf_q _ | exact kRf_n) ?_
  refine k_vret B hr dX0_init_35 ?_ (by first | exact Nat.le_of_ble_eq_true rfl | omega | (simp only [kR, Value.category, kCat_q, List.map, List.sum_cons, List.sum_nil]; omega)) (by first | exact Nat.le_of_ble_eq_true rfl | omega | (simp only [kR, Value.category, kCat_q, List.map, List.sum_cons, List.sum_nil]; omega))
  exact ⟨q5, rfl, hq5, by rw [kUp_uu, kUp_uu, kUp_uu, kUp_uu]; rfl⟩
set_option maxRecDepth 100000 in
theorem c_X0_catchRain (hl : l.stackTraces = false) {u y rain : Nat} {L : kPs} (hc : σ (cad ic) = some (cE cad rad ic K)) (hρ : σ (rad ic) = some (rowE (nI u) (hdA L) (lsA L))) (hL : pCh σ L) (hn : (adr L).Nodup) (h1 : K.2.2.1 < 2 ^ 31) (h2 : K.2.2.2.1 < 2 ^ 31) : kMh hX0_catchRain l D yX0_catchRain 3 1 6 [.ref (cad ic), .int (nI y), .int (nI rain)] σ (fun v s2 => ∃ q : Nat, v = none ∧ σ q = none ∧ s2 (cad ic) = some (cE cad rad ic (K.1, K.2.1, K.2.2.1, K.2.2.2.1, K.2.2.2.2.1, 0)) ∧ s2 (rad ic) = some (rowE (nI (u + rain)) (hdA (L ++ [(q, (ic, y, nitOf K.2.2.1 K.2.2.2.1, K.2.2.2.2.2, rain))])) (lsA (L ++ [(q, (ic, y, nitOf K.2.2.1 K.2.2.2.1, K.2.2.2.2.2, rain))]))) ∧ pCh s2 (L ++ [(q, (ic, y, nitOf K.2.2.1 K.2.2.2.1, K.2.2.2.2.2, rain))]) ∧ kOut (fun b => b = cad ic ∨ b = rad ic ∨ b ∈ adr L) σ s2 ∧ kFr (fun k => k = 0 ∨ k56 k) σ s2) (fun _ => False) := by
  refine kM_of (L := [some (.ref (cad ic)), some (.int (nI y)), some (.int (nI rain))]) (by decide +kernel) hl (List.forall_mem_cons.mpr ⟨rfl, (List.forall_mem_cons.mpr ⟨rfl, (List.forall_mem_cons.mpr ⟨rfl, (fun _ h => absurd h List.not_mem_nil)⟩)⟩)⟩) (Nat.le_of_ble_eq_true rfl) rfl ?_
  intro p e s m args below meth c B hr hex hnm
  have B : kB p l s m args meth c D (kA σ s.heap.size) 3 cX0_catchRain RX0 := B
  refine k_aload_n B dX0_catchRain_0 rfl (by first | exact kRf_r _ | exact kRf_q _ | exact kRf_n) ?_
  refine gf_X0_12 B dX0_catchRain_1 hc rfl ?_
  refine nw_X0_35 B dX0_catchRain_4 (by first | exact Nat.le_of_ble_eq_true rfl | omega | (simp only [kR, Value.category, kCat_q, List.map, List.sum_cons, List.sum_nil]; omega)) (by first | exact Nat.le_of_ble_eq_true rfl | omega | (simp only [kR, Value.category, kCat_q, List.map, List.sum_cons, List.sum_nil]; omega)) (fun q4 hq4 => ?_)
  have hq1 : ∀ b x, σ b = some x → b ≠ q4 := fun b x hb => kNeN hb hq4
  have hc2 := kUp_o (e := .inr (5, [.int 0, .int 0, .int 0, .int 0, .int 0, .null])) (hq1 _ _ hc) hc
  refine k_dup B dX0_catchRain_7 rfl ?_
  refine k_aload_n B dX0_catchRain_8 rfl (by first | exact kRf_r _ | exact kRf_q _ | exact kRf_n) ?_
  refine gf_X0_25 B dX0_catchRain_9 hc2 rfl ?_
  refine k_iload_n B dX0_catchRain_12 rfl ?_
  refine k_aload_n B dX0_catchRain_13 rfl (by first | exact kRf_r _ | exact kRf_q _ | exact kRf_n) ?_
  refine cl_X0_37 B (c_X0_nitrateOfRain hl hc2 h1 h2) hc2 dX0_catchRain_14 (by first | exact Nat.le_of_ble_eq_true rfl | omega | (simp only [kR, Value.category, kCat_q, List.map, List.sum_cons, List.sum_nil]; omega)) (by first | exact Nat.le_of_ble_eq_true rfl | omega | (simp only [kR, Value.category, kCat_q, List.map, List.sum_cons, List.sum_nil]; omega)) (by first | exact Nat.le_of_ble_eq_true rfl | omega | (simp only [kR, Value.category, kCat_q, List.map, List.sum_cons, List.sum_nil]; omega)) (by first | exact Nat.le_of_ble_eq_true rfl | omega | (simp only [kR, Value.category, kCat_q, List.map, List.sum_cons, List.sum_nil]; omega)) (by first | exact Nat.le_of_ble_eq_true rfl | omega | (simp only [kR, Value.category, kCat_q, List.map, List.sum_cons, List.sum_nil]; omega)) (fun _ hx => hx.elim) (fun v14 s14 hp14 => ?_)
  obtain ⟨rfl, rfl⟩ := hp14
  refine kK.rev (y := .int (nI (nitOf K.2.2.1 K.2.2.2.1))) rfl ?_
  refine k_aload_n B dX0_catchRain_17 rfl (by first | exact kRf_r _ | exact kRf_q _ | exact kRf_n) ?_
  refine gf_X0_41 B dX0_catchRain_18 hc2 rfl ?_
  refine k_iload_n B dX0_catchRain_21 rfl ?_
  refine cl_X0_44 B (c_X5_init hl kUp_eq) dX0_catchRain_22 (by first | exact Nat.le_of_ble_eq_true rfl | omega | (simp only [kR, Value.category, kCat_q, List.map, List.sum_cons, List.sum_nil]; omega)) (by first | exact Nat.le_of_ble_eq_true rfl | omega | (simp only [kR, Value.category, kCat_q, List.map, List.sum_cons, List.sum_nil]; omega)) (by first | exact Nat.le_of_ble_eq_true rfl | omega | (simp only [kR, Value.category, kCat_q, List.map, List.sum_cons, List.sum_nil]; omega)) (by first | exact Nat.le_of_ble_eq_true rfl | omega | (simp only [kR, Value.category, kCat_q, List.map, List.sum_cons, List.sum_nil]; omega)) (by first | exact Nat.le_of_ble_eq_true rfl | omega | (simp only [kR, Value.category, kCat_q, List.map, List.sum_cons, List.sum_nil]; omega)) (fun _ hx => hx.elim) (fun v22 s22 hp22 => ?_)
  obtain ⟨rfl, rfl⟩ := hp22
  refine kK.eq (σ2 := kUp σ q4 (pE (ic, y, nitOf K.2.2.1 K.2.2.2.1, K.2.2.2.2.2, rain) none)) (by rw [kUp_uu]; rfl) ?_
  have hρ2 := kUp_o (e := pE (ic, y, nitOf K.2.2.1 K.2.2.2.1, K.2.2.2.2.2, rain) none) (hq1 _ _ hρ) hρ
  have hL2 : pCh (kUp σ q4 (pE (ic, y, nitOf K.2.2.1 K.2.2.2.1, K.2.2.2.2.2, rain) none)) L := pCh_keep hL (fun a _ x hx => kUp_o (hq1 _ _ hx) hx)
  refine cl_X0_47 B (c_X6_append hl (T := [(q4, (ic, y, nitOf K.2.2.1 K.2.2.2.1, K.2.2.2.2.2, rain))]) hρ2 hL2 ⟨kUp_eq, trivial⟩ hn (fun a ha h => by
    have h3 : a = q4 := by simpa [adr] using h
    obtain ⟨p1, y1, h4⟩ := pSeg_adr (pCh_iff.mp hL) ha
    exact hq1 _ _ h4 h3)) hρ2 dX0_catchRain_25 (by first | exact Nat.le_of_ble_eq_true rfl | omega | (simp only [kR, Value.category, kCat_q, List.map, List.sum_cons, List.sum_nil]; omega)) (by first | exact Nat.le_of_ble_eq_true rfl | omega | (simp only [kR, Value.category, kCat_q, List.map, List.sum_cons, List.sum_nil]; omega)) (by first | exact Nat.le_of_ble_eq_true rfl | omega | (simp only [kR, Value.category, kCat_q, List.map, List.sum_cons, List.sum_nil]; omega)) (by first | exact Nat.le_of_ble_eq_true rfl | omega | (simp only [kR, Value.category, kCat_q, List.map, List.sum_cons, List.sum_nil]; omega)) (by first | exact Nat.le_of_ble_eq_true rfl | omega | (simp only [kR, Value.category, kCat_q, List.map, List.sum_cons, List.sum_nil]; omega)) (fun _ hx => hx.elim) (fun v25 s25 hp25 => ?_)
  obtain ⟨rfl, g1, g2, g3, g4⟩ := hp25
  have hcρ : cad ic ≠ rad ic := kNe hc hρ (by decide)
  have hcL : cad ic ∉ adr L := fun h => by
    obtain ⟨p1, y1, h4⟩ := pSeg_adr (pCh_iff.mp hL) h
    rw [hc] at h4
    cases h4
  have hc3 := g3 _ _ (kUp_o (e := pE (ic, y, nitOf K.2.2.1 K.2.2.2.1, K.2.2.2.2.2, rain) none) (hq1 _ _ hc) hc) (fun h => h.elim hcρ hcL)
  refine k_aload_n B dX0_catchRain_28 rfl (by first | exact kRf_r _ | exact kRf_q _ | exact kRf_n) ?_
  refine k_iconst B (v := 0) dX0_catchRain_29 (by decide) ?_
  refine pf_X0_41 B dX0_catchRain_30 hc3 rfl ?_
  refine k_vret B hr dX0_catchRain_33 ?_ (by first | exact Nat.le_of_ble_eq_true rfl | omega | (simp only [kR, Value.category, kCat_q, List.map, List.sum_cons, List.sum_nil]; omega)) (by first | exact Nat.le_of_ble_eq_true rfl | omega | (simp only [kR, Value.category, kCat_q, List.map, List.sum_cons, List.sum_nil]; omega))
  refine ⟨q4, rfl, hq4, kUp_eq, kUp_o (Ne.symm hcρ) g1, pCh_keep g2 (fun a ha x hx => kUp_o (fun h => ?_) hx), ?_, ?_⟩
  · subst h
    obtain ⟨p1, y1, h4⟩ := pSeg_adr (pCh_iff.mp g2) ha
    rw [hc3] at h4
    cases h4
  · exact ((kOut.new hq4).tr (g3.mono (fun k hk => Or.inr hk))).tr (kOut.up (Or.inl rfl))
  · exact ((kFr.new hq4).tr (g4.mono (fun k hk => Or.inr hk))).tr (kFr.up hc3 (Or.inl rfl))
/-! lots -/
variable {a w b ρ u : Nat} {tr lb tru rc : Int32} {L : kPs} {z : Option Nat}
set_option maxRecDepth 100000 in
theorem c_X2_leastAge (hl : l.stackTraces = false) (ha : σ a = some (lotE w b ρ tr lb tru rc)) (hρ : σ ρ = some (rowE (nI u) (hdA L) z)) (hc : pCh σ L) (hy : ∀ q ∈ L, q.2.2.1 < 2 ^ 31) : kMh hX2_leastAge l D yX2_leastAge 3 0 0 [.ref a] σ (fun v s2 => v = some (.int (nI b - yoI (kCon L))) ∧ s2 = σ) (fun _ => False) := by
  refine kM_of (L := [some (.ref a)]) (by decide +kernel) hl (List.forall_mem_cons.mpr ⟨rfl, (fun _ h => absurd h List.not_mem_nil)⟩) (Nat.le_of_ble_eq_true rfl) rfl ?_
  intro p e s m args below meth c B hr hex hnm
  have B : kB p l s m args meth c D (kA σ s.heap.size) 1 cX2_leastAge RX2 := B
  refine k_aload_n B dX2_leastAge_0 rfl (by first | exact kRf_r _ | exact kRf_q _ | exact kRf_n) ?_
  refine gf_X2_25 B dX2_leastAge_1 ha rfl ?_
  refine k_aload_n B dX2_leastAge_4 rfl (by first | exact kRf_r _ | exact kRf_q _ | exact kRf_n) ?_
  refine gf_X2_12 B dX2_leastAge_5 ha rfl ?_
  refine cl_X2_32 B (c_X6_youngest hl hρ hc hy) hρ dX2_leastAge_8 (by first | exact Nat.le_of_ble_eq_true rfl | omega | (simp only [kR, Value.category, kCat_q, List.map, List.sum_cons, List.sum_nil]; omega)) (by first | exact Nat.le_of_ble_eq_true rfl | omega | (simp only [kR, Value.category, kCat_q, List.map, List.sum_cons, List.sum_nil]; omega)) (by first | exact Nat.le_of_ble_eq_true rfl | omega | (simp only [kR, Value.category, kCat_q, List.map, List.sum_cons, List.sum_nil]; omega)) (by first | exact Nat.le_of_ble_eq_true rfl | omega | (simp only [kR, Value.category, kCat_q, List.map, List.sum_cons, List.sum_nil]; omega)) (by first | exact Nat.le_of_ble_eq_true rfl | omega | (simp only [kR, Value.category, kCat_q, List.map, List.sum_cons, List.sum_nil]; omega)) (fun _ hx => hx.elim) (fun v8 s8 hp8 => ?_)
  obtain ⟨rfl, rfl⟩ := hp8
  refine kK.rev (y := .int (yoI (kCon L))) (by cases L <;> rfl) ?_
  refine k_isub B dX2_leastAge_11 ?_
  refine k_iret B hr dX2_leastAge_12 ?_ (by first | exact Nat.le_of_ble_eq_true rfl | omega | (simp only [kR, Value.category, kCat_q, List.map, List.sum_cons, List.sum_nil]; omega)) (by first | exact Nat.le_of_ble_eq_true rfl | omega | (simp only [kR, Value.category, kCat_q, List.map, List.sum_cons, List.sum_nil]; omega))
  exact ⟨rfl, rfl⟩
set_option maxRecDepth 100000 in
theorem c_X2_greatestAge (hl : l.stackTraces = false) (ha : σ a = some (lotE w b ρ tr lb tru rc)) (hρ : σ ρ = some (rowE (nI u) (hdA L) z)) (hc : pCh σ L) (hy : ∀ q ∈ L, q.2.2.1 < 2 ^ 31) : kMh hX2_greatestAge l D yX2_greatestAge 3 0 0 [.ref a] σ (fun v s2 => v = some (.int (nI b - olI (kCon L))) ∧ s2 = σ) (fun _ => False) := by
  refine kM_of (L := [some (.ref a)]) (by decide +kernel) hl (List.forall_mem_cons.mpr ⟨rfl, (fun _ h => absurd h List.not_mem_nil)⟩) (Nat.le_of_ble_eq_true rfl) rfl ?_
  intro p e s m args below meth c B hr hex hnm
  have B : kB p l s m args meth c D (kA σ s.heap.size) 1 cX2_greatestAge RX2 := B
  refine k_aload_n B dX2_greatestAge_0 rfl (by first | exact kRf_r _ | exact kRf_q _ | exact kRf_n) ?_
  refine gf_X2_25 B dX2_greatestAge_1 ha rfl ?_
  refine k_aload_n B dX2_greatestAge_4 rfl (by first | exact kRf_r _ | exact kRf_q _ | exact kRf_n) ?_
  refine gf_X2_12 B dX2_greatestAge_5 ha rfl ?_
  refine cl_X2_36 B (c_X6_oldest hl hρ hc hy) hρ dX2_greatestAge_8 (by first | exact Nat.le_of_ble_eq_true rfl | omega | (simp only [kR, Value.category, kCat_q, List.map, List.sum_cons, List.sum_nil]; omega)) (by first | exact Nat.le_of_ble_eq_true rfl | omega | (simp only [kR, Value.category, kCat_q, List.map, List.sum_cons, List.sum_nil]; omega)) (by first | exact Nat.le_of_ble_eq_true rfl | omega | (simp only [kR, Value.category, kCat_q, List.map, List.sum_cons, List.sum_nil]; omega)) (by first | exact Nat.le_of_ble_eq_true rfl | omega | (simp only [kR, Value.category, kCat_q, List.map, List.sum_cons, List.sum_nil]; omega)) (by first | exact Nat.le_of_ble_eq_true rfl | omega | (simp only [kR, Value.category, kCat_q, List.map, List.sum_cons, List.sum_nil]; omega)) (fun _ hx => hx.elim) (fun v8 s8 hp8 => ?_)
  obtain ⟨rfl, rfl⟩ := hp8
  refine kK.rev (y := .int (olI (kCon L))) (by cases L <;> rfl) ?_
  refine k_isub B dX2_greatestAge_11 ?_
  refine k_iret B hr dX2_greatestAge_12 ?_ (by first | exact Nat.le_of_ble_eq_true rfl | omega | (simp only [kR, Value.category, kCat_q, List.map, List.sum_cons, List.sum_nil]; omega)) (by first | exact Nat.le_of_ble_eq_true rfl | omega | (simp only [kR, Value.category, kCat_q, List.map, List.sum_cons, List.sum_nil]; omega))
  exact ⟨rfl, rfl⟩
set_option maxRecDepth 100000 in
theorem c_X2_truth (hl : l.stackTraces = false) (ha : σ a = some (lotE w b ρ tr lb tru rc)) : kMh hX2_truth l D yX2_truth 1 0 0 [.ref a] σ (fun v s2 => v = some (.int (truI lb tru)) ∧ s2 = σ) (fun _ => False) := by
  refine kM_of (L := [some (.ref a)]) (by decide +kernel) hl (List.forall_mem_cons.mpr ⟨rfl, (fun _ h => absurd h List.not_mem_nil)⟩) (Nat.le_of_ble_eq_true rfl) rfl ?_
  intro p e s m args below meth c B hr hex hnm
  have B : kB p l s m args meth c D (kA σ s.heap.size) 1 cX2_truth RX2 := B
  refine k_aload_n B dX2_truth_0 rfl (by first | exact kRf_r _ | exact kRf_q _ | exact kRf_n) ?_
  refine gf_X2_18 B dX2_truth_1 ha rfl ?_
  refine k_iconst B (v := (-1)) dX2_truth_4 (by decide) ?_
  refine k_icmp_ne B 10 dX2_truth_5 (by decide) (fun c5 => ?_) (fun c5 => ?_)
  · refine k_aload_n B dX2_truth_10 rfl (by first | exact kRf_r _ | exact kRf_q _ | exact kRf_n) ?_
    refine gf_X2_46 B dX2_truth_11 ha rfl ?_
    refine k_if_eq B 21 dX2_truth_14 (by decide) (fun c14 => ?_) (fun c14 => ?_)
    · refine k_iconst B (v := 0) dX2_truth_21 (by decide) ?_
      refine k_iret B hr dX2_truth_22 ?_ (by first | exact Nat.le_of_ble_eq_true rfl | omega | (simp only [kR, Value.category, kCat_q, List.map, List.sum_cons, List.sum_nil]; omega)) (by first | exact Nat.le_of_ble_eq_true rfl | omega | (simp only [kR, Value.category, kCat_q, List.map, List.sum_cons, List.sum_nil]; omega))
      exact ⟨by rw [truI, if_neg c5, if_pos c14], rfl⟩
    · refine k_iconst B (v := 1) dX2_truth_17 (by decide) ?_
      refine k_goto B 22 dX2_truth_18 (by decide) ?_
      refine k_iret B hr dX2_truth_22 ?_ (by first | exact Nat.le_of_ble_eq_true rfl | omega | (simp only [kR, Value.category, kCat_q, List.map, List.sum_cons, List.sum_nil]; omega)) (by first | exact Nat.le_of_ble_eq_true rfl | omega | (simp only [kR, Value.category, kCat_q, List.map, List.sum_cons, List.sum_nil]; omega))
      exact ⟨by rw [truI, if_neg c5, if_neg c14], rfl⟩
  · refine k_iconst B (v := (-1)) dX2_truth_8 (by decide) ?_
    refine k_iret B hr dX2_truth_9 ?_ (by first | exact Nat.le_of_ble_eq_true rfl | omega | (simp only [kR, Value.category, kCat_q, List.map, List.sum_cons, List.sum_nil]; omega)) (by first | exact Nat.le_of_ble_eq_true rfl | omega | (simp only [kR, Value.category, kCat_q, List.map, List.sum_cons, List.sum_nil]; omega))
    exact ⟨by rw [truI, if_pos c5], rfl⟩
set_option maxRecDepth 100000 in
theorem c_X2_hasAtMost (hl : l.stackTraces = false) {li : Int32} {nf : Nat} (ha : σ a = some (lotE w b ρ tr lb tru rc)) (hρ : σ ρ = some (rowE (nI u) (hdA L) z)) (hc : pCh σ L) (hu : u = unS (kCon L)) (h1 : niS (kCon L) < 2 ^ 31) (h2 : nf * u < 2 ^ 31) : kMh hX2_hasAtMost l D yX2_hasAtMost 2 0 0 [.ref a, .int li, .int (nI nf)] σ (fun v s2 => v = some (.int (bI (hamB tr li nf (kCon L)))) ∧ s2 = σ) (fun _ => False) := by
  refine kM_of (L := [some (.ref a), some (.int li), some (.int (nI nf))]) (by decide +kernel) hl (List.forall_mem_cons.mpr ⟨rfl, (List.forall_mem_cons.mpr ⟨rfl, (List.forall_mem_cons.mpr ⟨rfl, (fun _ h => absurd h List.not_mem_nil)⟩)⟩)⟩) (Nat.le_of_ble_eq_true rfl) rfl ?_
  intro p e s m args below meth c B hr hex hnm
  have B : kB p l s m args meth c D (kA σ s.heap.size) 3 cX2_hasAtMost RX2 := B
  refine k_aload_n B dX2_hasAtMost_0 rfl (by first | exact kRf_r _ | exact kRf_q _ | exact kRf_n) ?_
  refine gf_X2_60 B dX2_hasAtMost_1 ha rfl ?_
  refine k_iload_n B dX2_hasAtMost_4 rfl ?_
  refine k_iconst B (v := (-1)) dX2_hasAtMost_5 (by decide) ?_
  refine k_ixor B dX2_hasAtMost_6 ?_
  refine k_iand B dX2_hasAtMost_7 ?_
  refine k_if_ne B 34 dX2_hasAtMost_8 (by decide) (fun c8 => ?_) (fun c8 => ?_)
  · refine k_iconst B (v := 0) dX2_hasAtMost_34 (by decide) ?_
    refine k_zret B hr dX2_hasAtMost_35 (by rfl) ?_ (by first | exact Nat.le_of_ble_eq_true rfl | omega | (simp only [kR, Value.category, kCat_q, List.map, List.sum_cons, List.sum_nil]; omega)) (by first | exact Nat.le_of_ble_eq_true rfl | omega | (simp only [kR, Value.category, kCat_q, List.map, List.sum_cons, List.sum_nil]; omega))
    exact ⟨by rw [bI_f]; rw [hamB, decide_eq_false c8]; simp, rfl⟩
  · refine k_aload_n B dX2_hasAtMost_11 rfl (by first | exact kRf_r _ | exact kRf_q _ | exact kRf_n) ?_
    refine gf_X2_12 B dX2_hasAtMost_12 ha rfl ?_
    refine cl_X2_63 B (c_X6_nitrate hl hρ hc) hρ dX2_hasAtMost_15 (by first | exact Nat.le_of_ble_eq_true rfl | omega | (simp only [kR, Value.category, kCat_q, List.map, List.sum_cons, List.sum_nil]; omega)) (by first | exact Nat.le_of_ble_eq_true rfl | omega | (simp only [kR, Value.category, kCat_q, List.map, List.sum_cons, List.sum_nil]; omega)) (by first | exact Nat.le_of_ble_eq_true rfl | omega | (simp only [kR, Value.category, kCat_q, List.map, List.sum_cons, List.sum_nil]; omega)) (by first | exact Nat.le_of_ble_eq_true rfl | omega | (simp only [kR, Value.category, kCat_q, List.map, List.sum_cons, List.sum_nil]; omega)) (by first | exact Nat.le_of_ble_eq_true rfl | omega | (simp only [kR, Value.category, kCat_q, List.map, List.sum_cons, List.sum_nil]; omega)) (fun _ hx => hx.elim) (fun v15 s15 hp15 => ?_)
    obtain ⟨rfl, rfl⟩ := hp15
    refine kK.rev (y := .int (nI (niS (kCon L)))) rfl ?_
    refine k_iload_n B dX2_hasAtMost_18 rfl ?_
    refine k_aload_n B dX2_hasAtMost_19 rfl (by first | exact kRf_r _ | exact kRf_q _ | exact kRf_n) ?_
    refine gf_X2_12 B dX2_hasAtMost_20 ha rfl ?_
    refine gf_X2_39 B dX2_hasAtMost_23 hρ rfl ?_
    refine k_imul B dX2_hasAtMost_26 ?_
    refine kK.rei (y := nI (nf * u)) (pk_mul _ _) ?_
    refine k_icmp_gt B 34 dX2_hasAtMost_27 (by decide) (fun c27 => ?_) (fun c27 => ?_)
    · have n1 : nf * u < niS (kCon L) := (nI_ltI h2 h1).mp c27
      refine k_iconst B (v := 0) dX2_hasAtMost_34 (by decide) ?_
      refine k_zret B hr dX2_hasAtMost_35 (by rfl) ?_ (by first | exact Nat.le_of_ble_eq_true rfl | omega | (simp only [kR, Value.category, kCat_q, List.map, List.sum_cons, List.sum_nil]; omega)) (by first | exact Nat.le_of_ble_eq_true rfl | omega | (simp only [kR, Value.category, kCat_q, List.map, List.sum_cons, List.sum_nil]; omega))
      exact ⟨by rw [bI_f]; rw [hamB, decide_eq_false (show ¬ niS (kCon L) ≤ nf * unS (kCon L) by rw [← hu]; omega)]; simp, rfl⟩
    · have n1 : ¬ nf * u < niS (kCon L) := fun h => c27 ((nI_ltI h2 h1).mpr h)
      refine k_iconst B (v := 1) dX2_hasAtMost_30 (by decide) ?_
      refine k_goto B 35 dX2_hasAtMost_31 (by decide) ?_
      refine k_zret B hr dX2_hasAtMost_35 (by rfl) ?_ (by first | exact Nat.le_of_ble_eq_true rfl | omega | (simp only [kR, Value.category, kCat_q, List.map, List.sum_cons, List.sum_nil]; omega)) (by first | exact Nat.le_of_ble_eq_true rfl | omega | (simp only [kR, Value.category, kCat_q, List.map, List.sum_cons, List.sum_nil]; omega))
      exact ⟨by rw [bI_t]; rw [hamB, decide_eq_true c8, decide_eq_true (show niS (kCon L) ≤ nf * unS (kCon L) by rw [← hu]; omega)]; rfl, rfl⟩
set_option maxRecDepth 100000 in
theorem c_X2_isRecalledBy (hl : l.stackTraces = false) {bit : Int32} (ha : σ a = some (lotE w b ρ tr lb tru rc)) : kMh hX2_isRecalledBy l D yX2_isRecalledBy 1 0 0 [.ref a, .int bit] σ (fun v s2 => v = some (.int (bI (rcB lb rc tr bit))) ∧ s2 = σ) (fun _ => False) := by
  refine kM_of (L := [some (.ref a), some (.int bit), none]) (by decide +kernel) hl (List.forall_mem_cons.mpr ⟨rfl, (List.forall_mem_cons.mpr ⟨rfl, (fun _ h => absurd h List.not_mem_nil)⟩)⟩) (Nat.le_of_ble_eq_true rfl) rfl ?_
  intro p e s m args below meth c B hr hex hnm
  have B : kB p l s m args meth c D (kA σ s.heap.size) 3 cX2_isRecalledBy RX2 := B
  have yes : (lb = 0 ∨ lb = 1) → ∀ Lc, Lc = [some (.ref a), some (.int bit), some (.int 1)] → kK p l e (kR 1 0 0) s m args below meth c D (kA σ s.heap.size) 3 (kQ below args s D σ (fun v s2 => v = some (.int (bI (rcB lb rc tr bit))) ∧ s2 = σ) (fun _ => False) 0 0) σ 0 0 21 Lc [] := by
    intro hlb Lc e0
    subst e0
    have hb9 : (decide (lb = 0) || decide (lb = 1)) = true := by
      rcases hlb with h | h <;> simp [h]
    refine k_iload_n B dX2_isRecalledBy_21 rfl ?_
    refine k_if_eq B 45 dX2_isRecalledBy_22 (by decide) (fun c22 => ?_) (fun c22 => ?_)
    · exact absurd c22 (by decide)
    · refine k_aload_n B dX2_isRecalledBy_25 rfl (by first | exact kRf_r _ | exact kRf_q _ | exact kRf_n) ?_
      refine gf_X2_66 B dX2_isRecalledBy_26 ha rfl ?_
      refine k_if_ne B 45 dX2_isRecalledBy_29 (by decide) (fun c29 => ?_) (fun c29 => ?_)
      · refine k_iconst B (v := 0) dX2_isRecalledBy_45 (by decide) ?_
        refine k_zret B hr dX2_isRecalledBy_46 (by rfl) ?_ (by first | exact Nat.le_of_ble_eq_true rfl | omega | (simp only [kR, Value.category, kCat_q, List.map, List.sum_cons, List.sum_nil]; omega)) (by first | exact Nat.le_of_ble_eq_true rfl | omega | (simp only [kR, Value.category, kCat_q, List.map, List.sum_cons, List.sum_nil]; omega))
        exact ⟨by rw [bI_f]; rw [rcB, hb9, decide_eq_false c29]; simp, rfl⟩
      · refine k_aload_n B dX2_isRecalledBy_32 rfl (by first | exact kRf_r _ | exact kRf_q _ | exact kRf_n) ?_
        refine gf_X2_60 B dX2_isRecalledBy_33 ha rfl ?_
        refine k_iload_n B dX2_isRecalledBy_36 rfl ?_
        refine k_iand B dX2_isRecalledBy_37 ?_
        refine k_if_eq B 45 dX2_isRecalledBy_38 (by decide) (fun c38 => ?_) (fun c38 => ?_)
        · refine k_iconst B (v := 0) dX2_isRecalledBy_45 (by decide) ?_
          refine k_zret B hr dX2_isRecalledBy_46 (by rfl) ?_ (by first | exact Nat.le_of_ble_eq_true rfl | omega | (simp only [kR, Value.category, kCat_q, List.map, List.sum_cons, List.sum_nil]; omega)) (by first | exact Nat.le_of_ble_eq_true rfl | omega | (simp only [kR, Value.category, kCat_q, List.map, List.sum_cons, List.sum_nil]; omega))
          exact ⟨by rw [bI_f]; rw [rcB, hb9, decide_eq_true c29, decide_eq_true c38]; simp, rfl⟩
        · refine k_iconst B (v := 1) dX2_isRecalledBy_41 (by decide) ?_
          refine k_goto B 46 dX2_isRecalledBy_42 (by decide) ?_
          refine k_zret B hr dX2_isRecalledBy_46 (by rfl) ?_ (by first | exact Nat.le_of_ble_eq_true rfl | omega | (simp only [kR, Value.category, kCat_q, List.map, List.sum_cons, List.sum_nil]; omega)) (by first | exact Nat.le_of_ble_eq_true rfl | omega | (simp only [kR, Value.category, kCat_q, List.map, List.sum_cons, List.sum_nil]; omega))
          exact ⟨by rw [bI_t]; rw [rcB, hb9, decide_eq_true c29, decide_eq_false c38]; rfl, rfl⟩
  refine k_aload_n B dX2_isRecalledBy_0 rfl (by first | exact kRf_r _ | exact kRf_q _ | exact kRf_n) ?_
  refine gf_X2_18 B dX2_isRecalledBy_1 ha rfl ?_
  refine k_if_eq B 15 dX2_isRecalledBy_4 (by decide) (fun c4 => ?_) (fun c4 => ?_)
  · refine k_iconst B (v := 1) dX2_isRecalledBy_15 (by decide) ?_
    refine k_goto B 20 dX2_isRecalledBy_16 (by decide) ?_
    refine k_istore_n B dX2_isRecalledBy_20 (by decide) ?_
    try refine kK.set1 (by first | exact True.intro | rfl | exact kCat_q _) ?_
    exact yes (Or.inl c4) _ rfl
  · refine k_aload_n B dX2_isRecalledBy_7 rfl (by first | exact kRf_r _ | exact kRf_q _ | exact kRf_n) ?_
    refine gf_X2_18 B dX2_isRecalledBy_8 ha rfl ?_
    refine k_iconst B (v := 1) dX2_isRecalledBy_11 (by decide) ?_
    refine k_icmp_ne B 19 dX2_isRecalledBy_12 (by decide) (fun c12 => ?_) (fun c12 => ?_)
    · refine k_iconst B (v := 0) dX2_isRecalledBy_19 (by decide) ?_
      refine k_istore_n B dX2_isRecalledBy_20 (by decide) ?_
      try refine kK.set1 (by first | exact True.intro | rfl | exact kCat_q _) ?_
      refine k_iload_n B dX2_isRecalledBy_21 rfl ?_
      refine k_if_eq B 45 dX2_isRecalledBy_22 (by decide) (fun c22 => ?_) (fun c22 => ?_)
      · refine k_iconst B (v := 0) dX2_isRecalledBy_45 (by decide) ?_
        refine k_zret B hr dX2_isRecalledBy_46 (by rfl) ?_ (by first | exact Nat.le_of_ble_eq_true rfl | omega | (simp only [kR, Value.category, kCat_q, List.map, List.sum_cons, List.sum_nil]; omega)) (by first | exact Nat.le_of_ble_eq_true rfl | omega | (simp only [kR, Value.category, kCat_q, List.map, List.sum_cons, List.sum_nil]; omega))
        exact ⟨by rw [bI_f]; rw [rcB, decide_eq_false c4, decide_eq_false c12]; simp, rfl⟩
      · exact absurd rfl c22
    · refine k_iconst B (v := 1) dX2_isRecalledBy_15 (by decide) ?_
      refine k_goto B 20 dX2_isRecalledBy_16 (by decide) ?_
      refine k_istore_n B dX2_isRecalledBy_20 (by decide) ?_
      try refine kK.set1 (by first | exact True.intro | rfl | exact kCat_q _) ?_
      exact yes (Or.inr c12) _ rfl
set_option maxRecDepth 100000 in
theorem c_X2_init (hl : l.stackTraces = false) {T : kPs} (ha : σ a = some (.inr (2, [.int 0, .int 0, .null, .int 0, .int 0, .int 0, .int 0]))) (hT : pCh σ T) : kMh hX2_init l D yX2_init 2 1 3 [.ref a, .int (nI w), .int (nI b), va_rf (hdA T)] σ (fun v s2 => ∃ r : Nat, v = none ∧ σ r = none ∧ s2 a = some (lotE w b r 0 (-1) 0 0) ∧ s2 r = some (rowE (nI (unS (kCon T))) (hdA T) (lsA T)) ∧ pCh s2 T ∧ kOut (fun x => x = a) σ s2 ∧ kFr (fun k => k = 2) σ s2) (fun _ => False) := by
  refine kM_of (L := [some (.ref a), some (.int (nI w)), some (.int (nI b)), some (va_rf (hdA T))]) (by decide +kernel) hl (List.forall_mem_cons.mpr ⟨rfl, (List.forall_mem_cons.mpr ⟨rfl, (List.forall_mem_cons.mpr ⟨rfl, (List.forall_mem_cons.mpr ⟨kCat_q _, (fun _ h => absurd h List.not_mem_nil)⟩)⟩)⟩)⟩) (Nat.le_of_ble_eq_true rfl) rfl ?_
  intro p e s m args below meth c B hr hex hnm
  have B : kB p l s m args meth c D (kA σ s.heap.size) 4 cX2_init RX2 := B
  have hini : meth.name = "<init>" := hnm
  refine k_aload_n B dX2_init_0 rfl (by first | exact kRf_r _ | exact kRf_q _ | exact kRf_n) ?_
  refine ob_X2_3 B dX2_init_1 (by first | exact Nat.le_of_ble_eq_true rfl | omega | (simp only [kR, Value.category, kCat_q, List.map, List.sum_cons, List.sum_nil]; omega)) (by first | exact Nat.le_of_ble_eq_true rfl | omega | (simp only [kR, Value.category, kCat_q, List.map, List.sum_cons, List.sum_nil]; omega)) ?_
  refine k_aload_n B dX2_init_4 rfl (by first | exact kRf_r _ | exact kRf_q _ | exact kRf_n) ?_
  refine nw_X2_9 B dX2_init_5 (by first | exact Nat.le_of_ble_eq_true rfl | omega | (simp only [kR, Value.category, kCat_q, List.map, List.sum_cons, List.sum_nil]; omega)) (by first | exact Nat.le_of_ble_eq_true rfl | omega | (simp only [kR, Value.category, kCat_q, List.map, List.sum_cons, List.sum_nil]; omega)) (fun q5 hq5 => ?_)
  have hba : a ≠ q5 := kNeN ha hq5
  refine k_dup B dX2_init_8 rfl ?_
  refine cl_X2_11 B (c_X6_init hl) dX2_init_9 (by first | exact Nat.le_of_ble_eq_true rfl | omega | (simp only [kR, Value.category, kCat_q, List.map, List.sum_cons, List.sum_nil]; omega)) (by first | exact Nat.le_of_ble_eq_true rfl | omega | (simp only [kR, Value.category, kCat_q, List.map, List.sum_cons, List.sum_nil]; omega)) (by first | exact Nat.le_of_ble_eq_true rfl | omega | (simp only [kR, Value.category, kCat_q, List.map, List.sum_cons, List.sum_nil]; omega)) (by first | exact Nat.le_of_ble_eq_true rfl | omega | (simp only [kR, Value.category, kCat_q, List.map, List.sum_cons, List.sum_nil]; omega)) (by first | exact Nat.le_of_ble_eq_true rfl | omega | (simp only [kR, Value.category, kCat_q, List.map, List.sum_cons, List.sum_nil]; omega)) (fun _ hx => hx.elim) (fun v9 s9 hp9 => ?_)
  obtain ⟨rfl, rfl⟩ := hp9
  have ha2 := kUp_o (e := .inr (6, [.int 0, .null, .null])) hba ha
  refine pf_X2_12 B hini dX2_init_12 ha2 rfl (by first | exact kRf_r _ | exact kRf_q _ | exact kRf_n) ?_
  refine k_aload_n B dX2_init_15 rfl (by first | exact kRf_r _ | exact kRf_q _ | exact kRf_n) ?_
  refine k_iconst B (v := (-1)) dX2_init_16 (by decide) ?_
  refine pf_X2_18 B dX2_init_17 kUp_eq rfl ?_
  refine k_aload_n B dX2_init_20 rfl (by first | exact kRf_r _ | exact kRf_q _ | exact kRf_n) ?_
  refine k_iload_n B dX2_init_21 rfl ?_
  refine pf_X2_22 B hini dX2_init_22 kUp_eq rfl ?_
  refine k_aload_n B dX2_init_25 rfl (by first | exact kRf_r _ | exact kRf_q _ | exact kRf_n) ?_
  refine k_iload_n B dX2_init_26 rfl ?_
  refine pf_X2_25 B hini dX2_init_27 kUp_eq rfl ?_
  refine kK.eq (σ2 := kUp (kUp σ q5 (rowE (nI 0) (hdA ([] : kPs)) (lsA ([] : kPs)))) a (lotE w b q5 0 (-1) 0 0)) (by rw [kUp_uu, kUp_uu, kUp_uu]; rfl) ?_
  have hr2 : kUp (kUp σ q5 (rowE (nI 0) (hdA ([] : kPs)) (lsA ([] : kPs)))) a (lotE w b q5 0 (-1) 0 0) q5 = some (rowE (nI 0) (hdA ([] : kPs)) (lsA ([] : kPs))) := kUp_o (Ne.symm hba) kUp_eq
  have hT2 : pCh (kUp (kUp σ q5 (rowE (nI 0) (hdA ([] : kPs)) (lsA ([] : kPs)))) a (lotE w b q5 0 (-1) 0 0)) T := pCh_keep hT (fun x hx y hy => kUp_o (fun h => by
    subst h
    obtain ⟨p1, y1, h4⟩ := pSeg_adr (pCh_iff.mp hT) hx
    rw [ha] at h4
    cases h4) (kUp_o (kNeN hy hq5) hy))
  refine k_aload_n B dX2_init_30 rfl (by first | exact kRf_r _ | exact kRf_q _ | exact kRf_n) ?_
  refine gf_X2_12 B dX2_init_31 kUp_eq rfl ?_
  refine k_aload_n B dX2_init_34 rfl (by first | exact kRf_r _ | exact kRf_q _ | exact kRf_n) ?_
  refine cl_X2_28 B (c_X6_append hl (L := []) hr2 trivial hT2 List.nodup_nil (fun _ h => by cases h)) hr2 dX2_init_35 (by first | exact Nat.le_of_ble_eq_true rfl | omega | (simp only [kR, Value.category, kCat_q, List.map, List.sum_cons, List.sum_nil]; omega)) (by first | exact Nat.le_of_ble_eq_true rfl | omega | (simp only [kR, Value.category, kCat_q, List.map, List.sum_cons, List.sum_nil]; omega)) (by first | exact Nat.le_of_ble_eq_true rfl | omega | (simp only [kR, Value.category, kCat_q, List.map, List.sum_cons, List.sum_nil]; omega)) (by first | exact Nat.le_of_ble_eq_true rfl | omega | (simp only [kR, Value.category, kCat_q, List.map, List.sum_cons, List.sum_nil]; omega)) (by first | exact Nat.le_of_ble_eq_true rfl | omega | (simp only [kR, Value.category, kCat_q, List.map, List.sum_cons, List.sum_nil]; omega)) (fun _ hx => hx.elim) (fun v35 s35 hp35 => ?_)
  obtain ⟨rfl, g1, g2, g3, g4⟩ := hp35
  refine k_vret B hr dX2_init_38 ?_ (by first | exact Nat.le_of_ble_eq_true rfl | omega | (simp only [kR, Value.category, kCat_q, List.map, List.sum_cons, List.sum_nil]; omega)) (by first | exact Nat.le_of_ble_eq_true rfl | omega | (simp only [kR, Value.category, kCat_q, List.map, List.sum_cons, List.sum_nil]; omega))
  refine ⟨q5, rfl, hq5, g3 _ _ kUp_eq (fun h => ?_), ?_, g2, ?_, ?_⟩
  · rcases h with h | h
    · exact hba h
    · cases h
  · rw [g1]; simp
  · intro x y hx hxa
    have hxq := kNeN hx hq5
    exact g3 _ _ (kUp_o hxa (kUp_o hxq hx)) (fun h => by
      rcases h with h | h
      · exact hxq h
      · cases h)
  · intro x y hx hk
    have hxq := kNeN hx hq5
    have hxa : x ≠ a := fun h => by
      subst h
      rw [ha] at hx
      cases hx
      exact hk rfl
    exact g3 _ _ (kUp_o hxa (kUp_o hxq hx)) (fun h => by
      rcases h with h | h
      · exact hxq h
      · cases h)
end Leaf
