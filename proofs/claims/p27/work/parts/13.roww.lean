section RowW
variable {l : Launch} {D : va_G} {σ : kS}
set_option maxRecDepth 100000 in
theorem c_X6_earliestWith (hl : l.stackTraces = false) {ρ : Nat} {u : Int32} {z : Option Nat} {L : kPs} {bit : Int32} (hρ : σ ρ = some (rowE u (hdA L) z)) (hc : pCh σ L) (hy : ∀ q ∈ L, q.2.2.1 < 2 ^ 31 ∧ q.2.1 < 2 ^ 31) : kMh hX6_earliestWith l D yX6_earliestWith 2 0 0 [.ref ρ, .int bit] σ (fun v s2 => v = some (va_rf ((eaS bit L none).map (·.1))) ∧ s2 = σ) (fun _ => False) := by
  refine kM_of (L := [some (.ref ρ), some (.int bit), none, none]) (by decide +kernel) hl (List.forall_mem_cons.mpr ⟨rfl, (List.forall_mem_cons.mpr ⟨rfl, (fun _ h => absurd h List.not_mem_nil)⟩)⟩) (Nat.le_of_ble_eq_true rfl) rfl ?_
  intro p e s m args below meth c B hr hex hnm
  have B : kB p l s m args meth c D (kA σ s.heap.size) 4 cX6_earliestWith RX6 := B
  have loop : ∀ (T : kPs) (f : Option (Nat × kP)), pCh σ T → (∀ q ∈ T, q ∈ L) → (∀ q, f = some q → q ∈ L) → eaS bit T f = eaS bit L none → kK p l e (kR 2 0 0) s m args below meth c D (kA σ s.heap.size) 4 (kQ below args s D σ (fun v s2 => v = some (va_rf ((eaS bit L none).map (·.1))) ∧ s2 = σ) (fun _ => False) 0 0) σ 0 0 7 [some (.ref ρ), some (.int bit), some (va_rf (f.map (·.1))), some (va_rf (hdA T))] [] := by
    intro T
    induction T with
    | nil =>
      intro f hT hm hf hs
      refine k_aload_n B dX6_earliestWith_7 rfl (by first | exact kRf_r _ | exact kRf_q _ | exact kRf_n) ?_
      refine k_ifnullN B 42 dX6_earliestWith_8 (by decide) ?_
      refine k_aload_n B dX6_earliestWith_42 rfl (by first | exact kRf_r _ | exact kRf_q _ | exact kRf_n) ?_
      refine k_aret B hr ⟨_, rfl⟩ dX6_earliestWith_43 (by first | exact kRf_r _ | exact kRf_q _ | exact kRf_n) ?_ (by first | exact Nat.le_of_ble_eq_true rfl | omega | (simp only [kR, Value.category, kCat_q, List.map, List.sum_cons, List.sum_nil]; omega)) (by first | exact Nat.le_of_ble_eq_true rfl | omega | (simp only [kR, Value.category, kCat_q, List.map, List.sum_cons, List.sum_nil]; omega))
      exact ⟨by rw [← hs]; rfl, rfl⟩
    | cons q t ih =>
      obtain ⟨a, q⟩ := q
      intro f hT hm hf hs
      have hmt : ∀ r ∈ t, r ∈ L := fun r hr => hm r (List.mem_cons_of_mem _ hr)
      have skip : eaS bit t f = eaS bit ((a, q) :: t) f → kK p l e (kR 2 0 0) s m args below meth c D (kA σ s.heap.size) 4 (kQ below args s D σ (fun v s2 => v = some (va_rf ((eaS bit L none).map (·.1))) ∧ s2 = σ) (fun _ => False) 0 0) σ 0 0 34 [some (.ref ρ), some (.int bit), some (va_rf (f.map (·.1))), some (.ref a)] [] := by
        intro h0
        refine k_aload_n B dX6_earliestWith_34 rfl (by first | exact kRf_r _ | exact kRf_q _ | exact kRf_n) ?_
        refine gf_X6_22 B dX6_earliestWith_35 hT.1 rfl ?_
        refine k_astore_n B dX6_earliestWith_38 (by decide) (by first | exact kRf_r _ | exact kRf_q _ | exact kRf_n) ?_
        try refine kK.set1 (by first | exact True.intro | rfl | exact kCat_q _) ?_
        refine k_goto B 7 dX6_earliestWith_39 (by decide) ?_
        exact ih _ hT.2 hmt hf (by rw [← hs, h0])
      have take : eaS bit t (some (a, q)) = eaS bit ((a, q) :: t) f → kK p l e (kR 2 0 0) s m args below meth c D (kA σ s.heap.size) 4 (kQ below args s D σ (fun v s2 => v = some (va_rf ((eaS bit L none).map (·.1))) ∧ s2 = σ) (fun _ => False) 0 0) σ 0 0 32 [some (.ref ρ), some (.int bit), some (va_rf (f.map (·.1))), some (.ref a)] [] := by
        intro h0
        refine k_aload_n B dX6_earliestWith_32 rfl (by first | exact kRf_r _ | exact kRf_q _ | exact kRf_n) ?_
        refine k_astore_n B dX6_earliestWith_33 (by decide) (by first | exact kRf_r _ | exact kRf_q _ | exact kRf_n) ?_
        try refine kK.set1 (by first | exact True.intro | rfl | exact kCat_q _) ?_
        refine k_aload_n B dX6_earliestWith_34 rfl (by first | exact kRf_r _ | exact kRf_q _ | exact kRf_n) ?_
        refine gf_X6_22 B dX6_earliestWith_35 hT.1 rfl ?_
        refine k_astore_n B dX6_earliestWith_38 (by decide) (by first | exact kRf_r _ | exact kRf_q _ | exact kRf_n) ?_
        try refine kK.set1 (by first | exact True.intro | rfl | exact kCat_q _) ?_
        refine k_goto B 7 dX6_earliestWith_39 (by decide) ?_
        exact ih (some (a, q)) hT.2 hmt (fun r hr => by cases hr; exact hm _ List.mem_cons_self) (by rw [← hs, h0])
      refine k_aload_n B dX6_earliestWith_7 rfl (by first | exact kRf_r _ | exact kRf_q _ | exact kRf_n) ?_
      refine k_ifnullR B 42 dX6_earliestWith_8 (by decide) ?_
      refine k_aload_n B dX6_earliestWith_11 rfl (by first | exact kRf_r _ | exact kRf_q _ | exact kRf_n) ?_
      refine gf_X6_38 B dX6_earliestWith_12 hT.1 rfl ?_
      refine k_iload_n B dX6_earliestWith_15 rfl ?_
      refine k_iand B dX6_earliestWith_16 ?_
      refine k_if_eq B 34 dX6_earliestWith_17 (by decide) (fun c17 => ?_) (fun c17 => ?_)
      · exact skip (by simp only [eaS]; rw [if_pos c17])
      · cases f with
        | none =>
          refine k_aload_n B dX6_earliestWith_20 rfl (by first | exact kRf_r _ | exact kRf_q _ | exact kRf_n) ?_
          refine k_ifnullN B 32 dX6_earliestWith_21 (by decide) ?_
          exact take (by simp only [eaS]; rw [if_neg c17])
        | some g =>
          obtain ⟨b, g⟩ := g
          have hg := hf _ rfl
          obtain ⟨y, hgy⟩ := pCh_mem hc hg
          have b1 := hy _ hg
          have b2 := hy _ (hm _ List.mem_cons_self)
          refine k_aload_n B dX6_earliestWith_20 rfl (by first | exact kRf_r _ | exact kRf_q _ | exact kRf_n) ?_
          refine k_ifnullR B 32 dX6_earliestWith_21 (by decide) ?_
          refine k_aload_n B dX6_earliestWith_24 rfl (by first | exact kRf_r _ | exact kRf_q _ | exact kRf_n) ?_
          refine k_aload_n B dX6_earliestWith_25 rfl (by first | exact kRf_r _ | exact kRf_q _ | exact kRf_n) ?_
          refine cl_X6_57 B (c_X6_isEarlier hl hT.1 hgy b2.1 b1.1 b2.2 b1.2) dX6_earliestWith_26 (by first | exact Nat.le_of_ble_eq_true rfl | omega | (simp only [kR, Value.category, kCat_q, List.map, List.sum_cons, List.sum_nil]; omega)) (by first | exact Nat.le_of_ble_eq_true rfl | omega | (simp only [kR, Value.category, kCat_q, List.map, List.sum_cons, List.sum_nil]; omega)) (by first | exact Nat.le_of_ble_eq_true rfl | omega | (simp only [kR, Value.category, kCat_q, List.map, List.sum_cons, List.sum_nil]; omega)) (by first | exact Nat.le_of_ble_eq_true rfl | omega | (simp only [kR, Value.category, kCat_q, List.map, List.sum_cons, List.sum_nil]; omega)) (by first | exact Nat.le_of_ble_eq_true rfl | omega | (simp only [kR, Value.category, kCat_q, List.map, List.sum_cons, List.sum_nil]; omega)) (fun _ hx => hx.elim) (fun v26 s26 hp26 => ?_)
          obtain ⟨rfl, rfl⟩ := hp26
          refine kK.rev (y := .int (if kEarlB q g = true then 1 else 0)) rfl ?_
          refine k_if_eq B 34 dX6_earliestWith_29 (by decide) (fun c29 => ?_) (fun c29 => ?_)
          · refine skip (by
              simp only [eaS]; rw [if_neg c17, if_neg]
              intro hk
              rw [if_pos hk] at c29
              exact absurd c29 (by decide))
          · refine take (by
              simp only [eaS]; rw [if_neg c17, if_pos]
              by_cases hk : kEarlB q g = true
              · exact hk
              · rw [if_neg hk] at c29
                exact absurd rfl c29)
  refine k_null B dX6_earliestWith_0 ?_
  refine k_astore_n B dX6_earliestWith_1 (by decide) (by first | exact kRf_r _ | exact kRf_q _ | exact kRf_n) ?_
  try refine kK.set1 (by first | exact True.intro | rfl | exact kCat_q _) ?_
  refine k_aload_n B dX6_earliestWith_2 rfl (by first | exact kRf_r _ | exact kRf_q _ | exact kRf_n) ?_
  refine gf_X6_15 B dX6_earliestWith_3 hρ rfl ?_
  refine k_astore_n B dX6_earliestWith_6 (by decide) (by first | exact kRf_r _ | exact kRf_q _ | exact kRf_n) ?_
  try refine kK.set1 (by first | exact True.intro | rfl | exact kCat_q _) ?_
  exact loop L none hc (fun _ h => h) (fun q h => by cases h) rfl
set_option maxRecDepth 100000 in
theorem c_X6_init (hl : l.stackTraces = false) {ρ : Nat} : kMh hX6_init l D yX6_init 1 0 0 [.ref ρ] σ (fun v s2 => v = none ∧ s2 = σ) (fun _ => False) := by
  refine kM_of (L := [some (.ref ρ)]) (by decide +kernel) hl (List.forall_mem_cons.mpr ⟨rfl, (fun _ h => absurd h List.not_mem_nil)⟩) (Nat.le_of_ble_eq_true rfl) rfl ?_
  intro p e s m args below meth c B hr hex hnm
  have B : kB p l s m args meth c D (kA σ s.heap.size) 1 cX6_init RX6 := B
  have hini : meth.name = "<init>" := hnm
  refine k_aload_n B dX6_init_0 rfl (by first | exact kRf_r _ | exact kRf_q _ | exact kRf_n) ?_
  refine ob_X6_3 B dX6_init_1 (by first | exact Nat.le_of_ble_eq_true rfl | omega | (simp only [kR, Value.category, kCat_q, List.map, List.sum_cons, List.sum_nil]; omega)) (by first | exact Nat.le_of_ble_eq_true rfl | omega | (simp only [kR, Value.category, kCat_q, List.map, List.sum_cons, List.sum_nil]; omega)) ?_
  refine k_vret B hr dX6_init_4 ?_ (by first | exact Nat.le_of_ble_eq_true rfl | omega | (simp only [kR, Value.category, kCat_q, List.map, List.sum_cons, List.sum_nil]; omega)) (by first | exact Nat.le_of_ble_eq_true rfl | omega | (simp only [kR, Value.category, kCat_q, List.map, List.sum_cons, List.sum_nil]; omega))
  exact ⟨rfl, rfl⟩
set_option maxRecDepth 100000 in
theorem c_X6_clear (hl : l.stackTraces = false) {ρ : Nat} {u : Int32} {f z : Option Nat} (hρ : σ ρ = some (rowE u f z)) : kMh hX6_clear l D yX6_clear 1 0 0 [.ref ρ] σ (fun v s2 => v = none ∧ s2 = kUp σ ρ (rowE 0 none none)) (fun _ => False) := by
  refine kM_of (L := [some (.ref ρ)]) (by decide +kernel) hl (List.forall_mem_cons.mpr ⟨rfl, (fun _ h => absurd h List.not_mem_nil)⟩) (Nat.le_of_ble_eq_true rfl) rfl ?_
  intro p e s m args below meth c B hr hex hnm
  have B : kB p l s m args meth c D (kA σ s.heap.size) 1 cX6_clear RX6 := B
  refine k_aload_n B dX6_clear_0 rfl (by first | exact kRf_r _ | exact kRf_q _ | exact kRf_n) ?_
  refine k_iconst B (v := 0) dX6_clear_1 (by decide) ?_
  refine pf_X6_9 B dX6_clear_2 hρ rfl ?_
  refine k_aload_n B dX6_clear_5 rfl (by first | exact kRf_r _ | exact kRf_q _ | exact kRf_n) ?_
  refine k_null B dX6_clear_6 ?_
  refine pf_X6_15 B dX6_clear_7 kUp_eq rfl (by first | exact kRf_r _ | exact kRf_q _ | exact kRf_n) ?_
  refine k_aload_n B dX6_clear_10 rfl (by first | exact kRf_r _ | exact kRf_q _ | exact kRf_n) ?_
  refine k_null B dX6_clear_11 ?_
  refine pf_X6_19 B dX6_clear_12 kUp_eq rfl (by first | exact kRf_r _ | exact kRf_q _ | exact kRf_n) ?_
  refine k_vret B hr dX6_clear_15 ?_ (by first | exact Nat.le_of_ble_eq_true rfl | omega | (simp only [kR, Value.category, kCat_q, List.map, List.sum_cons, List.sum_nil]; omega)) (by first | exact Nat.le_of_ble_eq_true rfl | omega | (simp only [kR, Value.category, kCat_q, List.map, List.sum_cons, List.sum_nil]; omega))
  exact ⟨rfl, by rw [kUp_uu, kUp_uu]; rfl⟩
set_option maxRecDepth 100000 in
theorem c_X5_init (hl : l.stackTraces = false) {a : Nat} {c0 y0 n0 k0 u0 : Int32} (ha : σ a = some (.inr (5, [.int 0, .int 0, .int 0, .int 0, .int 0, .null]))) : kMh hX5_init l D yX5_init 1 0 0 [.ref a, .int c0, .int y0, .int n0, .int k0, .int u0] σ (fun v s2 => v = none ∧ s2 = kUp σ a (.inr (5, [.int c0, .int y0, .int n0, .int k0, .int u0, .null]))) (fun _ => False) := by
  refine kM_of (L := [some (.ref a), some (.int c0), some (.int y0), some (.int n0), some (.int k0), some (.int u0)]) (by decide +kernel) hl (List.forall_mem_cons.mpr ⟨rfl, (List.forall_mem_cons.mpr ⟨rfl, (List.forall_mem_cons.mpr ⟨rfl, (List.forall_mem_cons.mpr ⟨rfl, (List.forall_mem_cons.mpr ⟨rfl, (List.forall_mem_cons.mpr ⟨rfl, (fun _ h => absurd h List.not_mem_nil)⟩)⟩)⟩)⟩)⟩)⟩) (Nat.le_of_ble_eq_true rfl) rfl ?_
  intro p e s m args below meth c B hr hex hnm
  have B : kB p l s m args meth c D (kA σ s.heap.size) 6 cX5_init RX5 := B
  have hini : meth.name = "<init>" := hnm
  refine k_aload_n B dX5_init_0 rfl (by first | exact kRf_r _ | exact kRf_q _ | exact kRf_n) ?_
  refine ob_X5_1 B dX5_init_1 (by first | exact Nat.le_of_ble_eq_true rfl | omega | (simp only [kR, Value.category, kCat_q, List.map, List.sum_cons, List.sum_nil]; omega)) (by first | exact Nat.le_of_ble_eq_true rfl | omega | (simp only [kR, Value.category, kCat_q, List.map, List.sum_cons, List.sum_nil]; omega)) ?_
  refine k_aload_n B dX5_init_4 rfl (by first | exact kRf_r _ | exact kRf_q _ | exact kRf_n) ?_
  refine k_iload_n B dX5_init_5 rfl ?_
  refine pf_X5_7 B hini dX5_init_6 ha rfl ?_
  refine k_aload_n B dX5_init_9 rfl (by first | exact kRf_r _ | exact kRf_q _ | exact kRf_n) ?_
  refine k_iload_n B dX5_init_10 rfl ?_
  refine pf_X5_13 B hini dX5_init_11 kUp_eq rfl ?_
  refine k_aload_n B dX5_init_14 rfl (by first | exact kRf_r _ | exact kRf_q _ | exact kRf_n) ?_
  refine k_iload_n B dX5_init_15 rfl ?_
  refine pf_X5_16 B hini dX5_init_16 kUp_eq rfl ?_
  refine k_aload_n B dX5_init_19 rfl (by first | exact kRf_r _ | exact kRf_q _ | exact kRf_n) ?_
  refine k_iload B dX5_init_20 rfl ?_
  refine pf_X5_19 B hini dX5_init_22 kUp_eq rfl ?_
  refine k_aload_n B dX5_init_25 rfl (by first | exact kRf_r _ | exact kRf_q _ | exact kRf_n) ?_
  refine k_iload B dX5_init_26 rfl ?_
  refine pf_X5_22 B dX5_init_28 kUp_eq rfl ?_
  refine k_vret B hr dX5_init_31 ?_ (by first | exact Nat.le_of_ble_eq_true rfl | omega | (simp only [kR, Value.category, kCat_q, List.map, List.sum_cons, List.sum_nil]; omega)) (by first | exact Nat.le_of_ble_eq_true rfl | omega | (simp only [kR, Value.category, kCat_q, List.map, List.sum_cons, List.sum_nil]; omega))
  exact ⟨rfl, by rw [kUp_uu, kUp_uu, kUp_uu, kUp_uu]; rfl⟩
/-- a part split off: the portion has less, a new one has the part -/
def pLess (p : kP) (w : Nat) : kP := (p.1, p.2.1, p.2.2.1, p.2.2.2.1, kUn p - w)
def pPart (p : kP) (w : Nat) : kP := (p.1, p.2.1, p.2.2.1, p.2.2.2.1, w)
set_option maxRecDepth 100000 in
theorem c_X5_splitOff (hl : l.stackTraces = false) {a w : Nat} {q : kP} {nx : Option Nat} (ha : σ a = some (pE q nx)) (hw : w ≤ kUn q) : kMh hX5_splitOff l D yX5_splitOff 2 1 6 [.ref a, .int (nI w)] σ (fun v s2 => ∃ b : Nat, v = some (.ref b) ∧ σ b = none ∧ s2 = kUp (kUp σ a (pE (pLess q w) nx)) b (pE (pPart q w) none)) (fun _ => False) := by
  refine kM_of (L := [some (.ref a), some (.int (nI w))]) (by decide +kernel) hl (List.forall_mem_cons.mpr ⟨rfl, (List.forall_mem_cons.mpr ⟨rfl, (fun _ h => absurd h List.not_mem_nil)⟩)⟩) (Nat.le_of_ble_eq_true rfl) rfl ?_
  intro p e s m args below meth c B hr hex hnm
  have B : kB p l s m args meth c D (kA σ s.heap.size) 2 cX5_splitOff RX5 := B
  refine k_aload_n B dX5_splitOff_0 rfl (by first | exact kRf_r _ | exact kRf_q _ | exact kRf_n) ?_
  refine k_dup B dX5_splitOff_1 rfl ?_
  refine gf_X5_22 B dX5_splitOff_2 ha rfl ?_
  refine k_iload_n B dX5_splitOff_5 rfl ?_
  refine k_isub B dX5_splitOff_6 ?_
  refine kK.rei (y := nI (kUn q - w)) (pk_sub hw) ?_
  refine pf_X5_22 B dX5_splitOff_7 ha rfl ?_
  refine kK.eq (σ2 := kUp σ a (pE (pLess q w) nx)) rfl ?_
  refine nw_X5_8 B dX5_splitOff_10 (by first | exact Nat.le_of_ble_eq_true rfl | omega | (simp only [kR, Value.category, kCat_q, List.map, List.sum_cons, List.sum_nil]; omega)) (by first | exact Nat.le_of_ble_eq_true rfl | omega | (simp only [kR, Value.category, kCat_q, List.map, List.sum_cons, List.sum_nil]; omega)) (fun q10 hq10 => ?_)
  have hba : q10 ≠ a := fun h => by rw [h, kUp_eq] at hq10; cases hq10
  have hσb : σ q10 = none := by rw [kUp_ne hba] at hq10; exact hq10
  have ha2 : kUp (kUp σ a (pE (pLess q w) nx)) q10 (.inr (5, [.int 0, .int 0, .int 0, .int 0, .int 0, .null])) a = some (pE (pLess q w) nx) := kUp_o (Ne.symm hba) kUp_eq
  refine k_dup B dX5_splitOff_13 rfl ?_
  refine k_aload_n B dX5_splitOff_14 rfl (by first | exact kRf_r _ | exact kRf_q _ | exact kRf_n) ?_
  refine gf_X5_7 B dX5_splitOff_15 ha2 rfl ?_
  refine k_aload_n B dX5_splitOff_18 rfl (by first | exact kRf_r _ | exact kRf_q _ | exact kRf_n) ?_
  refine gf_X5_13 B dX5_splitOff_19 ha2 rfl ?_
  refine k_aload_n B dX5_splitOff_22 rfl (by first | exact kRf_r _ | exact kRf_q _ | exact kRf_n) ?_
  refine gf_X5_16 B dX5_splitOff_23 ha2 rfl ?_
  refine k_aload_n B dX5_splitOff_26 rfl (by first | exact kRf_r _ | exact kRf_q _ | exact kRf_n) ?_
  refine gf_X5_19 B dX5_splitOff_27 ha2 rfl ?_
  refine k_iload_n B dX5_splitOff_30 rfl ?_
  refine cl_X5_25 B (c_X5_init hl kUp_eq) dX5_splitOff_31 (by first | exact Nat.le_of_ble_eq_true rfl | omega | (simp only [kR, Value.category, kCat_q, List.map, List.sum_cons, List.sum_nil]; omega)) (by first | exact Nat.le_of_ble_eq_true rfl | omega | (simp only [kR, Value.category, kCat_q, List.map, List.sum_cons, List.sum_nil]; omega)) (by first | exact Nat.le_of_ble_eq_true rfl | omega | (simp only [kR, Value.category, kCat_q, List.map, List.sum_cons, List.sum_nil]; omega)) (by first | exact Nat.le_of_ble_eq_true rfl | omega | (simp only [kR, Value.category, kCat_q, List.map, List.sum_cons, List.sum_nil]; omega)) (by first | exact Nat.le_of_ble_eq_true rfl | omega | (simp only [kR, Value.category, kCat_q, List.map, List.sum_cons, List.sum_nil]; omega)) (fun _ hx => hx.elim) (fun v31 s31 hp31 => ?_)
  obtain ⟨rfl, rfl⟩ := hp31
  refine k_aret B hr ⟨_, rfl⟩ dX5_splitOff_34 (by first | exact kRf_r _ | exact kRf_q _ | exact kRf_n) ?_ (by first | exact Nat.le_of_ble_eq_true rfl | omega | (simp only [kR, Value.category, kCat_q, List.map, List.sum_cons, List.sum_nil]; omega)) (by first | exact Nat.le_of_ble_eq_true rfl | omega | (simp only [kR, Value.category, kCat_q, List.map, List.sum_cons, List.sum_nil]; omega))
  exact ⟨q10, rfl, hσb, by rw [kUp_uu]; rfl⟩
end RowW
