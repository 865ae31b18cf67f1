/-! ===== the law's calls that may be refused ===== -/
section LF
variable {p : Program} {l : Launch} {e : Env} {R : Room} {s : State} {m : MethodId} {args : Array Value} {below : List Frame} {meth : Method} {c : Code} {D : va_G} {A : Nat → Prop} {nL : Nat} {cc : ByteArray} {own : String} {Q : State → Prop} {σ σ0 : kS} {k n pc : Nat} {L : List (Option Value)} {S : List Value}
theorem kB_ncA (B : kB p l s m args meth c D A nL cc own) : va_Nc eA eI s := B.2.2.2.2.2.2.2.1.2.2.2.2.2.2.1
theorem kB_ncSI (B : kB p l s m args meth c D A nL cc own) : va_Nc eS eI s := B.2.2.2.2.2.2.2.1.2.2.2.2.2.2.2.1
theorem kB_ncSA (B : kB p l s m args meth c D A nL cc own) : va_Nc eS eA s := B.2.2.2.2.2.2.2.1.2.2.2.2.2.2.2.2
end LF
/-- whichever exception -/
theorem gCell_s {c : Int32} {g : Option String} {E : String} (h : gCell c g = some E) : E = eI ∨ g = some E := by
  by_cases q : 0 ≤ c ∧ c < 10
  · exact Or.inr ((gCell_p q).symm.trans h)
  · rw [gCell, if_neg q] at h; cases h; exact Or.inl rfl
theorem gIx_s {c n : Int32} {g : Option String} {E : String} (h : gIx c n g = some E) : E = eI ∨ g = some E := by
  by_cases q : 0 ≤ c ∧ c < n
  · exact Or.inr ((gIx_p q).symm.trans h)
  · rw [gIx, if_neg q] at h; cases h; exact Or.inl rfl
theorem gRg_s {x lo hi : Int32} {g : Option String} {E : String} (h : gRg x lo hi g = some E) : E = eA ∨ g = some E := by
  by_cases q : lo ≤ x ∧ x ≤ hi
  · exact Or.inr ((gRg_p q).symm.trans h)
  · rw [gRg, if_neg q] at h; cases h; exact Or.inl rfl
theorem gSt_s {b : Bool} {E : String} (h : gSt b = some E) : E = eS := by
  cases b with
  | true => cases h
  | false => cases h; rfl
theorem gArg_s {b : Bool} {E : String} (h : gArg b = some E) : E = eA := by
  cases b with
  | true => cases h
  | false => cases h; rfl
def e3 (E : String) : Prop := E = eI ∨ E = eA ∨ E = eS
theorem e3_C {c : Int32} {g : Option String} {E : String} (h : gCell c g = some E) (k : g = some E → e3 E) : e3 E := (gCell_s h).elim Or.inl k
theorem e3_X {c n : Int32} {g : Option String} {E : String} (h : gIx c n g = some E) (k : g = some E → e3 E) : e3 E := (gIx_s h).elim Or.inl k
theorem e3_R {x lo hi : Int32} {g : Option String} {E : String} (h : gRg x lo hi g = some E) (k : g = some E → e3 E) : e3 E := (gRg_s h).elim (fun q => Or.inr (Or.inl q)) k
theorem e3_S {b : Bool} {E : String} (h : gSt b = some E) : e3 E := Or.inr (Or.inr (gSt_s h))
theorem e3_A {b : Bool} {E : String} (h : gArg b = some E) : e3 E := Or.inr (Or.inl (gArg_s h))
theorem e3_N {E : String} (h : (none : Option String) = some E) : e3 E := by cases h
theorem e3_lead {c t : Int32} {E : String} (h : gLead c t = some E) : e3 E := e3_C h (fun h => by
  by_cases q : t = -1
  · rw [if_pos q] at h; exact e3_A h
  · rw [if_neg q] at h; exact e3_C h (fun h => e3_A h))
/-- what the law makes of an exception -/
def aCd (E : String) : Int32 := if E = eI then -70007 else if E = eA then -70009 else -70008
theorem aCd_I : aCd eI = -70007 := by decide
theorem aCd_A : aCd eA = -70009 := by decide
theorem aCd_S : aCd eS = -70008 := by decide
def aPo (g : Option String) (r : Int32) (Q : kS → Prop) (σ : kS) (v : Option Value) (s2 : kS) : Prop := (g = none ∧ v = some (.int r) ∧ Q s2) ∨ ∃ E, g = some E ∧ v = some (.int (aCd E)) ∧ s2 = σ
section LA
variable {p : Program} {l : Launch} {e : Env} {s : State} {m : MethodId} {args : Array Value} {below : List Frame} {meth : Method} {c : Code} {D : va_G} {σ : kS} {k n pc mc ms : Nat} {L : List (Option Value)} {S : List Value} {Post : Option Value → kS → Prop} {PX : String → Prop} {aO : Nat} {z : kSt} {J : List kJe} {F : kF}
set_option maxRecDepth 100000 in
theorem asks_x (B : kB p l s m args meth c D (kA σ s.heap.size) 5 cL_asks RL) (hr : meth.sig.returnType = some .int) (hex : c.exceptionTable.toList = tableOf [(0, 111, 112, 39), (0, 111, 117, 42), (0, 111, 122, 45)]) (c1 : covers ⟨0, 111, 112, 39⟩ pc = true) (c2 : covers ⟨0, 111, 117, 42⟩ pc = true) (c3 : covers ⟨0, 111, 122, 45⟩ pc = true) {E : String} (hE : e3 E) (hP : Post (some (.int (aCd E))) σ) (hk : k ≤ mc) (hn : n ≤ ms) : kX p l e (kR 9 mc ms) s m args below meth c D (kA σ s.heap.size) 5 (kQ below args s D σ Post PX mc ms) σ k n pc L S E := by
  rcases hE with rfl | rfl | rfl
  · refine k_catch B [] ⟨0, 111, 112, 39⟩ [⟨0, 111, 117, 42⟩, ⟨0, 111, 122, 45⟩] hex (fun z hz => absurd hz List.not_mem_nil) c1 (by decide) qw510 csTx1 (fun q9 => ?_)
    refine k_astore B dL_asks_112 (by decide) (by first | exact kRf_r _ | exact kRf_q _ | exact kRf_n) ?_
    try refine kK.set1 (by first | exact True.intro | rfl | exact kCat_q _) ?_
    refine k_ldc B qw626 dL_asks_114 ?_
    refine k_iret B hr dL_asks_116 ?_ (by first | exact Nat.le_of_ble_eq_true rfl | omega | (simp only [kR, Value.category, kCat_q, List.map, List.sum_cons, List.sum_nil]; omega)) (by first | exact Nat.le_of_ble_eq_true rfl | omega | (simp only [kR, Value.category, kCat_q, List.map, List.sum_cons, List.sum_nil]; omega))
    exact hP
  · refine k_catch B [⟨0, 111, 112, 39⟩] ⟨0, 111, 117, 42⟩ [⟨0, 111, 122, 45⟩] hex (List.forall_mem_cons.mpr ⟨Or.inr ⟨by decide, eI, qw510, kB_ncA B⟩, (fun _ hz => absurd hz List.not_mem_nil)⟩) c2 (by decide) qw511 csTx2 (fun q9 => ?_)
    refine k_astore B dL_asks_117 (by decide) (by first | exact kRf_r _ | exact kRf_q _ | exact kRf_n) ?_
    try refine kK.set1 (by first | exact True.intro | rfl | exact kCat_q _) ?_
    refine k_ldc B qw627 dL_asks_119 ?_
    refine k_iret B hr dL_asks_121 ?_ (by first | exact Nat.le_of_ble_eq_true rfl | omega | (simp only [kR, Value.category, kCat_q, List.map, List.sum_cons, List.sum_nil]; omega)) (by first | exact Nat.le_of_ble_eq_true rfl | omega | (simp only [kR, Value.category, kCat_q, List.map, List.sum_cons, List.sum_nil]; omega))
    exact hP
  · refine k_catch B [⟨0, 111, 112, 39⟩, ⟨0, 111, 117, 42⟩] ⟨0, 111, 122, 45⟩ [] hex (List.forall_mem_cons.mpr ⟨Or.inr ⟨by decide, eI, qw510, kB_ncSI B⟩, (List.forall_mem_cons.mpr ⟨Or.inr ⟨by decide, eA, qw511, kB_ncSA B⟩, (fun _ hz => absurd hz List.not_mem_nil)⟩)⟩) c3 (by decide) qw512 csTx3 (fun q9 => ?_)
    refine k_astore B dL_asks_122 (by decide) (by first | exact kRf_r _ | exact kRf_q _ | exact kRf_n) ?_
    try refine kK.set1 (by first | exact True.intro | rfl | exact kCat_q _) ?_
    refine k_ldc B qw628 dL_asks_124 ?_
    refine k_iret B hr dL_asks_126 ?_ (by first | exact Nat.le_of_ble_eq_true rfl | omega | (simp only [kR, Value.category, kCat_q, List.map, List.sum_cons, List.sum_nil]; omega)) (by first | exact Nat.le_of_ble_eq_true rfl | omega | (simp only [kR, Value.category, kCat_q, List.map, List.sum_cons, List.sum_nil]; omega))
    exact hP
set_option maxRecDepth 100000 in
theorem c_L_asks0 (hl : l.stackTraces = false) (hs : sOk z) (h : cl9 D aO z J F σ) {p0 p1 : Int32} : kMh hL_asks l D yL_asks 9 7 38 [.ref aO, .int 0, .int p0, .int p1] σ (aPo (gBottle z p0 p1) (rBottle z) (fun s2 => cl9 D aO (nBottle z p0 p1) (jBottle z p0 p1 J) F s2 ∧ kFr k9F σ s2) σ) (fun _ => False) := by
  refine kM_ofW (L := [some (.ref aO), some (.int 0), some (.int p0), some (.int p1), none]) (by decide +kernel) hl (List.forall_mem_cons.mpr ⟨rfl, (List.forall_mem_cons.mpr ⟨rfl, (List.forall_mem_cons.mpr ⟨rfl, (List.forall_mem_cons.mpr ⟨rfl, (fun _ h => absurd h List.not_mem_nil)⟩)⟩)⟩)⟩) (Nat.le_of_ble_eq_true rfl) rfl ?_
  intro p e s m args below meth c B hr hex hnm
  have B : kB p l s m args meth c D (kA σ s.heap.size) 5 cL_asks RL := B
  refine k_iload_n B dL_asks_0 rfl ?_
  refine k_if_ne B 13 dL_asks_1 (by decide) (fun c9 => (c9 (rfl)).elim) (fun _ => ?_)
  refine k_aload_n B dL_asks_4 rfl (by first | exact kRf_r _ | exact kRf_q _ | exact kRf_n) ?_
  refine k_iload_n B dL_asks_5 rfl ?_
  refine k_iload_n B dL_asks_6 rfl ?_
  refine cl_L_10 B (c_X9_bottle hl hs h) (h.rv.choose_spec) dL_asks_7 (by first | exact Nat.le_of_ble_eq_true rfl | omega | (simp only [kR, Value.category, kCat_q, List.map, List.sum_cons, List.sum_nil]; omega)) (by first | exact Nat.le_of_ble_eq_true rfl | omega | (simp only [kR, Value.category, kCat_q, List.map, List.sum_cons, List.sum_nil]; omega)) (by first | exact Nat.le_of_ble_eq_true rfl | omega | (simp only [kR, Value.category, kCat_q, List.map, List.sum_cons, List.sum_nil]; omega)) (by first | exact Nat.le_of_ble_eq_true rfl | omega | (simp only [kR, Value.category, kCat_q, List.map, List.sum_cons, List.sum_nil]; omega)) (by first | exact Nat.le_of_ble_eq_true rfl | omega | (simp only [kR, Value.category, kCat_q, List.map, List.sum_cons, List.sum_nil]; omega)) (fun E hE => asks_x B hr hex (by decide) (by decide) (by decide) (e3_X hE (fun h => e3_R h (fun h => e3_S h))) (Or.inr ⟨E, hE, rfl, rfl⟩) (by first | exact Nat.le_of_ble_eq_true rfl | omega) (by first | exact Nat.le_of_ble_eq_true rfl | omega)) (fun v7 s7 hp7 => ?_)
  obtain ⟨hg, e1, h2, f2⟩ := hp7
  rw [e1]
  refine kK.rev (y := .int (rBottle z)) rfl ?_
  refine k_goto B 111 dL_asks_10 (by decide) ?_
  refine k_iret B hr dL_asks_111 ?_ (by first | exact Nat.le_of_ble_eq_true rfl | omega | (simp only [kR, Value.category, kCat_q, List.map, List.sum_cons, List.sum_nil]; omega)) (by first | exact Nat.le_of_ble_eq_true rfl | omega | (simp only [kR, Value.category, kCat_q, List.map, List.sum_cons, List.sum_nil]; omega))
  exact Or.inl ⟨hg, rfl, h2, f2⟩
set_option maxRecDepth 100000 in
theorem c_L_asks1 (hl : l.stackTraces = false) (hs : sOk z) (h : cl9 D aO z J F σ) {p0 p1 : Int32} : kMh hL_asks l D yL_asks 9 3 18 [.ref aO, .int 1, .int p0, .int p1] σ (aPo (gTreat z p0 p1) (rTreat z p0 p1) (fun s2 => cl9 D aO (nTreat z p0 p1) J F s2 ∧ kFr k9F σ s2) σ) (fun _ => False) := by
  refine kM_ofW (L := [some (.ref aO), some (.int 1), some (.int p0), some (.int p1), none]) (by decide +kernel) hl (List.forall_mem_cons.mpr ⟨rfl, (List.forall_mem_cons.mpr ⟨rfl, (List.forall_mem_cons.mpr ⟨rfl, (List.forall_mem_cons.mpr ⟨rfl, (fun _ h => absurd h List.not_mem_nil)⟩)⟩)⟩)⟩) (Nat.le_of_ble_eq_true rfl) rfl ?_
  intro p e s m args below meth c B hr hex hnm
  have B : kB p l s m args meth c D (kA σ s.heap.size) 5 cL_asks RL := B
  refine k_iload_n B dL_asks_0 rfl ?_
  refine k_if_ne B 13 dL_asks_1 (by decide) (fun _ => ?_) (fun c9 => absurd c9 (by decide))
  refine k_iload_n B dL_asks_13 rfl ?_
  refine k_iconst B (v := 1) dL_asks_14 (by decide) ?_
  refine k_icmp_ne B 27 dL_asks_15 (by decide) (fun c9 => (c9 (rfl)).elim) (fun _ => ?_)
  refine k_aload_n B dL_asks_18 rfl (by first | exact kRf_r _ | exact kRf_q _ | exact kRf_n) ?_
  refine k_iload_n B dL_asks_19 rfl ?_
  refine k_iload_n B dL_asks_20 rfl ?_
  refine cl_L_16 B (c_X9_treat hl hs h) (h.rv.choose_spec) dL_asks_21 (by first | exact Nat.le_of_ble_eq_true rfl | omega | (simp only [kR, Value.category, kCat_q, List.map, List.sum_cons, List.sum_nil]; omega)) (by first | exact Nat.le_of_ble_eq_true rfl | omega | (simp only [kR, Value.category, kCat_q, List.map, List.sum_cons, List.sum_nil]; omega)) (by first | exact Nat.le_of_ble_eq_true rfl | omega | (simp only [kR, Value.category, kCat_q, List.map, List.sum_cons, List.sum_nil]; omega)) (by first | exact Nat.le_of_ble_eq_true rfl | omega | (simp only [kR, Value.category, kCat_q, List.map, List.sum_cons, List.sum_nil]; omega)) (by first | exact Nat.le_of_ble_eq_true rfl | omega | (simp only [kR, Value.category, kCat_q, List.map, List.sum_cons, List.sum_nil]; omega)) (fun E hE => asks_x B hr hex (by decide) (by decide) (by decide) (e3_X hE (fun h => e3_X h (fun h => e3_S h))) (Or.inr ⟨E, hE, rfl, rfl⟩) (by first | exact Nat.le_of_ble_eq_true rfl | omega) (by first | exact Nat.le_of_ble_eq_true rfl | omega)) (fun v21 s21 hp21 => ?_)
  obtain ⟨hg, e1, h2, f2⟩ := hp21
  rw [e1]
  refine kK.rev (y := .int (rTreat z p0 p1)) rfl ?_
  refine k_goto B 111 dL_asks_24 (by decide) ?_
  refine k_iret B hr dL_asks_111 ?_ (by first | exact Nat.le_of_ble_eq_true rfl | omega | (simp only [kR, Value.category, kCat_q, List.map, List.sum_cons, List.sum_nil]; omega)) (by first | exact Nat.le_of_ble_eq_true rfl | omega | (simp only [kR, Value.category, kCat_q, List.map, List.sum_cons, List.sum_nil]; omega))
  exact Or.inl ⟨hg, rfl, h2, f2⟩
set_option maxRecDepth 100000 in
theorem c_L_asks2 (hl : l.stackTraces = false) (hs : sOk z) (h : cl9 D aO z J F σ) {p0 p1 : Int32} : kMh hL_asks l D yL_asks 9 3 18 [.ref aO, .int 2, .int p0, .int p1] σ (aPo (gLabel z p0 p1) (rLabel z p0 p1) (fun s2 => cl9 D aO (nLabel z p0 p1) J F s2 ∧ kFr k9F σ s2) σ) (fun _ => False) := by
  refine kM_ofW (L := [some (.ref aO), some (.int 2), some (.int p0), some (.int p1), none]) (by decide +kernel) hl (List.forall_mem_cons.mpr ⟨rfl, (List.forall_mem_cons.mpr ⟨rfl, (List.forall_mem_cons.mpr ⟨rfl, (List.forall_mem_cons.mpr ⟨rfl, (fun _ h => absurd h List.not_mem_nil)⟩)⟩)⟩)⟩) (Nat.le_of_ble_eq_true rfl) rfl ?_
  intro p e s m args below meth c B hr hex hnm
  have B : kB p l s m args meth c D (kA σ s.heap.size) 5 cL_asks RL := B
  refine k_iload_n B dL_asks_0 rfl ?_
  refine k_if_ne B 13 dL_asks_1 (by decide) (fun _ => ?_) (fun c9 => absurd c9 (by decide))
  refine k_iload_n B dL_asks_13 rfl ?_
  refine k_iconst B (v := 1) dL_asks_14 (by decide) ?_
  refine k_icmp_ne B 27 dL_asks_15 (by decide) (fun _ => ?_) (fun c9 => absurd c9 (by decide))
  refine k_iload_n B dL_asks_27 rfl ?_
  refine k_iconst B (v := 2) dL_asks_28 (by decide) ?_
  refine k_icmp_ne B 49 dL_asks_29 (by decide) (fun c9 => (c9 (rfl)).elim) (fun _ => ?_)
  refine k_aload_n B dL_asks_32 rfl (by first | exact kRf_r _ | exact kRf_q _ | exact kRf_n) ?_
  refine k_iload_n B dL_asks_33 rfl ?_
  refine k_iload_n B dL_asks_34 rfl ?_
  refine cl_L_19 B (c_X9_label hl hs h) (h.rv.choose_spec) dL_asks_35 (by first | exact Nat.le_of_ble_eq_true rfl | omega | (simp only [kR, Value.category, kCat_q, List.map, List.sum_cons, List.sum_nil]; omega)) (by first | exact Nat.le_of_ble_eq_true rfl | omega | (simp only [kR, Value.category, kCat_q, List.map, List.sum_cons, List.sum_nil]; omega)) (by first | exact Nat.le_of_ble_eq_true rfl | omega | (simp only [kR, Value.category, kCat_q, List.map, List.sum_cons, List.sum_nil]; omega)) (by first | exact Nat.le_of_ble_eq_true rfl | omega | (simp only [kR, Value.category, kCat_q, List.map, List.sum_cons, List.sum_nil]; omega)) (by first | exact Nat.le_of_ble_eq_true rfl | omega | (simp only [kR, Value.category, kCat_q, List.map, List.sum_cons, List.sum_nil]; omega)) (fun E hE => asks_x B hr hex (by decide) (by decide) (by decide) (e3_X hE (fun h => e3_R h (fun h => e3_S h))) (Or.inr ⟨E, hE, rfl, rfl⟩) (by first | exact Nat.le_of_ble_eq_true rfl | omega) (by first | exact Nat.le_of_ble_eq_true rfl | omega)) (fun v35 s35 hp35 => ?_)
  obtain ⟨hg, e1, h2, f2⟩ := hp35
  rw [e1]
  refine kK.rev (y := .int (rLabel z p0 p1)) rfl ?_
  by_cases hk : kindB z p0 p1 = true
  · have hk1 : rLabel z p0 p1 = 1 := bI_t hk
    refine k_if_eq B 45 dL_asks_38 (by decide) (fun c9 => absurd c9 (by rw [hk1]; decide)) (fun _ => ?_)
    refine k_iconst B (v := 1) dL_asks_41 (by decide) ?_
    refine k_goto B 111 dL_asks_42 (by decide) ?_
    refine k_iret B hr dL_asks_111 ?_ (by first | exact Nat.le_of_ble_eq_true rfl | omega | (simp only [kR, Value.category, kCat_q, List.map, List.sum_cons, List.sum_nil]; omega)) (by first | exact Nat.le_of_ble_eq_true rfl | omega | (simp only [kR, Value.category, kCat_q, List.map, List.sum_cons, List.sum_nil]; omega))
    exact Or.inl ⟨hg, by rw [hk1], h2, f2⟩
  · have hk1 : rLabel z p0 p1 = 0 := bI_f hk
    refine k_if_eq B 45 dL_asks_38 (by decide) (fun _ => ?_) (fun c9 => (c9 (hk1)).elim)
    refine k_iconst B (v := 0) dL_asks_45 (by decide) ?_
    refine k_goto B 111 dL_asks_46 (by decide) ?_
    refine k_iret B hr dL_asks_111 ?_ (by first | exact Nat.le_of_ble_eq_true rfl | omega | (simp only [kR, Value.category, kCat_q, List.map, List.sum_cons, List.sum_nil]; omega)) (by first | exact Nat.le_of_ble_eq_true rfl | omega | (simp only [kR, Value.category, kCat_q, List.map, List.sum_cons, List.sum_nil]; omega))
    exact Or.inl ⟨hg, by rw [hk1], h2, f2⟩
set_option maxRecDepth 100000 in
theorem c_L_asks3 (hl : l.stackTraces = false) (hs : sOk z) (h : cl9 D aO z J F σ) {p0 p1 : Int32} : kMh hL_asks l D yL_asks 9 2 12 [.ref aO, .int 3, .int p0, .int p1] σ (aPo (gForbid z p0) (rForbid z p0) (fun s2 => cl9 D aO (nForbid z p0) J F s2 ∧ kFr k9F σ s2) σ) (fun _ => False) := by
  refine kM_ofW (L := [some (.ref aO), some (.int 3), some (.int p0), some (.int p1), none]) (by decide +kernel) hl (List.forall_mem_cons.mpr ⟨rfl, (List.forall_mem_cons.mpr ⟨rfl, (List.forall_mem_cons.mpr ⟨rfl, (List.forall_mem_cons.mpr ⟨rfl, (fun _ h => absurd h List.not_mem_nil)⟩)⟩)⟩)⟩) (Nat.le_of_ble_eq_true rfl) rfl ?_
  intro p e s m args below meth c B hr hex hnm
  have B : kB p l s m args meth c D (kA σ s.heap.size) 5 cL_asks RL := B
  refine k_iload_n B dL_asks_0 rfl ?_
  refine k_if_ne B 13 dL_asks_1 (by decide) (fun _ => ?_) (fun c9 => absurd c9 (by decide))
  refine k_iload_n B dL_asks_13 rfl ?_
  refine k_iconst B (v := 1) dL_asks_14 (by decide) ?_
  refine k_icmp_ne B 27 dL_asks_15 (by decide) (fun _ => ?_) (fun c9 => absurd c9 (by decide))
  refine k_iload_n B dL_asks_27 rfl ?_
  refine k_iconst B (v := 2) dL_asks_28 (by decide) ?_
  refine k_icmp_ne B 49 dL_asks_29 (by decide) (fun _ => ?_) (fun c9 => absurd c9 (by decide))
  refine k_iload_n B dL_asks_49 rfl ?_
  refine k_iconst B (v := 3) dL_asks_50 (by decide) ?_
  refine k_icmp_ne B 62 dL_asks_51 (by decide) (fun c9 => (c9 (rfl)).elim) (fun _ => ?_)
  refine k_aload_n B dL_asks_54 rfl (by first | exact kRf_r _ | exact kRf_q _ | exact kRf_n) ?_
  refine k_iload_n B dL_asks_55 rfl ?_
  refine cl_L_23 B (c_X9_forbid hl hs h) (h.rv.choose_spec) dL_asks_56 (by first | exact Nat.le_of_ble_eq_true rfl | omega | (simp only [kR, Value.category, kCat_q, List.map, List.sum_cons, List.sum_nil]; omega)) (by first | exact Nat.le_of_ble_eq_true rfl | omega | (simp only [kR, Value.category, kCat_q, List.map, List.sum_cons, List.sum_nil]; omega)) (by first | exact Nat.le_of_ble_eq_true rfl | omega | (simp only [kR, Value.category, kCat_q, List.map, List.sum_cons, List.sum_nil]; omega)) (by first | exact Nat.le_of_ble_eq_true rfl | omega | (simp only [kR, Value.category, kCat_q, List.map, List.sum_cons, List.sum_nil]; omega)) (by first | exact Nat.le_of_ble_eq_true rfl | omega | (simp only [kR, Value.category, kCat_q, List.map, List.sum_cons, List.sum_nil]; omega)) (fun E hE => asks_x B hr hex (by decide) (by decide) (by decide) (e3_X hE (fun h => e3_S h)) (Or.inr ⟨E, hE, rfl, rfl⟩) (by first | exact Nat.le_of_ble_eq_true rfl | omega) (by first | exact Nat.le_of_ble_eq_true rfl | omega)) (fun v56 s56 hp56 => ?_)
  obtain ⟨hg, e1, h2, f2⟩ := hp56
  rw [e1]
  refine kK.rev (y := .int (rForbid z p0)) rfl ?_
  refine k_goto B 111 dL_asks_59 (by decide) ?_
  refine k_iret B hr dL_asks_111 ?_ (by first | exact Nat.le_of_ble_eq_true rfl | omega | (simp only [kR, Value.category, kCat_q, List.map, List.sum_cons, List.sum_nil]; omega)) (by first | exact Nat.le_of_ble_eq_true rfl | omega | (simp only [kR, Value.category, kCat_q, List.map, List.sum_cons, List.sum_nil]; omega))
  exact Or.inl ⟨hg, rfl, h2, f2⟩
set_option maxRecDepth 100000 in
theorem c_L_asks4 (hl : l.stackTraces = false) (hs : sOk z) (h : cl9 D aO z J F σ) {p0 p1 : Int32} : kMh hL_asks l D yL_asks 9 3 18 [.ref aO, .int 4, .int p0, .int p1] σ (aPo (gSpill z p0 p1) (rSpill z p0 p1) (fun s2 => cl9 D aO (nSpill z p0 p1) J F s2 ∧ kFr k9F σ s2) σ) (fun _ => False) := by
  refine kM_ofW (L := [some (.ref aO), some (.int 4), some (.int p0), some (.int p1), none]) (by decide +kernel) hl (List.forall_mem_cons.mpr ⟨rfl, (List.forall_mem_cons.mpr ⟨rfl, (List.forall_mem_cons.mpr ⟨rfl, (List.forall_mem_cons.mpr ⟨rfl, (fun _ h => absurd h List.not_mem_nil)⟩)⟩)⟩)⟩) (Nat.le_of_ble_eq_true rfl) rfl ?_
  intro p e s m args below meth c B hr hex hnm
  have B : kB p l s m args meth c D (kA σ s.heap.size) 5 cL_asks RL := B
  refine k_iload_n B dL_asks_0 rfl ?_
  refine k_if_ne B 13 dL_asks_1 (by decide) (fun _ => ?_) (fun c9 => absurd c9 (by decide))
  refine k_iload_n B dL_asks_13 rfl ?_
  refine k_iconst B (v := 1) dL_asks_14 (by decide) ?_
  refine k_icmp_ne B 27 dL_asks_15 (by decide) (fun _ => ?_) (fun c9 => absurd c9 (by decide))
  refine k_iload_n B dL_asks_27 rfl ?_
  refine k_iconst B (v := 2) dL_asks_28 (by decide) ?_
  refine k_icmp_ne B 49 dL_asks_29 (by decide) (fun _ => ?_) (fun c9 => absurd c9 (by decide))
  refine k_iload_n B dL_asks_49 rfl ?_
  refine k_iconst B (v := 3) dL_asks_50 (by decide) ?_
  refine k_icmp_ne B 62 dL_asks_51 (by decide) (fun _ => ?_) (fun c9 => absurd c9 (by decide))
  refine k_iload_n B dL_asks_62 rfl ?_
  refine k_iconst B (v := 4) dL_asks_63 (by decide) ?_
  refine k_icmp_ne B 76 dL_asks_64 (by decide) (fun c9 => (c9 (rfl)).elim) (fun _ => ?_)
  refine k_aload_n B dL_asks_67 rfl (by first | exact kRf_r _ | exact kRf_q _ | exact kRf_n) ?_
  refine k_iload_n B dL_asks_68 rfl ?_
  refine k_iload_n B dL_asks_69 rfl ?_
  refine cl_L_27 B (c_X9_spill hl hs h) (h.rv.choose_spec) dL_asks_70 (by first | exact Nat.le_of_ble_eq_true rfl | omega | (simp only [kR, Value.category, kCat_q, List.map, List.sum_cons, List.sum_nil]; omega)) (by first | exact Nat.le_of_ble_eq_true rfl | omega | (simp only [kR, Value.category, kCat_q, List.map, List.sum_cons, List.sum_nil]; omega)) (by first | exact Nat.le_of_ble_eq_true rfl | omega | (simp only [kR, Value.category, kCat_q, List.map, List.sum_cons, List.sum_nil]; omega)) (by first | exact Nat.le_of_ble_eq_true rfl | omega | (simp only [kR, Value.category, kCat_q, List.map, List.sum_cons, List.sum_nil]; omega)) (by first | exact Nat.le_of_ble_eq_true rfl | omega | (simp only [kR, Value.category, kCat_q, List.map, List.sum_cons, List.sum_nil]; omega)) (fun E hE => asks_x B hr hex (by decide) (by decide) (by decide) (e3_C hE (fun h => e3_X h (fun h => e3_S h))) (Or.inr ⟨E, hE, rfl, rfl⟩) (by first | exact Nat.le_of_ble_eq_true rfl | omega) (by first | exact Nat.le_of_ble_eq_true rfl | omega)) (fun v70 s70 hp70 => ?_)
  obtain ⟨hg, e1, h2, f2⟩ := hp70
  rw [e1]
  refine kK.rev (y := .int (rSpill z p0 p1)) rfl ?_
  refine k_goto B 111 dL_asks_73 (by decide) ?_
  refine k_iret B hr dL_asks_111 ?_ (by first | exact Nat.le_of_ble_eq_true rfl | omega | (simp only [kR, Value.category, kCat_q, List.map, List.sum_cons, List.sum_nil]; omega)) (by first | exact Nat.le_of_ble_eq_true rfl | omega | (simp only [kR, Value.category, kCat_q, List.map, List.sum_cons, List.sum_nil]; omega))
  exact Or.inl ⟨hg, rfl, h2, f2⟩
set_option maxRecDepth 100000 in
theorem c_L_asks5 (hl : l.stackTraces = false) (hs : sOk z) (h : cl9 D aO z J F σ) {p0 p1 : Int32} : kMh hL_asks l D yL_asks 9 3 18 [.ref aO, .int 5, .int p0, .int p1] σ (aPo (gLand z p0 p1) (rLand z p0) (fun s2 => cl9 D aO (nLand z p0 p1) J F s2 ∧ kFr k9F σ s2) σ) (fun _ => False) := by
  refine kM_ofW (L := [some (.ref aO), some (.int 5), some (.int p0), some (.int p1), none]) (by decide +kernel) hl (List.forall_mem_cons.mpr ⟨rfl, (List.forall_mem_cons.mpr ⟨rfl, (List.forall_mem_cons.mpr ⟨rfl, (List.forall_mem_cons.mpr ⟨rfl, (fun _ h => absurd h List.not_mem_nil)⟩)⟩)⟩)⟩) (Nat.le_of_ble_eq_true rfl) rfl ?_
  intro p e s m args below meth c B hr hex hnm
  have B : kB p l s m args meth c D (kA σ s.heap.size) 5 cL_asks RL := B
  refine k_iload_n B dL_asks_0 rfl ?_
  refine k_if_ne B 13 dL_asks_1 (by decide) (fun _ => ?_) (fun c9 => absurd c9 (by decide))
  refine k_iload_n B dL_asks_13 rfl ?_
  refine k_iconst B (v := 1) dL_asks_14 (by decide) ?_
  refine k_icmp_ne B 27 dL_asks_15 (by decide) (fun _ => ?_) (fun c9 => absurd c9 (by decide))
  refine k_iload_n B dL_asks_27 rfl ?_
  refine k_iconst B (v := 2) dL_asks_28 (by decide) ?_
  refine k_icmp_ne B 49 dL_asks_29 (by decide) (fun _ => ?_) (fun c9 => absurd c9 (by decide))
  refine k_iload_n B dL_asks_49 rfl ?_
  refine k_iconst B (v := 3) dL_asks_50 (by decide) ?_
  refine k_icmp_ne B 62 dL_asks_51 (by decide) (fun _ => ?_) (fun c9 => absurd c9 (by decide))
  refine k_iload_n B dL_asks_62 rfl ?_
  refine k_iconst B (v := 4) dL_asks_63 (by decide) ?_
  refine k_icmp_ne B 76 dL_asks_64 (by decide) (fun _ => ?_) (fun c9 => absurd c9 (by decide))
  refine k_iload_n B dL_asks_76 rfl ?_
  refine k_iconst B (v := 5) dL_asks_77 (by decide) ?_
  refine k_icmp_ne B 90 dL_asks_78 (by decide) (fun c9 => (c9 (rfl)).elim) (fun _ => ?_)
  refine k_aload_n B dL_asks_81 rfl (by first | exact kRf_r _ | exact kRf_q _ | exact kRf_n) ?_
  refine k_iload_n B dL_asks_82 rfl ?_
  refine k_iload_n B dL_asks_83 rfl ?_
  refine cl_L_30 B (c_X9_land hl hs h) (h.rv.choose_spec) dL_asks_84 (by first | exact Nat.le_of_ble_eq_true rfl | omega | (simp only [kR, Value.category, kCat_q, List.map, List.sum_cons, List.sum_nil]; omega)) (by first | exact Nat.le_of_ble_eq_true rfl | omega | (simp only [kR, Value.category, kCat_q, List.map, List.sum_cons, List.sum_nil]; omega)) (by first | exact Nat.le_of_ble_eq_true rfl | omega | (simp only [kR, Value.category, kCat_q, List.map, List.sum_cons, List.sum_nil]; omega)) (by first | exact Nat.le_of_ble_eq_true rfl | omega | (simp only [kR, Value.category, kCat_q, List.map, List.sum_cons, List.sum_nil]; omega)) (by first | exact Nat.le_of_ble_eq_true rfl | omega | (simp only [kR, Value.category, kCat_q, List.map, List.sum_cons, List.sum_nil]; omega)) (fun E hE => asks_x B hr hex (by decide) (by decide) (by decide) (e3_C hE (fun h => e3_R h (fun h => e3_S h))) (Or.inr ⟨E, hE, rfl, rfl⟩) (by first | exact Nat.le_of_ble_eq_true rfl | omega) (by first | exact Nat.le_of_ble_eq_true rfl | omega)) (fun v84 s84 hp84 => ?_)
  obtain ⟨hg, e1, h2, f2⟩ := hp84
  rw [e1]
  refine kK.rev (y := .int (rLand z p0)) rfl ?_
  refine k_goto B 111 dL_asks_87 (by decide) ?_
  refine k_iret B hr dL_asks_111 ?_ (by first | exact Nat.le_of_ble_eq_true rfl | omega | (simp only [kR, Value.category, kCat_q, List.map, List.sum_cons, List.sum_nil]; omega)) (by first | exact Nat.le_of_ble_eq_true rfl | omega | (simp only [kR, Value.category, kCat_q, List.map, List.sum_cons, List.sum_nil]; omega))
  exact Or.inl ⟨hg, rfl, h2, f2⟩
set_option maxRecDepth 100000 in
theorem c_L_asks6 (hl : l.stackTraces = false) (hs : sOk z) (h : cl9 D aO z J F σ) {p0 p1 : Int32} : kMh hL_asks l D yL_asks 9 3 18 [.ref aO, .int 6, .int p0, .int p1] σ (aPo (gLead p0 p1) (rLead z p0) (fun s2 => cl9 D aO (nLead z p0 p1) J F s2 ∧ kFr k9F σ s2) σ) (fun _ => False) := by
  refine kM_ofW (L := [some (.ref aO), some (.int 6), some (.int p0), some (.int p1), none]) (by decide +kernel) hl (List.forall_mem_cons.mpr ⟨rfl, (List.forall_mem_cons.mpr ⟨rfl, (List.forall_mem_cons.mpr ⟨rfl, (List.forall_mem_cons.mpr ⟨rfl, (fun _ h => absurd h List.not_mem_nil)⟩)⟩)⟩)⟩) (Nat.le_of_ble_eq_true rfl) rfl ?_
  intro p e s m args below meth c B hr hex hnm
  have B : kB p l s m args meth c D (kA σ s.heap.size) 5 cL_asks RL := B
  refine k_iload_n B dL_asks_0 rfl ?_
  refine k_if_ne B 13 dL_asks_1 (by decide) (fun _ => ?_) (fun c9 => absurd c9 (by decide))
  refine k_iload_n B dL_asks_13 rfl ?_
  refine k_iconst B (v := 1) dL_asks_14 (by decide) ?_
  refine k_icmp_ne B 27 dL_asks_15 (by decide) (fun _ => ?_) (fun c9 => absurd c9 (by decide))
  refine k_iload_n B dL_asks_27 rfl ?_
  refine k_iconst B (v := 2) dL_asks_28 (by decide) ?_
  refine k_icmp_ne B 49 dL_asks_29 (by decide) (fun _ => ?_) (fun c9 => absurd c9 (by decide))
  refine k_iload_n B dL_asks_49 rfl ?_
  refine k_iconst B (v := 3) dL_asks_50 (by decide) ?_
  refine k_icmp_ne B 62 dL_asks_51 (by decide) (fun _ => ?_) (fun c9 => absurd c9 (by decide))
  refine k_iload_n B dL_asks_62 rfl ?_
  refine k_iconst B (v := 4) dL_asks_63 (by decide) ?_
  refine k_icmp_ne B 76 dL_asks_64 (by decide) (fun _ => ?_) (fun c9 => absurd c9 (by decide))
  refine k_iload_n B dL_asks_76 rfl ?_
  refine k_iconst B (v := 5) dL_asks_77 (by decide) ?_
  refine k_icmp_ne B 90 dL_asks_78 (by decide) (fun _ => ?_) (fun c9 => absurd c9 (by decide))
  refine k_iload_n B dL_asks_90 rfl ?_
  refine k_bipush B (v := 6) dL_asks_91 (by decide) ?_
  refine k_icmp_ne B 105 dL_asks_93 (by decide) (fun c9 => (c9 (rfl)).elim) (fun _ => ?_)
  refine k_aload_n B dL_asks_96 rfl (by first | exact kRf_r _ | exact kRf_q _ | exact kRf_n) ?_
  refine k_iload_n B dL_asks_97 rfl ?_
  refine k_iload_n B dL_asks_98 rfl ?_
  refine cl_L_33 B (c_X9_lead hl hs h) (h.rv.choose_spec) dL_asks_99 (by first | exact Nat.le_of_ble_eq_true rfl | omega | (simp only [kR, Value.category, kCat_q, List.map, List.sum_cons, List.sum_nil]; omega)) (by first | exact Nat.le_of_ble_eq_true rfl | omega | (simp only [kR, Value.category, kCat_q, List.map, List.sum_cons, List.sum_nil]; omega)) (by first | exact Nat.le_of_ble_eq_true rfl | omega | (simp only [kR, Value.category, kCat_q, List.map, List.sum_cons, List.sum_nil]; omega)) (by first | exact Nat.le_of_ble_eq_true rfl | omega | (simp only [kR, Value.category, kCat_q, List.map, List.sum_cons, List.sum_nil]; omega)) (by first | exact Nat.le_of_ble_eq_true rfl | omega | (simp only [kR, Value.category, kCat_q, List.map, List.sum_cons, List.sum_nil]; omega)) (fun E hE => asks_x B hr hex (by decide) (by decide) (by decide) (e3_lead hE) (Or.inr ⟨E, hE, rfl, rfl⟩) (by first | exact Nat.le_of_ble_eq_true rfl | omega) (by first | exact Nat.le_of_ble_eq_true rfl | omega)) (fun v99 s99 hp99 => ?_)
  obtain ⟨hg, e1, h2, f2⟩ := hp99
  rw [e1]
  refine kK.rev (y := .int (rLead z p0)) rfl ?_
  refine k_goto B 111 dL_asks_102 (by decide) ?_
  refine k_iret B hr dL_asks_111 ?_ (by first | exact Nat.le_of_ble_eq_true rfl | omega | (simp only [kR, Value.category, kCat_q, List.map, List.sum_cons, List.sum_nil]; omega)) (by first | exact Nat.le_of_ble_eq_true rfl | omega | (simp only [kR, Value.category, kCat_q, List.map, List.sum_cons, List.sum_nil]; omega))
  exact Or.inl ⟨hg, rfl, h2, f2⟩
set_option maxRecDepth 100000 in
theorem c_L_asks7 (hl : l.stackTraces = false) (hs : sOk z) (h : cl9 D aO z J F σ) {p0 p1 : Int32} : kMh hL_asks l D yL_asks 9 2 12 [.ref aO, .int 7, .int p0, .int p1] σ (aPo (gLotOf z p0 p1) (rLotOf z p0 p1) (fun s2 => s2 = σ) σ) (fun _ => False) := by
  refine kM_ofW (L := [some (.ref aO), some (.int 7), some (.int p0), some (.int p1), none]) (by decide +kernel) hl (List.forall_mem_cons.mpr ⟨rfl, (List.forall_mem_cons.mpr ⟨rfl, (List.forall_mem_cons.mpr ⟨rfl, (List.forall_mem_cons.mpr ⟨rfl, (fun _ h => absurd h List.not_mem_nil)⟩)⟩)⟩)⟩) (Nat.le_of_ble_eq_true rfl) rfl ?_
  intro p e s m args below meth c B hr hex hnm
  have B : kB p l s m args meth c D (kA σ s.heap.size) 5 cL_asks RL := B
  refine k_iload_n B dL_asks_0 rfl ?_
  refine k_if_ne B 13 dL_asks_1 (by decide) (fun _ => ?_) (fun c9 => absurd c9 (by decide))
  refine k_iload_n B dL_asks_13 rfl ?_
  refine k_iconst B (v := 1) dL_asks_14 (by decide) ?_
  refine k_icmp_ne B 27 dL_asks_15 (by decide) (fun _ => ?_) (fun c9 => absurd c9 (by decide))
  refine k_iload_n B dL_asks_27 rfl ?_
  refine k_iconst B (v := 2) dL_asks_28 (by decide) ?_
  refine k_icmp_ne B 49 dL_asks_29 (by decide) (fun _ => ?_) (fun c9 => absurd c9 (by decide))
  refine k_iload_n B dL_asks_49 rfl ?_
  refine k_iconst B (v := 3) dL_asks_50 (by decide) ?_
  refine k_icmp_ne B 62 dL_asks_51 (by decide) (fun _ => ?_) (fun c9 => absurd c9 (by decide))
  refine k_iload_n B dL_asks_62 rfl ?_
  refine k_iconst B (v := 4) dL_asks_63 (by decide) ?_
  refine k_icmp_ne B 76 dL_asks_64 (by decide) (fun _ => ?_) (fun c9 => absurd c9 (by decide))
  refine k_iload_n B dL_asks_76 rfl ?_
  refine k_iconst B (v := 5) dL_asks_77 (by decide) ?_
  refine k_icmp_ne B 90 dL_asks_78 (by decide) (fun _ => ?_) (fun c9 => absurd c9 (by decide))
  refine k_iload_n B dL_asks_90 rfl ?_
  refine k_bipush B (v := 6) dL_asks_91 (by decide) ?_
  refine k_icmp_ne B 105 dL_asks_93 (by decide) (fun _ => ?_) (fun c9 => absurd c9 (by decide))
  refine k_aload_n B dL_asks_105 rfl (by first | exact kRf_r _ | exact kRf_q _ | exact kRf_n) ?_
  refine k_iload_n B dL_asks_106 rfl ?_
  refine k_iload_n B dL_asks_107 rfl ?_
  refine cl_L_36 B (c_X9_lotOf hl hs h) (h.rv.choose_spec) dL_asks_108 (by first | exact Nat.le_of_ble_eq_true rfl | omega | (simp only [kR, Value.category, kCat_q, List.map, List.sum_cons, List.sum_nil]; omega)) (by first | exact Nat.le_of_ble_eq_true rfl | omega | (simp only [kR, Value.category, kCat_q, List.map, List.sum_cons, List.sum_nil]; omega)) (by first | exact Nat.le_of_ble_eq_true rfl | omega | (simp only [kR, Value.category, kCat_q, List.map, List.sum_cons, List.sum_nil]; omega)) (by first | exact Nat.le_of_ble_eq_true rfl | omega | (simp only [kR, Value.category, kCat_q, List.map, List.sum_cons, List.sum_nil]; omega)) (by first | exact Nat.le_of_ble_eq_true rfl | omega | (simp only [kR, Value.category, kCat_q, List.map, List.sum_cons, List.sum_nil]; omega)) (fun E hE => asks_x B hr hex (by decide) (by decide) (by decide) (e3_X hE (fun h => e3_R h (fun h => e3_N h))) (Or.inr ⟨E, hE, rfl, rfl⟩) (by first | exact Nat.le_of_ble_eq_true rfl | omega) (by first | exact Nat.le_of_ble_eq_true rfl | omega)) (fun v108 s108 hp108 => ?_)
  obtain ⟨hg, e1, e2⟩ := hp108
  rw [e1]
  refine kK.rev (y := .int (rLotOf z p0 p1)) rfl ?_
  refine k_iret B hr dL_asks_111 ?_ (by first | exact Nat.le_of_ble_eq_true rfl | omega | (simp only [kR, Value.category, kCat_q, List.map, List.sum_cons, List.sum_nil]; omega)) (by first | exact Nat.le_of_ble_eq_true rfl | omega | (simp only [kR, Value.category, kCat_q, List.map, List.sum_cons, List.sum_nil]; omega))
  exact Or.inl ⟨hg, rfl, e2⟩
set_option maxRecDepth 100000 in
theorem c_L_isContract (hl : l.stackTraces = false) (hs : sOk z) (h : cl9 D aO z J F σ) {p0 p1 p2 : Int32} (hgS : ∀ E, gContract z p0 p1 p2 = some E → E = eS) : kMh hL_isContract l D yL_isContract 9 4 24 [.ref aO, .int p0, .int p1, .int p2] σ (fun v s2 => (gContract z p0 p1 p2 = none ∧ v = some (.int 1) ∧ cl9 D aO (nContract z p0 p1 p2) J F s2 ∧ kFr k9F σ s2) ∨ (gContract z p0 p1 p2 = some eS ∧ v = some (.int 0) ∧ s2 = σ)) (fun _ => False) := by
  refine kM_ofW (L := [some (.ref aO), some (.int p0), some (.int p1), some (.int p2), none]) (by decide +kernel) hl (List.forall_mem_cons.mpr ⟨rfl, (List.forall_mem_cons.mpr ⟨rfl, (List.forall_mem_cons.mpr ⟨rfl, (List.forall_mem_cons.mpr ⟨rfl, (fun _ h => absurd h List.not_mem_nil)⟩)⟩)⟩)⟩) (Nat.le_of_ble_eq_true rfl) rfl ?_
  intro p e s m args below meth c B hr hex hnm
  have B : kB p l s m args meth c D (kA σ s.heap.size) 5 cL_isContract RL := B
  refine k_aload_n B dL_isContract_0 rfl (by first | exact kRf_r _ | exact kRf_q _ | exact kRf_n) ?_
  refine k_iload_n B dL_isContract_1 rfl ?_
  refine k_iload_n B dL_isContract_2 rfl ?_
  refine k_iload_n B dL_isContract_3 rfl ?_
  refine cl_L_48 B (c_X9_contract hl hs h) (h.rv.choose_spec) dL_isContract_4 (by first | exact Nat.le_of_ble_eq_true rfl | omega | (simp only [kR, Value.category, kCat_q, List.map, List.sum_cons, List.sum_nil]; omega)) (by first | exact Nat.le_of_ble_eq_true rfl | omega | (simp only [kR, Value.category, kCat_q, List.map, List.sum_cons, List.sum_nil]; omega)) (by first | exact Nat.le_of_ble_eq_true rfl | omega | (simp only [kR, Value.category, kCat_q, List.map, List.sum_cons, List.sum_nil]; omega)) (by first | exact Nat.le_of_ble_eq_true rfl | omega | (simp only [kR, Value.category, kCat_q, List.map, List.sum_cons, List.sum_nil]; omega)) (by first | exact Nat.le_of_ble_eq_true rfl | omega | (simp only [kR, Value.category, kCat_q, List.map, List.sum_cons, List.sum_nil]; omega)) (fun E hE => ?_) (fun v4 s4 hp4 => ?_)
  · have e1 := hgS E hE
    subst e1
    refine k_catch B [] ⟨0, 8, 9, 45⟩ [] hex (fun z hz => absurd hz List.not_mem_nil) (by decide) (by decide) qw512 csTx3 (fun q9 => ?_)
    refine k_astore B dL_isContract_9 (by decide) (by first | exact kRf_r _ | exact kRf_q _ | exact kRf_n) ?_
    try refine kK.set1 (by first | exact True.intro | rfl | exact kCat_q _) ?_
    refine k_iconst B (v := 0) dL_isContract_11 (by decide) ?_
    refine k_zret B hr dL_isContract_12 (by rfl) ?_ (by first | exact Nat.le_of_ble_eq_true rfl | omega | (simp only [kR, Value.category, kCat_q, List.map, List.sum_cons, List.sum_nil]; omega)) (by first | exact Nat.le_of_ble_eq_true rfl | omega | (simp only [kR, Value.category, kCat_q, List.map, List.sum_cons, List.sum_nil]; omega))
    exact Or.inr ⟨hE, rfl, rfl⟩
  · obtain ⟨hg, e1, h2, f2⟩ := hp4
    rw [e1]
    refine k_iconst B (v := 1) dL_isContract_7 (by decide) ?_
    refine k_zret B hr dL_isContract_8 (by rfl) ?_ (by first | exact Nat.le_of_ble_eq_true rfl | omega | (simp only [kR, Value.category, kCat_q, List.map, List.sum_cons, List.sum_nil]; omega)) (by first | exact Nat.le_of_ble_eq_true rfl | omega | (simp only [kR, Value.category, kCat_q, List.map, List.sum_cons, List.sum_nil]; omega))
    exact Or.inl ⟨hg, rfl, h2, f2⟩
end LA
