theorem tkS_ok {P : List kP} {w y : Nat} (h : ∀ q ∈ P, pOk y q) : (∀ q ∈ (tkS P w).1, pOk y q) ∧ ∀ q ∈ (tkS P w).2, pOk y q := by
  induction P generalizing w with
  | nil => exact ⟨fun q hq => (by cases hq), fun q hq => (by cases hq)⟩
  | cons p t ih =>
    have hp := h p List.mem_cons_self
    have ht : ∀ q ∈ t, pOk y q := fun q hq => h q (List.mem_cons_of_mem _ hq)
    by_cases h1 : kUn p ≤ w
    · rw [tkS_cons_le h1]
      refine ⟨fun q hq => ?_, (ih ht).2⟩
      rcases List.mem_cons.mp hq with e | e
      · subst e; exact hp
      · exact (ih ht).1 q e
    · by_cases h0 : w = 0
      · subst h0
        rw [tkS_cons_0 h1]
        exact ⟨fun q hq => (by cases hq), h⟩
      · rw [tkS_cons_gt h1 h0]
        refine ⟨fun q hq => ?_, fun q hq => ?_⟩
        · have e : q = pPart p w := by simpa using hq
          subst e
          exact ⟨hp.1, hp.2.1, hp.2.2.1, (by omega : 1 ≤ w)⟩
        · rcases List.mem_cons.mp hq with e | e
          · subst e
            exact ⟨hp.1, hp.2.1, hp.2.2.1, (by omega : 1 ≤ kUn p - w)⟩
          · exact ht q e
theorem ldN_ok {K : Nat → kCl} {P : Nat → List kP} {y : Nat} (hK : ∀ i d, i < 10 → (K i).1 = some d → d < i) (hP : ∀ i, i < 11 → ∀ q ∈ P i, pOk y q) {n : Nat} (hn : n ≤ 10) : ∀ i, i < 11 → ∀ q ∈ ldN K P n i, pOk y q := by
  induction n with
  | zero =>
    intro i hi q hq
    have hq : q ∈ upN P 10 [] i := hq
    by_cases e : i = 10
    · subst e; rw [upN_eq] at hq; cases hq
    · rw [upN_ne e] at hq; exact hP i hi q hq
  | succ n ih =>
    intro i hi q hq
    obtain ⟨h1, h2⟩ := ldD_ok (hK n · (by omega)) (show n < 10 by omega)
    have hq : q ∈ ldS K (ldN K P n) n i := hq
    rw [ldS] at hq
    by_cases e : i = ldD K n
    · rw [e, upN_eq] at hq
      rcases List.mem_append.mp hq with hq | hq
      · exact ih (by omega) _ h1 q hq
      · exact (tkS_ok (ih (by omega) n (by omega))).1 q hq
    · rw [upN_ne e] at hq
      by_cases e2 : i = n
      · subst e2; rw [upN_eq] at hq
        exact (tkS_ok (ih (by omega) i (by omega))).2 q hq
      · rw [upN_ne e2] at hq
        exact ih (by omega) i hi q hq
theorem nitOf_le (a b : Nat) : nitOf a b ≤ 10 := by unfold nitOf; split; decide; split <;> decide
theorem suN_add {f : Nat → Nat} {r n : Nat} : suN (fun i => f i + r) n = suN f n + n * r := by
  induction n with
  | zero => simp [suN]
  | succ n ih => simp only [suN, ih, Nat.succ_mul]; omega
theorem suN_mono {f g : Nat → Nat} {n : Nat} (h : ∀ i, i < n → f i ≤ g i) : suN f n ≤ suN g n := by
  induction n with
  | zero => exact Nat.le_refl _
  | succ n ih => simp only [suN]; have := ih (fun i hi => h i (by omega)); have := h n (by omega); omega
/-- the rows behind a year -/
def oneR (z : kSt) (r : Nat) : Nat → List kP := if r = 0 then ldN (sK z) (sR z) 10 else raP (leadS z) (sNow z) r 10
theorem oneR_eq {z : kSt} {r : Nat} : sR (oneS z r) = oneR z r := by
  unfold oneS rainO oneR
  split <;> rfl
theorem oneS_ok {z : kSt} {r : Nat} (hs : sOk z) (hn : sNow z < 300) (hr : r ≤ 1000) : sOk (oneS z r) := by
  have hK : ∀ i d, i < 10 → (sK z i).1 = some d → d < i := fun i d hi => (hs.2.1 i hi).1 d
  obtain ⟨⟨h1, h2, h3, h4, h5⟩, h6, ⟨h7, h8⟩, ⟨h9, h10⟩, h11, h12, h13⟩ := hs
  have e0 : sWn (oneS z r) = sWn z := by unfold oneS rainO; split <;> rfl
  have eL : sLn (oneS z r) = sLn z := by unfold oneS rainO; split <;> rfl
  have eLo : sLo (oneS z r) = sLo z := by unfold oneS rainO; split <;> rfl
  have eN : sNow (oneS z r) = sNow z + 1 := by unfold oneS rainO; split <;> rfl
  have eW : sW (oneS z r) = tkW z (sWn z) := by unfold oneS rainO; split <;> rfl
  have hsum := ldN_sum (P := sR z) hK (n := 10) (by decide)
  have hld := ldN_ok (y := sNow z) hK h11 (n := 10) (by decide)
  have hhi : ∀ i, 11 ≤ i → oneR z r i = sR z i := by
    intro i hi
    unfold oneR
    split
    · exact ldN_hi hK (by decide) hi
    · rw [raP, if_neg (by omega)]; exact ldN_hi hK (by decide) hi
  refine ⟨⟨by rw [eN]; omega, ?_, ?_, ?_, ?_⟩, fun i hi => ?_, ⟨by rw [e0]; exact h7, fun i hi => ?_⟩, ⟨by rw [eL]; exact h9, fun i hi => ?_⟩, fun i hi q hq => ?_, ?_, ?_⟩
  · have : sCen (oneS z r) = sCen z := by unfold oneS rainO; split <;> rfl
    rw [this]; exact h2
  · have : sDr (oneS z r) = sDr z := by unfold oneS rainO; split <;> rfl
    rw [this]; exact h3
  · have : sL1 (oneS z r) = sL1 z := by unfold oneS rainO; split <;> rfl
    rw [this]; exact h4
  · have : sL2 (oneS z r) = sL2 z := by unfold oneS rainO; split <;> rfl
    rw [this]; exact h5
  · have hk := rainO_ok (z := leadS z) (r := r) h6 i hi
    show clOk i (paK (rainO (leadS z) r) 10 i)
    rw [paK, if_pos hi]
    exact ⟨hk.1, hk.2.1, hk.2.2.1, hk.2.2.2.1, by have := hk.2.2.2.2.1; show _ - 1 ≤ 30; omega, hk.2.2.2.2.2⟩
  · rw [e0] at hi
    rw [eW, tkW, if_pos hi]
    have := h8 i hi
    exact ⟨this.1, this.2.1, Nat.zero_le _⟩
  · rw [eL] at hi
    have := h10 i hi
    rw [eN, eLo, oneR_eq, hhi (11 + i) (by omega)]
    exact ⟨this.1, by have := this.2.1; omega, this.2.2⟩
  · rw [oneR_eq] at hq
    rw [eN]
    have mono : ∀ q, pOk (sNow z) q → pOk (sNow z + 1) q := fun q h => ⟨h.1, by have := h.2.1; omega, h.2.2⟩
    unfold oneR at hq
    split at hq
    · exact mono q (hld i hi q hq)
    · rename_i hr0
      unfold raP at hq
      split at hq
      · rename_i hi10
        rcases List.mem_append.mp hq with hq | hq
        · exact mono q (hld i hi q hq)
        · have e : q = raQ (leadS z) (sNow z) r i := by simpa using hq
          subst e
          exact ⟨hi10, Nat.lt_succ_self _, nitOf_le _ _, (by omega : 1 ≤ r)⟩
      · exact mono q (hld i hi q hq)
  · rw [eN, oneR_eq]
    have h11a : suN (fun i => unS (ldN (sK z) (sR z) 10 i)) 11 = suN (fun i => unS (ldN (sK z) (sR z) 10 i)) 10 + unS (ldN (sK z) (sR z) 10 10) := rfl
    have hle : suN (fun i => unS (oneR z r i)) 10 ≤ suN (fun i => unS (ldN (sK z) (sR z) 10 i) + 1000) 10 := suN_mono (fun i hi => by
      unfold oneR
      split
      · omega
      · rw [raP, if_pos hi, unS_app]
        show _ + (r + 0) ≤ _
        have : unS (sR (leadS z) i) = unS (ldN (sK z) (sR z) 10 i) := rfl
        omega)
    rw [suN_add] at hle
    omega
  · rw [eN, oneR_eq]
    have h10a : unS (ldN (sK z) (sR z) 10 10) ≤ suN (fun i => unS (ldN (sK z) (sR z) 10 i)) 11 := suN_le (f := fun i => unS (ldN (sK z) (sR z) 10 i)) (by decide)
    have e10 : oneR z r 10 = ldN (sK z) (sR z) 10 10 := by
      unfold oneR
      split
      · rfl
      · rw [raP, if_neg (by omega)]; rfl
    rw [e10]
    omega
def passS (r : Nat) : Nat → kSt → kSt
  | 0, z => z
  | n + 1, z => oneS (passS r n z) r
def passJ (r : Nat) : Nat → kSt → List kJe → List kJe
  | 0, _, J => J
  | n + 1, z, J => oneJ (passS r n z) r (passJ r n z J)
theorem oneS_now {z : kSt} {r : Nat} : sNow (oneS z r) = sNow z + 1 := by unfold oneS rainO; split <;> rfl
theorem passS_now {z : kSt} {r n : Nat} : sNow (passS r n z) = sNow z + n := by
  induction n with
  | zero => rfl
  | succ n ih => show sNow (oneS (passS r n z) r) = _; rw [oneS_now, ih]; omega
theorem passS_ok {z : kSt} {r n : Nat} (hs : sOk z) (hn : sNow z + n ≤ 300) (hr : r ≤ 1000) : sOk (passS r n z) := by
  induction n with
  | zero => exact hs
  | succ n ih => exact oneS_ok (ih (by omega)) (by rw [passS_now]; omega) hr
def gPass (z : kSt) (y r : Int32) : Option String := gRg y 1 20 (gRg r 0 1000 (gSt (decide (sNow z + cN y ≤ 300))))
def nPass (z : kSt) (y r : Int32) : kSt := passS (cN r) (cN y) z
def jPass (z : kSt) (y r : Int32) (J : List kJe) : List kJe := passJ (cN r) (cN y) z J
def rPass (z : kSt) (y r : Int32) : Int32 := nI (sNow (nPass z y r))
def passN (z : kSt) (y r : Int32) : Nat := if gPass z y r = none then cN y else 0
section Pass
variable {l : Launch} {D : va_G} {σ : kS} {aO : Nat} {z : kSt} {J : List kJe} {F : kF}
set_option maxHeartbeats 1000000 in
set_option maxRecDepth 100000 in
theorem c_X9_pass (hl : l.stackTraces = false) (hs : sOk z) (h : cl9 D aO z J F σ) {y r : Int32} : kMh hX9_pass l D yX9_pass 8 (3 + 31 * passN z y r) (18 + 164 * passN z y r) [.ref aO, .int y, .int r] σ (fun v s2 => gPass z y r = none ∧ v = some (.int (rPass z y r)) ∧ cl9 D aO (nPass z y r) (jPass z y r J) F s2 ∧ kFr k9F σ s2) (fun E => gPass z y r = some E) := by
  refine kM_of (L := [some (.ref aO), some (.int y), some (.int r), none]) (by decide +kernel) hl (List.forall_mem_cons.mpr ⟨rfl, (List.forall_mem_cons.mpr ⟨rfl, (List.forall_mem_cons.mpr ⟨rfl, (fun _ h => absurd h List.not_mem_nil)⟩)⟩)⟩) (Nat.le_of_ble_eq_true rfl) rfl ?_
  intro p e s m args below meth c B hr hex hnm
  have B : kB p l s m args meth c D (kA σ s.heap.size) 4 cX9_pass RX9 := B
  obtain ⟨cA, wA, lA, aJ, cad, ra, wad, lad, R, h⟩ := h
  have hnow := hs.1.1
  generalize hPN : passN z y r = PN
  refine k_iload_n B dX9_pass_0 rfl ?_
  refine k_iconst B (v := 1) dX9_pass_1 (by decide) ?_
  refine k_bipush B (v := 20) dX9_pass_2 (by decide) ?_
  refine cl_X9_56 B (c_X9_needRange hl) dX9_pass_4 (by first | exact Nat.le_of_ble_eq_true rfl | omega | (simp only [kR, Value.category, kCat_q, List.map, List.sum_cons, List.sum_nil]; omega)) (by first | exact Nat.le_of_ble_eq_true rfl | omega | (simp only [kR, Value.category, kCat_q, List.map, List.sum_cons, List.sum_nil]; omega)) (by first | exact Nat.le_of_ble_eq_true rfl | omega | (simp only [kR, Value.category, kCat_q, List.map, List.sum_cons, List.sum_nil]; omega)) (by first | exact Nat.le_of_ble_eq_true rfl | omega | (simp only [kR, Value.category, kCat_q, List.map, List.sum_cons, List.sum_nil]; omega)) (by first | exact Nat.le_of_ble_eq_true rfl | omega | (simp only [kR, Value.category, kCat_q, List.map, List.sum_cons, List.sum_nil]; omega)) (fun E hE => k_xout B hex (fun _ _ h => h) (gRg_n hE) (by omega) (by omega)) (fun v4 s4 hp4 => ?_)
  obtain ⟨rfl, e4, g1⟩ := hp4
  rw [e4]
  refine k_iload_n B dX9_pass_7 rfl ?_
  refine k_iconst B (v := 0) dX9_pass_8 (by decide) ?_
  refine k_sipush B (v := 1000) dX9_pass_9 (by decide) ?_
  refine cl_X9_56 B (c_X9_needRange hl) dX9_pass_12 (by first | exact Nat.le_of_ble_eq_true rfl | omega | (simp only [kR, Value.category, kCat_q, List.map, List.sum_cons, List.sum_nil]; omega)) (by first | exact Nat.le_of_ble_eq_true rfl | omega | (simp only [kR, Value.category, kCat_q, List.map, List.sum_cons, List.sum_nil]; omega)) (by first | exact Nat.le_of_ble_eq_true rfl | omega | (simp only [kR, Value.category, kCat_q, List.map, List.sum_cons, List.sum_nil]; omega)) (by first | exact Nat.le_of_ble_eq_true rfl | omega | (simp only [kR, Value.category, kCat_q, List.map, List.sum_cons, List.sum_nil]; omega)) (by first | exact Nat.le_of_ble_eq_true rfl | omega | (simp only [kR, Value.category, kCat_q, List.map, List.sum_cons, List.sum_nil]; omega)) (fun E hE => k_xout B hex (fun _ _ h => h) ((gRg_p g1).trans (gRg_n hE)) (by omega) (by omega)) (fun v12 s12 hp12 => ?_)
  obtain ⟨rfl, e12, g2⟩ := hp12
  rw [e12]
  obtain ⟨j, hj1, hj2, ej⟩ := inR_of (a := 1) (n := 20) rfl rfl (by decide) (by decide) g1
  subst ej
  obtain ⟨t, ht1, ht2, et⟩ := inR_of (a := 0) (n := 1000) rfl rfl (by decide) (by decide) g2
  subst et
  have gg : gPass z (nI j) (nI t) = gSt (decide (sNow z + j ≤ 300)) := by rw [gPass, gRg_p g1, gRg_p g2, cN_nI (by omega)]
  refine k_aload_n B dX9_pass_15 rfl (by first | exact kRf_r _ | exact kRf_q _ | exact kRf_n) ?_
  refine gf_X9_96 B dX9_pass_16 h.o rfl ?_
  refine k_iload_n B dX9_pass_19 rfl ?_
  refine k_iadd B dX9_pass_20 ?_
  refine kK.rei (y := nI (sNow z + j)) (nI_add _ _) ?_
  refine k_sipush B (v := 300) dX9_pass_21 (by decide) ?_
  refine k_icmp_gt B 31 dX9_pass_24 (by decide) (fun c24 => ?_) (fun c24 => ?_)
  · rename_i c24
    have hn : ¬ sNow z + j ≤ 300 := fun q => i32_lt_nle c24 (nI_le q (by decide))
    refine k_iconst B (v := 0) dX9_pass_31 (by decide) ?_
    refine cl_X9_66 B (c_X9_needState hl) dX9_pass_32 (by first | exact Nat.le_of_ble_eq_true rfl | omega | (simp only [kR, Value.category, kCat_q, List.map, List.sum_cons, List.sum_nil]; omega)) (by first | exact Nat.le_of_ble_eq_true rfl | omega | (simp only [kR, Value.category, kCat_q, List.map, List.sum_cons, List.sum_nil]; omega)) (by first | exact Nat.le_of_ble_eq_true rfl | omega | (simp only [kR, Value.category, kCat_q, List.map, List.sum_cons, List.sum_nil]; omega)) (by first | exact Nat.le_of_ble_eq_true rfl | omega | (simp only [kR, Value.category, kCat_q, List.map, List.sum_cons, List.sum_nil]; omega)) (by first | exact Nat.le_of_ble_eq_true rfl | omega | (simp only [kR, Value.category, kCat_q, List.map, List.sum_cons, List.sum_nil]; omega)) (fun E hE => k_xout B hex (fun _ _ h => h) (gg.trans (gSt_f (decide_eq_false hn) hE.1)) (by omega) (by omega)) (fun v32 s32 hp32 => ?_)
    exact absurd rfl hp32.2.2
  · rename_i c24
    have hn : sNow z + j ≤ 300 := (nI_leI (by omega) (by decide)).mp (i32_nlt c24)
    have hgn : gPass z (nI j) (nI t) = none := gg.trans (gSt_t (decide_eq_true hn))
    have hN : PN = j := by rw [← hPN, passN, if_pos hgn, cN_nI (by omega)]
    subst hN
    refine k_iconst B (v := 1) dX9_pass_27 (by decide) ?_
    refine k_goto B 32 dX9_pass_28 (by decide) ?_
    refine cl_X9_66 B (c_X9_needState hl) dX9_pass_32 (by first | exact Nat.le_of_ble_eq_true rfl | omega | (simp only [kR, Value.category, kCat_q, List.map, List.sum_cons, List.sum_nil]; omega)) (by first | exact Nat.le_of_ble_eq_true rfl | omega | (simp only [kR, Value.category, kCat_q, List.map, List.sum_cons, List.sum_nil]; omega)) (by first | exact Nat.le_of_ble_eq_true rfl | omega | (simp only [kR, Value.category, kCat_q, List.map, List.sum_cons, List.sum_nil]; omega)) (by first | exact Nat.le_of_ble_eq_true rfl | omega | (simp only [kR, Value.category, kCat_q, List.map, List.sum_cons, List.sum_nil]; omega)) (by first | exact Nat.le_of_ble_eq_true rfl | omega | (simp only [kR, Value.category, kCat_q, List.map, List.sum_cons, List.sum_nil]; omega)) (fun E hE => absurd hE.2 (by decide)) (fun v32 s32 hp32 => ?_)
    obtain ⟨rfl, e32, -⟩ := hp32
    rw [e32]
    have eS : nPass z (nI PN) (nI t) = passS t PN z := by rw [nPass, cN_nI (by omega), cN_nI (by omega)]
    have eJ : jPass z (nI PN) (nI t) J = passJ t PN z J := by rw [jPass, cN_nI (by omega), cN_nI (by omega)]
    have loop : ∀ (n i : Nat) (R1 : Nat → kPs) (s1 : kS), i + n = PN → cI D aO cA wA lA aJ cad ra wad lad R1 (passS t i z) (passJ t i z J) F s1 → kFr k9F σ s1 →
        kK p l e (kR 8 (3 + 31 * PN) (18 + 164 * PN)) s m args below meth c D (kA σ s.heap.size) 4 (kQ below args s D σ (fun v s2 => gPass z (nI PN) (nI t) = none ∧ v = some (.int (rPass z (nI PN) (nI t))) ∧ cl9 D aO (nPass z (nI PN) (nI t)) (jPass z (nI PN) (nI t) J) F s2 ∧ kFr k9F σ s2) (fun E => gPass z (nI PN) (nI t) = some E) (3 + 31 * PN) (18 + 164 * PN)) s1 (3 + 31 * i) (18 + 164 * i) 37 [some (.ref aO), some (.int (nI PN)), some (.int (nI t)), some (.int (nI i))] [] := by
      intro n
      induction n with
      | zero =>
        intro i R1 s1 hi h1 hF
        have hi10 : i = PN := by omega
        subst hi10
        refine k_iload_n B dX9_pass_37 rfl ?_
        refine k_iload_n B dX9_pass_38 rfl ?_
        refine k_icmp_ge B 53 dX9_pass_39 (by decide) (fun c39 => ?_) (fun c39 => ?_)
        · refine k_aload_n B dX9_pass_53 rfl (by first | exact kRf_r _ | exact kRf_q _ | exact kRf_n) ?_
          refine gf_X9_96 B dX9_pass_54 h1.o rfl ?_
          refine k_iret B hr dX9_pass_57 ?_ (by first | exact Nat.le_of_ble_eq_true rfl | omega | (simp only [kR, Value.category, kCat_q, List.map, List.sum_cons, List.sum_nil]; omega)) (by first | exact Nat.le_of_ble_eq_true rfl | omega | (simp only [kR, Value.category, kCat_q, List.map, List.sum_cons, List.sum_nil]; omega))
          exact ⟨hgn, by rw [rPass, eS], ⟨cA, wA, lA, aJ, cad, ra, wad, lad, R1, by rw [eS, eJ]; exact h1⟩, hF⟩
        · exact absurd (Int32.le_refl _) c39
      | succ n ih =>
        intro i R1 s1 hi h1 hF
        have hi10 : i < PN := by omega
        refine k_iload_n B dX9_pass_37 rfl ?_
        refine k_iload_n B dX9_pass_38 rfl ?_
        refine k_icmp_ge B 53 dX9_pass_39 (by decide) (fun c39 => ?_) (fun c39 => ?_)
        · exact absurd c39 (nI_ge hi10 (by omega))
        · refine k_aload_n B dX9_pass_42 rfl (by first | exact kRf_r _ | exact kRf_q _ | exact kRf_n) ?_
          refine k_iload_n B dX9_pass_43 rfl ?_
          refine cl_X9_99 B (c_X9_passOne hl (passS_ok hs (by omega) ht2) ht2 h1) h1.o dX9_pass_44 (by first | exact Nat.le_of_ble_eq_true rfl | omega | (simp only [kR, Value.category, kCat_q, List.map, List.sum_cons, List.sum_nil]; omega)) (by first | exact Nat.le_of_ble_eq_true rfl | omega | (simp only [kR, Value.category, kCat_q, List.map, List.sum_cons, List.sum_nil]; omega)) (by first | exact Nat.le_of_ble_eq_true rfl | omega | (simp only [kR, Value.category, kCat_q, List.map, List.sum_cons, List.sum_nil]; omega)) (by first | exact Nat.le_of_ble_eq_true rfl | omega | (simp only [kR, Value.category, kCat_q, List.map, List.sum_cons, List.sum_nil]; omega)) (by first | exact Nat.le_of_ble_eq_true rfl | omega | (simp only [kR, Value.category, kCat_q, List.map, List.sum_cons, List.sum_nil]; omega)) (fun _ hx => hx.elim) (fun v44 s44 hp44 => ?_)
          obtain ⟨rfl, ⟨R2, h2⟩, h3⟩ := hp44
          refine k_iinc1 B dX9_pass_47 rfl (by decide) ?_
          try refine kK.set1 (by first | exact True.intro | rfl | exact kCat_q _) ?_
          refine k_goto B 37 dX9_pass_50 (by decide) ?_
          rw [show nI i + 1 = nI (i + 1) by rw [← nI_1]]
          refine kK.widen (k2 := 3 + 31 * (i + 1)) (n2 := 18 + 164 * (i + 1)) (by omega) (by omega) ?_
          exact ih (i + 1) R2 _ (by omega) h2 (hF.tr h3)
    refine k_iconst B (v := 0) dX9_pass_35 (by decide) ?_
    refine k_istore_n B dX9_pass_36 (by decide) ?_
    try refine kK.set1 (by first | exact True.intro | rfl | exact kCat_q _) ?_
    rw [show (0 : Int32) = nI 0 by rw [nI_0]]
    exact loop PN 0 R σ (by omega) h kFr.rf
end Pass
