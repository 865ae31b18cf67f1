def paK (z : kSt) (n : Nat) : Nat → kCl := fun i => if i < n then ((sK z i).1, (sK z i).2.1, (sK z i).2.2.1, (sK z i).2.2.2.1 - 1, (sK z i).2.2.2.2) else sK z i
def payN (z : kSt) (n : Nat) : Nat := suN (fun i => if 0 < (sK z i).2.2.2.1 then (sK z i).2.2.2.2.1 else 0) n
def paS (z : kSt) (n : Nat) : kSt := ((z.1.1, z.1.2.1, z.1.2.2.1, z.1.2.2.2.1, z.1.2.2.2.2.1, z.1.2.2.2.2.2.1, z.1.2.2.2.2.2.2.1, z.1.2.2.2.2.2.2.2.1, sPai z + payN z n, sVil z), paK z n, z.2.2)
theorem paK_at {z : kSt} {n : Nat} : paK z n n = sK z n := by rw [paK, if_neg (Nat.lt_irrefl n)]
theorem paK_0 {z : kSt} : paK z 0 = sK z := by
  funext i; rw [paK, if_neg (Nat.not_lt_zero i)]
theorem paK_s {z : kSt} {n : Nat} : upN (paK z n) n ((sK z n).1, (sK z n).2.1, (sK z n).2.2.1, (sK z n).2.2.2.1 - 1, (sK z n).2.2.2.2) = paK z (n + 1) := by
  funext i
  by_cases q : i = n
  · subst q; rw [upN_eq, paK, if_pos (Nat.lt_succ_self i)]
  · rw [upN_ne q]
    unfold paK
    by_cases h : i < n
    · rw [if_pos h, if_pos (by omega)]
    · rw [if_neg h, if_neg (by omega)]
def tkW (z : kSt) (n : Nat) : Nat → kWl := fun i => if i < n then ((sW z i).1, (sW z i).2.1, 0) else sW z i
def tkWS (z : kSt) (n : Nat) : kSt := (z.1, z.2.1, z.2.2.1, (sWn z, tkW z n), z.2.2.2.2)
theorem tkW_0 {z : kSt} : tkW z 0 = sW z := by
  funext i; rw [tkW, if_neg (Nat.not_lt_zero i)]
theorem tkW_at {z : kSt} {n : Nat} : tkW z n n = sW z n := by rw [tkW, if_neg (Nat.lt_irrefl n)]
theorem tkW_s {z : kSt} {n : Nat} : upN (tkW z n) n ((sW z n).1, (sW z n).2.1, 0) = tkW z (n + 1) := by
  funext i
  by_cases q : i = n
  · subst q; rw [upN_eq, tkW, if_pos (Nat.lt_succ_self i)]
  · rw [upN_ne q]
    unfold tkW
    by_cases h : i < n
    · rw [if_pos h, if_pos (by omega)]
    · rw [if_neg h, if_neg (by omega)]
def noS (z : kSt) : kSt := ((sNow z + 1, z.1.2), z.2)
def rainO (z : kSt) (r : Nat) : kSt := if r = 0 then z else rainS z r
def oneS (z : kSt) (r : Nat) : kSt := tkWS (noS (paS (rainO (leadS z) r) 10)) (sWn z)
def oneJ (z : kSt) (r : Nat) (J : List kJe) : List kJe := if r = 0 then ldJ (sK z) (sR z) J 10 else ldJ (sK z) (sR z) J 10 ++ [.inl (sNow z, r)]
theorem rainO_ok {z : kSt} {r : Nat} (h : ∀ i, i < 10 → clOk i (sK z i)) : ∀ i, i < 10 → clOk i (sK (rainO z r) i) := by
  intro i hi
  unfold rainO
  split
  · exact h i hi
  · show clOk i (raK z 10 i)
    rw [raK, if_pos hi]
    exact h i hi
section Pay
variable {l : Launch} {D : va_G} {σ s2 : kS} {aO cA wA lA aJ : Nat} {cad ra wad lad : Nat → Nat} {R : Nat → kPs} {z : kSt} {J : List kJe} {F : kF}
set_option maxHeartbeats 4000000 in
set_option maxRecDepth 100000 in
theorem c_X9_payContracts (hl : l.stackTraces = false) (hK : ∀ i, i < 10 → clOk i (sK z i)) (h : cI D aO cA wA lA aJ cad ra wad lad R z J F σ) : kMh hX9_payContracts l D yX9_payContracts 1 0 0 [.ref aO] σ (fun v s2 => v = none ∧ cI D aO cA wA lA aJ cad ra wad lad R (paS z 10) J F s2 ∧ kFr k9F σ s2) (fun _ => False) := by
  refine kM_of (L := [some (.ref aO), none, none]) (by decide +kernel) hl (List.forall_mem_cons.mpr ⟨rfl, (fun _ h => absurd h List.not_mem_nil)⟩) (Nat.le_of_ble_eq_true rfl) rfl ?_
  intro p e s m args below meth c B hr hex hnm
  have B : kB p l s m args meth c D (kA σ s.heap.size) 3 cX9_payContracts RX9 := B
  generalize hPo : (fun (v : Option Value) (s2 : kS) => v = none ∧ cI D aO cA wA lA aJ cad ra wad lad R (paS z 10) J F s2 ∧ kFr k9F σ s2) = Po
  have loop : ∀ (n i : Nat) (s1 : kS), i + n = 10 → cI D aO cA wA lA aJ cad ra wad lad R (paS z i) J F s1 → kFr k9F σ s1 →
      kK p l e (kR 1 0 0) s m args below meth c D (kA σ s.heap.size) 3 (kQ below args s D σ Po (fun _ => False) 0 0) s1 0 0 2 [some (.ref aO), some (.int (nI i)), none] [] := by
    intro n
    induction n with
    | zero =>
      intro i s1 hi h1 hF
      have hi10 : i = 10 := by omega
      subst hi10
      refine k_iload_n B dX9_payContracts_2 rfl ?_
      refine k_bipush B (v := 10) dX9_payContracts_3 (by decide) ?_
      refine k_icmp_ge B 52 dX9_payContracts_5 (by decide) (fun c5 => ?_) (fun c5 => ?_)
      · refine k_vret B hr dX9_payContracts_52 ?_ (by first | exact Nat.le_of_ble_eq_true rfl | omega | (simp only [kR, Value.category, kCat_q, List.map, List.sum_cons, List.sum_nil]; omega)) (by first | exact Nat.le_of_ble_eq_true rfl | omega | (simp only [kR, Value.category, kCat_q, List.map, List.sum_cons, List.sum_nil]; omega))
        rw [← hPo]
        exact ⟨rfl, h1, hF⟩
      · exact absurd (Int32.le_refl _) c5
    | succ n ih =>
      intro i s1 hi h1 hF
      have hi10 : i < 10 := by omega
      obtain ⟨f, f1, f2⟩ := h1.a
      have hk := hK i hi10
      have hc : s1 (cad i) = some (cE cad ra i (sK z i)) := by
        have := h1.c i hi10
        have e : sK (paS z i) i = sK z i := paK_at
        rw [e] at this
        exact this
      have next : ∀ s1 : kS, cI D aO cA wA lA aJ cad ra wad lad R (paS z (i + 1)) J F s1 → kFr k9F σ s1 → kK p l e (kR 1 0 0) s m args below meth c D (kA σ s.heap.size) 3 (kQ below args s D σ Po (fun _ => False) 0 0) s1 0 0 46 [some (.ref aO), some (.int (nI i)), some (.ref (cad i))] [] := by
        intro s1 h1 hF
        refine k_iinc1 B dX9_payContracts_46 rfl (by decide) ?_
        try refine kK.set1 (by first | exact True.intro | rfl | exact kCat_q _) ?_
        refine k_goto B 2 dX9_payContracts_49 (by decide) ?_
        refine kK.sub (L2 := [some (.ref aO), some (.int (nI (i + 1))), none]) ⟨Or.inr rfl, Or.inr (by rw [← nI_1]), Or.inl rfl, trivial⟩ ?_
        exact ih (i + 1) s1 (by omega) h1 hF
      refine k_iload_n B dX9_payContracts_2 rfl ?_
      refine k_bipush B (v := 10) dX9_payContracts_3 (by decide) ?_
      refine k_icmp_ge B 52 dX9_payContracts_5 (by decide) (fun c5 => ?_) (fun c5 => ?_)
      · exact absurd (show nI 10 ≤ nI i from c5) (nI_ge hi10 (by omega))
      · refine k_aload_n B dX9_payContracts_8 rfl (by first | exact kRf_r _ | exact kRf_q _ | exact kRf_n) ?_
        refine gf_X9_11 B dX9_payContracts_9 h1.o rfl ?_
        refine k_iload_n B dX9_payContracts_12 rfl ?_
        refine k_aald B (ti := 4) (C := RX0) rfl dX9_payContracts_13 f1 (vp_in_nI hi10 (by decide)) ?_
        refine kK.rev (y := .ref (cad i)) (by rw [nI_clamp (by omega), f2 i hi10]; rfl) ?_
        refine k_astore_n B dX9_payContracts_14 (by decide) (by first | exact kRf_r _ | exact kRf_q _ | exact kRf_n) ?_
        try refine kK.set1 (by first | exact True.intro | rfl | exact kCat_q _) ?_
        refine k_aload_n B dX9_payContracts_15 rfl (by first | exact kRf_r _ | exact kRf_q _ | exact kRf_n) ?_
        refine gf_X9_63 B dX9_payContracts_16 hc rfl ?_
        refine k_if_le B 46 dX9_payContracts_19 (by decide) (fun c19 => ?_) (fun c19 => ?_)
        · rename_i c19
          have h0 : (sK z i).2.2.2.1 = 0 := by
            rcases Nat.eq_zero_or_pos (sK z i).2.2.2.1 with q | q
            · exact q
            · exact absurd c19 (nI_nle q (by have := hk.2.2.2.2.1; omega))
          refine next s1 ?_ hF
          have e1 : paS z (i + 1) = paS z i := by
            have e2 : paK z (i + 1) = paK z i := by
              rw [← paK_s, h0]
              have : ((sK z i).1, (sK z i).2.1, (sK z i).2.2.1, 0 - 1, (sK z i).2.2.2.2) = paK z i i := by
                rw [paK_at]
                clear hc hk c19
                generalize sK z i = kk at h0
                obtain ⟨a9, b9, c9, d9, e9⟩ := kk
                have h0 : d9 = 0 := h0
                subst h0
                rfl
              rw [this, upN_self]
            have e3 : payN z (i + 1) = payN z i := by
              show payN z i + (if 0 < (sK z i).2.2.2.1 then _ else 0) = _
              rw [if_neg (by omega)]; rfl
            rw [paS, paS, e2, e3]
          rw [e1]; exact h1
        · rename_i c19
          have h0 : 0 < (sK z i).2.2.2.1 := by
            rcases Nat.eq_zero_or_pos (sK z i).2.2.2.1 with q | q
            · exact absurd (by rw [q, nI_0]; exact Int32.le_refl 0) c19
            · exact q
          refine k_aload_n B dX9_payContracts_22 rfl (by first | exact kRf_r _ | exact kRf_q _ | exact kRf_n) ?_
          refine k_dup B dX9_payContracts_23 rfl ?_
          refine gf_X9_153 B dX9_payContracts_24 h1.o rfl ?_
          refine k_aload_n B dX9_payContracts_27 rfl (by first | exact kRf_r _ | exact kRf_q _ | exact kRf_n) ?_
          refine gf_X9_93 B dX9_payContracts_28 hc rfl ?_
          refine k_i2l B dX9_payContracts_31 ?_
          refine kK.rel (y := nL (sK z i).2.2.2.2.1) (nI_L (by have := hk.2.2.2.2.2; omega)) ?_
          refine k_ladd B dX9_payContracts_32 ?_
          refine kK.rel (y := nL (sPai z + payN z (i + 1))) (by
            rw [nL_add]
            show nL (sPai z + payN z i + _) = nL (sPai z + (payN z i + (if 0 < (sK z i).2.2.2.1 then _ else 0)))
            rw [if_pos h0, Nat.add_assoc]) ?_
          have hco := kUp_o (e := o9E cA wA lA (ra 10) aJ (cad (sDr z)) ((z.1.1, z.1.2.1, z.1.2.2.1, z.1.2.2.2.1, z.1.2.2.2.2.1, z.1.2.2.2.2.2.1, z.1.2.2.2.2.2.2.1, z.1.2.2.2.2.2.2.2.1, sPai z + payN z (i + 1), sVil z), (paS z i).2)) (kNe hc h1.o (by decide)) hc
          refine pf_X9_153 B dX9_payContracts_33 h1.o rfl ?_
          refine k_aload_n B dX9_payContracts_36 rfl (by first | exact kRf_r _ | exact kRf_q _ | exact kRf_n) ?_
          refine k_dup B dX9_payContracts_37 rfl ?_
          refine gf_X9_63 B dX9_payContracts_38 hco rfl ?_
          refine k_iconst B (v := 1) dX9_payContracts_41 (by decide) ?_
          refine k_isub B dX9_payContracts_42 ?_
          refine kK.rei (y := nI ((sK z i).2.2.2.1 - 1)) (by
            rw [show (1 : Int32) = nI 1 by decide]
            exact pk_sub (by omega)) ?_
          refine pf_X9_63 B dX9_payContracts_43 hco rfl ?_
          refine next _ ?_ ((hF.tr (kFr.up h1.o (Or.inl (show (9 : Nat) ≤ 9 by decide)))).tr (kFr.up hco (Or.inl (show (0 : Nat) ≤ 9 by decide))))
          have h2 := (h1.obj (z.1.1, z.1.2.1, z.1.2.2.1, z.1.2.2.2.1, z.1.2.2.2.2.1, z.1.2.2.2.2.2.1, z.1.2.2.2.2.2.2.1, z.1.2.2.2.2.2.2.2.1, sPai z + payN z (i + 1), sVil z)).cell hi10 ((sK z i).1, (sK z i).2.1, (sK z i).2.2.1, (sK z i).2.2.2.1 - 1, (sK z i).2.2.2.2)
          have e1 : paS z (i + 1) = ((z.1.1, z.1.2.1, z.1.2.2.1, z.1.2.2.2.1, z.1.2.2.2.2.1, z.1.2.2.2.2.2.1, z.1.2.2.2.2.2.2.1, z.1.2.2.2.2.2.2.2.1, sPai z + payN z (i + 1), sVil z), upN (paK z i) i ((sK z i).1, (sK z i).2.1, (sK z i).2.2.1, (sK z i).2.2.2.1 - 1, (sK z i).2.2.2.2), z.2.2) := by rw [paK_s]; rfl
          rw [e1]
          exact h2
  refine k_iconst B (v := 0) dX9_payContracts_0 (by decide) ?_
  refine k_istore_n B dX9_payContracts_1 (by decide) ?_
  try refine kK.set1 (by first | exact True.intro | rfl | exact kCat_q _) ?_
  refine kK.sub (L2 := [some (.ref aO), some (.int (nI 0)), none]) ⟨Or.inr rfl, Or.inr (by rw [nI_0]), Or.inl rfl, trivial⟩ ?_
  have e0 : paS z 0 = z := by rw [paS, paK_0]; rfl
  exact loop 10 0 σ (by decide) (by rw [e0]; exact h) kFr.rf
set_option maxHeartbeats 4000000 in
set_option maxRecDepth 100000 in
theorem c_X9_passOne (hl : l.stackTraces = false) (hs : sOk z) {r : Nat} (hrb : r ≤ 1000) (h : cI D aO cA wA lA aJ cad ra wad lad R z J F σ) : kMh hX9_passOne l D yX9_passOne 5 31 164 [.ref aO, .int (nI r)] σ (fun v s2 => v = none ∧ (∃ R2, cI D aO cA wA lA aJ cad ra wad lad R2 (oneS z r) (oneJ z r J) F s2) ∧ kFr k9F σ s2) (fun _ => False) := by
  refine kM_of (L := [some (.ref aO), some (.int (nI r)), none]) (by decide +kernel) hl (List.forall_mem_cons.mpr ⟨rfl, (List.forall_mem_cons.mpr ⟨rfl, (fun _ h => absurd h List.not_mem_nil)⟩)⟩) (Nat.le_of_ble_eq_true rfl) rfl ?_
  intro p e s m args below meth c B hr hex hnm
  have B : kB p l s m args meth c D (kA σ s.heap.size) 3 cX9_passOne RX9 := B
  generalize hPo : (fun (v : Option Value) (s2 : kS) => v = none ∧ (∃ R2, cI D aO cA wA lA aJ cad ra wad lad R2 (oneS z r) (oneJ z r J) F s2) ∧ kFr k9F σ s2) = Po
  have hwn6 := hs.2.2.1.1
  have hwO : sWn (noS (paS (rainO (leadS z) r) 10)) = sWn z := by
    unfold rainO
    split <;> rfl
  have loop : ∀ (n i : Nat) (R1 : Nat → kPs) (s1 : kS), i + n = sWn z → cI D aO cA wA lA aJ cad ra wad lad R1 (tkWS (noS (paS (rainO (leadS z) r) 10)) i) (oneJ z r J) F s1 → kFr k9F σ s1 →
      kK p l e (kR 5 31 164) s m args below meth c D (kA σ s.heap.size) 3 (kQ below args s D σ Po (fun _ => False) 31 164) s1 31 164 29 [some (.ref aO), some (.int (nI r)), some (.int (nI i))] [] := by
    intro n
    induction n with
    | zero =>
      intro i R1 s1 hi h1 hF
      have hi10 : i = sWn z := by omega
      subst hi10
      refine k_iload_n B dX9_passOne_29 rfl ?_
      refine k_aload_n B dX9_passOne_30 rfl (by first | exact kRf_r _ | exact kRf_q _ | exact kRf_n) ?_
      refine gf_X9_112 B dX9_passOne_31 h1.o rfl ?_
      refine k_icmp_ge B 53 dX9_passOne_34 (by decide) (fun c34 => ?_) (fun c34 => ?_)
      · refine k_vret B hr dX9_passOne_53 ?_ (by first | exact Nat.le_of_ble_eq_true rfl | omega | (simp only [kR, Value.category, kCat_q, List.map, List.sum_cons, List.sum_nil]; omega)) (by first | exact Nat.le_of_ble_eq_true rfl | omega | (simp only [kR, Value.category, kCat_q, List.map, List.sum_cons, List.sum_nil]; omega))
        rw [← hPo]
        exact ⟨rfl, ⟨R1, h1⟩, hF⟩
      · rename_i c34
        exact absurd (show nI (sWn (noS (paS (rainO (leadS z) r) 10))) ≤ nI (sWn z) by rw [hwO]; exact Int32.le_refl _) c34
    | succ n ih =>
      intro i R1 s1 hi h1 hF
      have hi10 : i < sWn z := by omega
      have hi11 : i < sWn (noS (paS (rainO (leadS z) r) 10)) := by rw [hwO]; exact hi10
      obtain ⟨f, f1, f2⟩ := h1.aw
      have hw := h1.w.1 i hi11
      refine k_iload_n B dX9_passOne_29 rfl ?_
      refine k_aload_n B dX9_passOne_30 rfl (by first | exact kRf_r _ | exact kRf_q _ | exact kRf_n) ?_
      refine gf_X9_112 B dX9_passOne_31 h1.o rfl ?_
      refine k_icmp_ge B 53 dX9_passOne_34 (by decide) (fun c34 => ?_) (fun c34 => ?_)
      · rename_i c34
        exact absurd (show nI (sWn z) ≤ nI i by rw [← hwO]; exact c34) (nI_ge hi10 (by omega))
      · refine k_aload_n B dX9_passOne_37 rfl (by first | exact kRf_r _ | exact kRf_q _ | exact kRf_n) ?_
        refine gf_X9_24 B dX9_passOne_38 h1.o rfl ?_
        refine k_iload_n B dX9_passOne_41 rfl ?_
        refine k_aald B (ti := 5) (C := RX8) rfl dX9_passOne_42 f1 (vp_in_nI (show i < 6 by omega) (by decide)) ?_
        refine kK.rev (y := .ref (wad i)) (by rw [nI_clamp (by omega), f2 i hi11]; rfl) ?_
        refine k_iconst B (v := 0) dX9_passOne_43 (by decide) ?_
        refine pf_X9_115 B dX9_passOne_44 hw rfl ?_
        refine k_iinc1 B dX9_passOne_47 rfl (by decide) ?_
        try refine kK.set1 (by first | exact True.intro | rfl | exact kCat_q _) ?_
        refine k_goto B 29 dX9_passOne_50 (by decide) ?_
        rw [show nI i + 1 = nI (i + 1) by rw [← nI_1]]
        refine ih (i + 1) R1 _ (by omega) ?_ (hF.tr (kFr.up hw (Or.inl (show (8 : Nat) ≤ 9 by decide))))
        generalize noS (paS (rainO (leadS z) r) 10) = z9 at h1 hi11 hw
        have h2 := h1.well (i := i) hi11 ((tkW z9 i i).1, (tkW z9 i i).2.1, 0)
        have e1 : tkWS z9 (i + 1) = ((tkWS z9 i).1, (tkWS z9 i).2.1, (tkWS z9 i).2.2.1, (sWn (tkWS z9 i), upN (sW (tkWS z9 i)) i ((tkW z9 i i).1, (tkW z9 i i).2.1, 0)), (tkWS z9 i).2.2.2.2) := by
          show (z9.1, z9.2.1, z9.2.2.1, (sWn z9, tkW z9 (i + 1)), z9.2.2.2.2) = (z9.1, z9.2.1, z9.2.2.1, (sWn z9, upN (tkW z9 i) i _), z9.2.2.2.2)
          rw [tkW_at, tkW_s]
        rw [e1]
        exact h2
  have mid : ∀ (R1 : Nat → kPs) (s1 : kS), cI D aO cA wA lA aJ cad ra wad lad R1 (rainO (leadS z) r) (oneJ z r J) F s1 → kFr k9F σ s1 →
      kK p l e (kR 5 31 164) s m args below meth c D (kA σ s.heap.size) 3 (kQ below args s D σ Po (fun _ => False) 31 164) s1 31 164 13 [some (.ref aO), some (.int (nI r)), none] [] := by
    intro R1 s1 h1 hF
    refine k_aload_n B dX9_passOne_13 rfl (by first | exact kRf_r _ | exact kRf_q _ | exact kRf_n) ?_
    refine cl_X9_109 B (c_X9_payContracts hl (rainO_ok (z := leadS z) hs.2.1) h1) h1.o dX9_passOne_14 (by first | exact Nat.le_of_ble_eq_true rfl | omega | (simp only [kR, Value.category, kCat_q, List.map, List.sum_cons, List.sum_nil]; omega)) (by first | exact Nat.le_of_ble_eq_true rfl | omega | (simp only [kR, Value.category, kCat_q, List.map, List.sum_cons, List.sum_nil]; omega)) (by first | exact Nat.le_of_ble_eq_true rfl | omega | (simp only [kR, Value.category, kCat_q, List.map, List.sum_cons, List.sum_nil]; omega)) (by first | exact Nat.le_of_ble_eq_true rfl | omega | (simp only [kR, Value.category, kCat_q, List.map, List.sum_cons, List.sum_nil]; omega)) (by first | exact Nat.le_of_ble_eq_true rfl | omega | (simp only [kR, Value.category, kCat_q, List.map, List.sum_cons, List.sum_nil]; omega)) (fun _ hx => hx.elim) (fun v14 s14 hp14 => ?_)
    obtain ⟨rfl, h2, h3⟩ := hp14
    refine k_aload_n B dX9_passOne_17 rfl (by first | exact kRf_r _ | exact kRf_q _ | exact kRf_n) ?_
    refine k_dup B dX9_passOne_18 rfl ?_
    refine gf_X9_96 B dX9_passOne_19 h2.o rfl ?_
    refine k_iconst B (v := 1) dX9_passOne_22 (by decide) ?_
    refine k_iadd B dX9_passOne_23 ?_
    refine kK.rei (y := nI (sNow (paS (rainO (leadS z) r) 10) + 1)) (nI_1 _) ?_
    refine pf_X9_96 B dX9_passOne_24 h2.o rfl ?_
    refine k_iconst B (v := 0) dX9_passOne_27 (by decide) ?_
    refine k_istore_n B dX9_passOne_28 (by decide) ?_
    try refine kK.set1 (by first | exact True.intro | rfl | exact kCat_q _) ?_
    rw [show (0 : Int32) = nI 0 by rw [nI_0]]
    refine loop (sWn z) 0 R1 _ (by omega) ?_ ((hF.tr h3).tr (kFr.up h2.o (Or.inl (show (9 : Nat) ≤ 9 by decide))))
    have e0 : tkWS (noS (paS (rainO (leadS z) r) 10)) 0 = noS (paS (rainO (leadS z) r) 10) := by rw [tkWS, tkW_0]
    rw [e0]
    exact h2.obj _
  refine k_aload_n B dX9_passOne_0 rfl (by first | exact kRf_r _ | exact kRf_q _ | exact kRf_n) ?_
  refine cl_X9_103 B (c_X9_leadOn hl hs h) h.o dX9_passOne_1 (by first | exact Nat.le_of_ble_eq_true rfl | omega | (simp only [kR, Value.category, kCat_q, List.map, List.sum_cons, List.sum_nil]; omega)) (by first | exact Nat.le_of_ble_eq_true rfl | omega | (simp only [kR, Value.category, kCat_q, List.map, List.sum_cons, List.sum_nil]; omega)) (by first | exact Nat.le_of_ble_eq_true rfl | omega | (simp only [kR, Value.category, kCat_q, List.map, List.sum_cons, List.sum_nil]; omega)) (by first | exact Nat.le_of_ble_eq_true rfl | omega | (simp only [kR, Value.category, kCat_q, List.map, List.sum_cons, List.sum_nil]; omega)) (by first | exact Nat.le_of_ble_eq_true rfl | omega | (simp only [kR, Value.category, kCat_q, List.map, List.sum_cons, List.sum_nil]; omega)) (fun _ hx => hx.elim) (fun v1 s1 hp1 => ?_)
  obtain ⟨rfl, ⟨R1, h1⟩, h2⟩ := hp1
  refine k_iload_n B dX9_passOne_4 rfl ?_
  refine k_if_le B 13 dX9_passOne_5 (by decide) (fun c5 => ?_) (fun c5 => ?_)
  · rename_i c5
    have hr0 : r = 0 := by
      rcases Nat.eq_zero_or_pos r with q | q
      · exact q
      · exact absurd c5 (nI_nle q (by omega))
    refine kK.widen (k2 := 31) (n2 := 164) (by decide) (by decide) ?_
    refine mid R1 s1 ?_ h2
    rw [rainO, if_pos hr0, oneJ, if_pos hr0]
    exact h1
  · rename_i c5
    have hr0 : 0 < r := by
      rcases Nat.eq_zero_or_pos r with q | q
      · exact absurd (by rw [q, nI_0]; exact Int32.le_refl 0) c5
      · exact q
    refine k_aload_n B dX9_passOne_8 rfl (by first | exact kRf_r _ | exact kRf_q _ | exact kRf_n) ?_
    refine k_iload_n B dX9_passOne_9 rfl ?_
    refine cl_X9_106 B (c_X9_rainOn hl (z := leadS z) hs.2.1 hr0 hrb h1) h1.o dX9_passOne_10 (by first | exact Nat.le_of_ble_eq_true rfl | omega | (simp only [kR, Value.category, kCat_q, List.map, List.sum_cons, List.sum_nil]; omega)) (by first | exact Nat.le_of_ble_eq_true rfl | omega | (simp only [kR, Value.category, kCat_q, List.map, List.sum_cons, List.sum_nil]; omega)) (by first | exact Nat.le_of_ble_eq_true rfl | omega | (simp only [kR, Value.category, kCat_q, List.map, List.sum_cons, List.sum_nil]; omega)) (by first | exact Nat.le_of_ble_eq_true rfl | omega | (simp only [kR, Value.category, kCat_q, List.map, List.sum_cons, List.sum_nil]; omega)) (by first | exact Nat.le_of_ble_eq_true rfl | omega | (simp only [kR, Value.category, kCat_q, List.map, List.sum_cons, List.sum_nil]; omega)) (fun _ hx => hx.elim) (fun v10 s10 hp10 => ?_)
    obtain ⟨rfl, ⟨R2, h3⟩, h4⟩ := hp10
    refine mid R2 s10 ?_ (h2.tr h4)
    rw [rainO, if_neg (by omega), oneJ, if_neg (by omega)]
    exact h3
end Pay
