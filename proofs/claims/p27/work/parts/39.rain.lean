def raQ (z : kSt) (y r i : Nat) : kP := (i, y, nitOf (sK z i).2.2.1 (sK z i).2.2.2.1, (sK z i).2.2.2.2.2, r)
def raP (z : kSt) (y r n : Nat) : Nat → List kP := fun i => if i < n then sR z i ++ [raQ z y r i] else sR z i
def raK (z : kSt) (n : Nat) : Nat → kCl := fun i => if i < n then ((sK z i).1, (sK z i).2.1, (sK z i).2.2.1, (sK z i).2.2.2.1, (sK z i).2.2.2.2.1, 0) else sK z i
def rnS (z : kSt) (r n : Nat) : kSt := (z.1, raK z n, raP z (sNow z) r n, z.2.2.2)
def rainS (z : kSt) (r : Nat) : kSt := ((z.1.1, z.1.2.1, z.1.2.2.1, z.1.2.2.2.1, z.1.2.2.2.2.1, z.1.2.2.2.2.2.1, sFal z + r * 10, z.1.2.2.2.2.2.2.2), (rnS z r 10).2)
theorem raP_0 {z : kSt} {y r : Nat} : raP z y r 0 = sR z := by
  funext i; rw [raP, if_neg (Nat.not_lt_zero i)]
theorem raK_0 {z : kSt} : raK z 0 = sK z := by
  funext i; rw [raK, if_neg (Nat.not_lt_zero i)]
theorem raP_s {z : kSt} {y r n : Nat} : upN (raP z y r n) n (sR z n ++ [raQ z y r n]) = raP z y r (n + 1) := by
  funext i
  by_cases q : i = n
  · subst q; rw [upN_eq, raP, if_pos (Nat.lt_succ_self i)]
  · rw [upN_ne q]
    unfold raP
    by_cases h : i < n
    · rw [if_pos h, if_pos (by omega)]
    · rw [if_neg h, if_neg (by omega)]
theorem raK_s {z : kSt} {n : Nat} : upN (raK z n) n ((sK z n).1, (sK z n).2.1, (sK z n).2.2.1, (sK z n).2.2.2.1, (sK z n).2.2.2.2.1, 0) = raK z (n + 1) := by
  funext i
  by_cases q : i = n
  · subst q; rw [upN_eq, raK, if_pos (Nat.lt_succ_self i)]
  · rw [upN_ne q]
    unfold raK
    by_cases h : i < n
    · rw [if_pos h, if_pos (by omega)]
    · rw [if_neg h, if_neg (by omega)]
def k056 (k : Nat) : Prop := k = 0 ∨ k56 k
theorem k056_9 : ∀ k, k056 k → k9F k := fun k q => q.elim (fun q => by subst q; exact Or.inl (by decide)) (k56_9 k)
section Rain
variable {l : Launch} {D : va_G} {σ s2 : kS} {aO cA wA lA aJ : Nat} {cad ra wad lad : Nat → Nat} {R : Nat → kPs} {z : kSt} {J : List kJe} {F : kF}
theorem cI.cr (h : cI D aO cA wA lA aJ cad ra wad lad R z J F σ) {i : Nat} (hi : i < 10) {k : kCl} {q : Nat} {p1 : kP} (hq : σ q = none) (g1 : s2 (cad i) = some (cE cad ra i k)) (g2 : s2 (ra i) = some (rowE (nI (unS (kCon (R i ++ [(q, p1)])))) (hdA (R i ++ [(q, p1)])) (lsA (R i ++ [(q, p1)])))) (g3 : pCh s2 (R i ++ [(q, p1)])) (g4 : kOut (fun b => b = cad i ∨ b = ra i ∨ b ∈ adr (R i)) σ s2) (g5 : kFr k056 σ s2) : cI D aO cA wA lA aJ cad ra wad lad (upN R i (R i ++ [(q, p1)])) (z.1, upN (sK z) i k, upN (sR z) i (sR z i ++ [p1]), z.2.2.2) J F s2 := by
  have hk : ∀ P : va_E → Prop, (∀ e, k056 (kC e) → ¬ P e) → kKp P σ s2 := fun P hp => g5.kp (fun e he q => hp e q he)
  have hne : ∀ e, k056 (kC e) → ∀ k, k ≠ 0 → k ≠ 5 → k ≠ 6 → kC e ≠ k := fun e q k h0 h5 h6 hk => by
    rcases q with q | q | q
    · exact h0 (hk.symm.trans q)
    · exact h5 (hk.symm.trans q)
    · exact h6 (hk.symm.trans q)
  have nA : ∀ N e, k056 (kC e) → ¬ isAr N e := fun N e q => noAr rfl (hne e q 15 (by decide) (by decide) (by decide))
  have hqn : ∀ j, j < 11 + sLn z → q ∉ adr (R j) := fun j hj hm => by
    obtain ⟨p1, y1, hh⟩ := pSeg_adr (pCh_iff.mp (h.ch hj)) hm
    rw [hq] at hh; cases hh
  have hc := h.c i hi
  refine ⟨g5 _ _ h.o (fun q => by rcases q with q | q | q <;> cases q), h.a.keep (hk _ (nA _)), h.aw.keep (hk _ (nA _)), h.al.keep (hk _ (nA _)), fun j hj => ?_, h.w.keep (hk _ (fun e q => hne e q 8 (by decide) (by decide) (by decide))), h.lo.keep (hk _ (fun e q => hne e q 2 (by decide) (by decide) (by decide))), h.r.one (i := i) (by omega) (fun a e he hr h1 h2 => g4 a e he (fun q => ?_)) g2 g3 ?_ ?_, fun j hj => ?_, h.j.keep (hk _ (fun e q => noJ rfl ⟨hne e q 1 (by decide) (by decide) (by decide), hne e q 3 (by decide) (by decide) (by decide), hne e q 4 (by decide) (by decide) (by decide), hne e q 7 (by decide) (by decide) (by decide), hne e q 15 (by decide) (by decide) (by decide)⟩))⟩
  · show s2 (cad j) = some (cE cad ra j (upN (sK z) i k j))
    by_cases q : j = i
    · subst q; rw [upN_eq]; exact g1
    · rw [upN_ne q]
      refine g4 _ _ (h.c j hj) (fun x => ?_)
      rcases x with x | x | x
      · exact q (h.c.ne hj hi x)
      · have := h.c j hj; rw [x, h.row (by omega)] at this; cases this
      · exact pCh_no (h.ch (by omega)) (h.c j hj) (show (0 : Nat) ≠ 5 by decide) x
  · rcases q with q | q | q
    · subst q
      rw [hc] at he
      cases he
      exact hr.elim (fun q => by cases q) (fun q => by cases q)
    · exact h1 q
    · exact h2 q
  · rw [adr_app]
    refine List.nodup_append.mpr ⟨h.r.2.2.1 i (by omega), by simp [adr], fun a ha b hb hab => ?_⟩
    have hbq : b = q := by simpa [adr] using hb
    subst hbq; subst hab
    exact hqn i (by omega) ha
  · intro a ha j hj hji hm
    rw [adr_app] at ha
    rcases List.mem_append.mp ha with ha | ha
    · exact h.r.2.2.2.1 i j (by omega) hj (Ne.symm hji) a ha hm
    · have hbq : a = q := by simpa [adr] using ha
      subst hbq
      exact hqn j hj hm
  · show _ = upN (sR z) i (sR z i ++ [p1]) j
    by_cases q : j = i
    · subst q; rw [upN_eq, upN_eq, kCon_app, h.rc j (by omega)]; rfl
    · rw [upN_ne q, upN_ne q]; exact h.rc j hj
set_option maxHeartbeats 4000000 in
set_option maxRecDepth 100000 in
theorem c_X9_rainOn (hl : l.stackTraces = false) (hK : ∀ i, i < 10 → clOk i (sK z i)) {r : Nat} (hr0 : 0 < r) (hrb : r ≤ 1000) (h : cI D aO cA wA lA aJ cad ra wad lad R z J F σ) : kMh hX9_rainOn l D yX9_rainOn 4 11 64 [.ref aO, .int (nI r)] σ (fun v s2 => v = none ∧ (∃ R2, cI D aO cA wA lA aJ cad ra wad lad R2 (rainS z r) (J ++ [.inl (sNow z, r)]) F s2) ∧ kFr k9F σ s2) (fun _ => False) := by
  refine kM_of (L := [some (.ref aO), some (.int (nI r)), none]) (by decide +kernel) hl (List.forall_mem_cons.mpr ⟨rfl, (List.forall_mem_cons.mpr ⟨rfl, (fun _ h => absurd h List.not_mem_nil)⟩)⟩) (Nat.le_of_ble_eq_true rfl) rfl ?_
  intro p e s m args below meth c B hr hex hnm
  have B : kB p l s m args meth c D (kA σ s.heap.size) 3 cX9_rainOn RX9 := B
  generalize hPo : (fun (v : Option Value) (s2 : kS) => v = none ∧ (∃ R2, cI D aO cA wA lA aJ cad ra wad lad R2 (rainS z r) (J ++ [.inl (sNow z, r)]) F s2) ∧ kFr k9F σ s2) = Po
  have loop : ∀ (n i : Nat) (R1 : Nat → kPs) (s1 : kS), i + n = 10 → cI D aO cA wA lA aJ cad ra wad lad R1 (rnS z r i) J F s1 → kFr k9F σ s1 →
      kK p l e (kR 4 11 64) s m args below meth c D (kA σ s.heap.size) 3 (kQ below args s D σ Po (fun _ => False) 11 64) s1 i (6 * i) 2 [some (.ref aO), some (.int (nI r)), some (.int (nI i))] [] := by
    intro n
    induction n with
    | zero =>
      intro i R1 s1 hi h1 hF
      have hi10 : i = 10 := by omega
      subst hi10
      obtain ⟨tk9, f9, z9, sp9, hJ9⟩ := h1.j.cell
      refine k_iload_n B dX9_rainOn_2 rfl ?_
      refine k_bipush B (v := 10) dX9_rainOn_3 (by decide) ?_
      refine k_icmp_ge B 28 dX9_rainOn_5 (by decide) (fun c5 => ?_) (fun c5 => ?_)
      · refine k_aload_n B dX9_rainOn_28 rfl (by first | exact kRf_r _ | exact kRf_q _ | exact kRf_n) ?_
        refine gf_X9_44 B dX9_rainOn_29 h1.o rfl ?_
        refine k_bipush B (v := (-2)) dX9_rainOn_32 (by decide) ?_
        refine k_aload_n B dX9_rainOn_34 rfl (by first | exact kRf_r _ | exact kRf_q _ | exact kRf_n) ?_
        refine gf_X9_96 B dX9_rainOn_35 h1.o rfl ?_
        refine k_iload_n B dX9_rainOn_38 rfl ?_
        refine cl_X9_135 B (c_note hl h1.j (e := .inl (sNow z, r)) (f := -2) (t := nI (sNow z)) (u := r) rfl (by omega)) hJ9 dX9_rainOn_39 (by first | exact Nat.le_of_ble_eq_true rfl | omega | (simp only [kR, Value.category, kCat_q, List.map, List.sum_cons, List.sum_nil]; omega)) (by first | exact Nat.le_of_ble_eq_true rfl | omega | (simp only [kR, Value.category, kCat_q, List.map, List.sum_cons, List.sum_nil]; omega)) (by first | exact Nat.le_of_ble_eq_true rfl | omega | (simp only [kR, Value.category, kCat_q, List.map, List.sum_cons, List.sum_nil]; omega)) (by first | exact Nat.le_of_ble_eq_true rfl | omega | (simp only [kR, Value.category, kCat_q, List.map, List.sum_cons, List.sum_nil]; omega)) (by first | exact Nat.le_of_ble_eq_true rfl | omega | (simp only [kR, Value.category, kCat_q, List.map, List.sum_cons, List.sum_nil]; omega)) (fun _ hx => hx.elim) (fun v39 s39 hp39 => ?_)
        obtain ⟨rfl, n2, n3⟩ := hp39
        have h2 := h1.jn n2 (n3.mono k13_J)
        refine k_aload_n B dX9_rainOn_42 rfl (by first | exact kRf_r _ | exact kRf_q _ | exact kRf_n) ?_
        refine k_dup B dX9_rainOn_43 rfl ?_
        refine gf_X9_148 B dX9_rainOn_44 h2.o rfl ?_
        refine k_iload_n B dX9_rainOn_47 rfl ?_
        refine k_i2l B dX9_rainOn_48 ?_
        refine kK.rel (y := nL r) (nI_L (by omega)) ?_
        refine k_ldc2 B qw474 dX9_rainOn_49 ?_
        refine k_lmul B dX9_rainOn_52 ?_
        refine kK.rel (y := nL (r * 10)) (nL_mul r 10) ?_
        refine k_ladd B dX9_rainOn_53 ?_
        refine kK.rel (y := nL (sFal z + r * 10)) (nL_add _ _) ?_
        refine pf_X9_148 B dX9_rainOn_54 h2.o rfl ?_
        refine k_vret B hr dX9_rainOn_57 ?_ (by first | exact Nat.le_of_ble_eq_true rfl | omega | (simp only [kR, Value.category, kCat_q, List.map, List.sum_cons, List.sum_nil]; omega)) (by first | exact Nat.le_of_ble_eq_true rfl | omega | (simp only [kR, Value.category, kCat_q, List.map, List.sum_cons, List.sum_nil]; omega))
        rw [← hPo]
        refine ⟨rfl, ⟨R1, ?_⟩, (hF.tr (n3.mono k13_9)).tr (kFr.up h2.o (Or.inl (show (9 : Nat) ≤ 9 by decide)))⟩
        have ej : jAdd J r (.inl (sNow z, r)) = J ++ [.inl (sNow z, r)] := by rw [jAdd, if_neg (by omega)]
        rw [← ej]
        exact h2.obj _
      · exact absurd (Int32.le_refl _) c5
    | succ n ih =>
      intro i R1 s1 hi h1 hF
      have hi10 : i < 10 := by omega
      obtain ⟨f, f1, f2⟩ := h1.a
      have hk := hK i hi10
      have eK : raK z i i = sK z i := by rw [raK, if_neg (Nat.lt_irrefl i)]
      have eP : raP z (sNow z) r i i = sR z i := by rw [raP, if_neg (Nat.lt_irrefl i)]
      have hc : s1 (cad i) = some (cE cad ra i (sK z i)) := by rw [← eK]; exact h1.c i hi10
      have hcon : kCon (R1 i) = sR z i := by rw [← eP]; exact h1.rc i (by omega)
      have hρ : s1 (ra i) = some (rowE (nI (unS (kCon (R1 i)))) (hdA (R1 i)) (lsA (R1 i))) := h1.r.1 i (by omega)
      refine k_iload_n B dX9_rainOn_2 rfl ?_
      refine k_bipush B (v := 10) dX9_rainOn_3 (by decide) ?_
      refine k_icmp_ge B 28 dX9_rainOn_5 (by decide) (fun c5 => ?_) (fun c5 => ?_)
      · exact absurd (show nI 10 ≤ nI i from c5) (nI_ge hi10 (by omega))
      · refine k_aload_n B dX9_rainOn_8 rfl (by first | exact kRf_r _ | exact kRf_q _ | exact kRf_n) ?_
        refine gf_X9_11 B dX9_rainOn_9 h1.o rfl ?_
        refine k_iload_n B dX9_rainOn_12 rfl ?_
        refine k_aald B (ti := 4) (C := RX0) rfl dX9_rainOn_13 f1 (vp_in_nI hi10 (by decide)) ?_
        refine kK.rev (y := .ref (cad i)) (by rw [nI_clamp (by omega), f2 i hi10]; rfl) ?_
        refine k_aload_n B dX9_rainOn_14 rfl (by first | exact kRf_r _ | exact kRf_q _ | exact kRf_n) ?_
        refine gf_X9_96 B dX9_rainOn_15 h1.o rfl ?_
        refine k_iload_n B dX9_rainOn_18 rfl ?_
        refine cl_X9_145 B (c_X0_catchRain hl (y := sNow z) (rain := r) hc hρ (h1.ch (by omega)) (h1.r.2.2.1 i (by omega)) (by have := hk.2.2.2.1; omega) (by have := hk.2.2.2.2.1; omega)) hc dX9_rainOn_19 (by first | exact Nat.le_of_ble_eq_true rfl | omega | (simp only [kR, Value.category, kCat_q, List.map, List.sum_cons, List.sum_nil]; omega)) (by first | exact Nat.le_of_ble_eq_true rfl | omega | (simp only [kR, Value.category, kCat_q, List.map, List.sum_cons, List.sum_nil]; omega)) (by first | exact Nat.le_of_ble_eq_true rfl | omega | (simp only [kR, Value.category, kCat_q, List.map, List.sum_cons, List.sum_nil]; omega)) (by first | exact Nat.le_of_ble_eq_true rfl | omega | (simp only [kR, Value.category, kCat_q, List.map, List.sum_cons, List.sum_nil]; omega)) (by first | exact Nat.le_of_ble_eq_true rfl | omega | (simp only [kR, Value.category, kCat_q, List.map, List.sum_cons, List.sum_nil]; omega)) (fun _ hx => hx.elim) (fun v19 s19 hp19 => ?_)
        obtain ⟨q, rfl, b2, b3, b4, b5, b6, b7⟩ := hp19
        have h2 := h1.cr hi10 (p1 := raQ z (sNow z) r i) b2 b3 (by rw [kCon_app, unS_app]; exact b4) b5 b6 b7
        refine k_iinc1 B dX9_rainOn_22 rfl (by decide) ?_
        try refine kK.set1 (by first | exact True.intro | rfl | exact kCat_q _) ?_
        refine k_goto B 2 dX9_rainOn_25 (by decide) ?_
        rw [show nI i + 1 = nI (i + 1) by rw [← nI_1]]
        refine kK.widen (k2 := i + 1) (n2 := 6 * (i + 1)) (by omega) (by omega) ?_
        refine ih (i + 1) (upN R1 i (R1 i ++ [(q, raQ z (sNow z) r i)])) _ (by omega) ?_ (hF.tr (b7.mono k056_9))
        have e1 : rnS z r (i + 1) = ((rnS z r i).1, upN (sK (rnS z r i)) i ((sK z i).1, (sK z i).2.1, (sK z i).2.2.1, (sK z i).2.2.2.1, (sK z i).2.2.2.2.1, 0), upN (sR (rnS z r i)) i (sR (rnS z r i) i ++ [raQ z (sNow z) r i]), (rnS z r i).2.2.2) := by
          show _ = (z.1, upN (raK z i) i _, upN (raP z (sNow z) r i) i (raP z (sNow z) r i i ++ [raQ z (sNow z) r i]), z.2.2.2)
          rw [eP, raP_s, raK_s]
          rfl
        rw [e1]
        exact h2
  refine k_iconst B (v := 0) dX9_rainOn_0 (by decide) ?_
  refine k_istore_n B dX9_rainOn_1 (by decide) ?_
  try refine kK.set1 (by first | exact True.intro | rfl | exact kCat_q _) ?_
  rw [show (0 : Int32) = nI 0 by rw [nI_0]]
  exact loop 10 0 R σ (by decide) (by rw [rnS, raK_0, raP_0]; exact h) kFr.rf
end Rain
