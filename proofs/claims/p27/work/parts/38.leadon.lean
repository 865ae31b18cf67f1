theorem ldN_hi {K : Nat → kCl} {P : Nat → List kP} (hK : ∀ i d, i < 10 → (K i).1 = some d → d < i) {n i : Nat} (hn : n ≤ 10) (hi : 11 ≤ i) : ldN K P n i = P i := by
  induction n with
  | zero => show upN P 10 [] i = P i; exact upN_ne (by omega)
  | succ n ih =>
    obtain ⟨h1, h2⟩ := ldD_ok (hK n · (by omega)) (show n < 10 by omega)
    show ldS K (ldN K P n) n i = P i
    rw [ldS, upN_ne (by omega), upN_ne (by omega)]
    exact ih (by omega)
section LeadOn
variable {l : Launch} {D : va_G} {σ : kS} {aO cA wA lA aJ : Nat} {cad ra wad lad : Nat → Nat} {R : Nat → kPs} {z : kSt} {J : List kJe} {F : kF}
set_option maxHeartbeats 4000000 in
set_option maxRecDepth 100000 in
theorem c_X9_leadOn (hl : l.stackTraces = false) (hs : sOk z) (h : cI D aO cA wA lA aJ cad ra wad lad R z J F σ) : kMh hX9_leadOn l D yX9_leadOn 4 20 100 [.ref aO] σ (fun v s2 => v = none ∧ (∃ R2, cI D aO cA wA lA aJ cad ra wad lad R2 (leadS z) (ldJ (sK z) (sR z) J 10) F s2) ∧ kFr k9F σ s2) (fun _ => False) := by
  refine kM_of (L := [some (.ref aO), none, none, none, none]) (by decide +kernel) hl (List.forall_mem_cons.mpr ⟨rfl, (fun _ h => absurd h List.not_mem_nil)⟩) (Nat.le_of_ble_eq_true rfl) rfl ?_
  intro p e s m args below meth c B hr hex hnm
  have B : kB p l s m args meth c D (kA σ s.heap.size) 5 cX9_leadOn RX9 := B
  have hK : ∀ i d, i < 10 → (sK z i).1 = some d → d < i := fun i d hi => (hs.2.1 i hi).1 d
  have hun : ∀ n i, n ≤ 10 → i < 11 → unS (ldN (sK z) (sR z) n i) ≤ 3000000 := by
    intro n i hn hi
    have h1 : unS (ldN (sK z) (sR z) n i) ≤ suN (fun i => unS (ldN (sK z) (sR z) n i)) 11 := suN_le (f := fun i => unS (ldN (sK z) (sR z) n i)) hi
    rw [ldN_sum hK hn] at h1
    have h2 := hs.2.2.2.2.2.1
    have h3 := hs.1.1
    omega
  generalize hPo : (fun (v : Option Value) (s2 : kS) => v = none ∧ (∃ R2, cI D aO cA wA lA aJ cad ra wad lad R2 (leadS z) (ldJ (sK z) (sR z) J 10) F s2) ∧ kFr k9F σ s2) = Po
  have loop : ∀ (n i : Nat) (R1 : Nat → kPs) (s1 : kS), i + n = 10 → cI D aO cA wA lA aJ cad ra wad lad R1 (setR z (ldN (sK z) (sR z) i)) (ldJ (sK z) (sR z) J i) F s1 → kFr k9F σ s1 →
      kK p l e (kR 4 20 100) s m args below meth c D (kA σ s.heap.size) 5 (kQ below args s D σ Po (fun _ => False) 20 100) s1 (2 * i) (10 * i) 9 [some (.ref aO), some (.int (nI i)), none, none, none] [] := by
    intro n
    induction n with
    | zero =>
      intro i R1 s1 hi h1 hF
      have hi10 : i = 10 := by omega
      subst hi10
      have hu := hun 10 10 (by decide) (by decide)
      refine k_iload_n B dX9_leadOn_9 rfl ?_
      refine k_bipush B (v := 10) dX9_leadOn_10 (by decide) ?_
      refine k_icmp_ge B 82 dX9_leadOn_12 (by decide) (fun c12 => ?_) (fun c12 => ?_)
      · refine k_aload_n B dX9_leadOn_82 rfl (by first | exact kRf_r _ | exact kRf_q _ | exact kRf_n) ?_
        refine k_dup B dX9_leadOn_83 rfl ?_
        refine gf_X9_138 B dX9_leadOn_84 h1.o rfl ?_
        refine k_aload_n B dX9_leadOn_87 rfl (by first | exact kRf_r _ | exact kRf_q _ | exact kRf_n) ?_
        refine gf_X9_37 B dX9_leadOn_88 h1.o rfl ?_
        refine gf_X9_142 B dX9_leadOn_91 (h1.row (i := 10) (by omega)) rfl ?_
        refine k_i2l B dX9_leadOn_94 ?_
        refine kK.rel (y := nL (unS (ldN (sK z) (sR z) 10 10))) (nI_L (show unS (ldN (sK z) (sR z) 10 10) < 2 ^ 31 by omega)) ?_
        refine k_ladd B dX9_leadOn_95 ?_
        refine kK.rel (y := nL (sSpr z + unS (ldN (sK z) (sR z) 10 10))) (nL_add _ _) ?_
        refine pf_X9_138 B dX9_leadOn_96 h1.o rfl ?_
        refine k_vret B hr dX9_leadOn_99 ?_ (by first | exact Nat.le_of_ble_eq_true rfl | omega | (simp only [kR, Value.category, kCat_q, List.map, List.sum_cons, List.sum_nil]; omega)) (by first | exact Nat.le_of_ble_eq_true rfl | omega | (simp only [kR, Value.category, kCat_q, List.map, List.sum_cons, List.sum_nil]; omega))
        rw [← hPo]
        refine ⟨rfl, ⟨R1, ?_⟩, hF.tr (kFr.up h1.o (Or.inl (show (9 : Nat) ≤ 9 by decide)))⟩
        exact h1.obj _
      · exact absurd (Int32.le_refl _) c12
    | succ n ih =>
      intro i R1 s1 hi h1 hF
      have hi10 : i < 10 := by omega
      obtain ⟨f, f1, f2⟩ := h1.a
      have hc : s1 (cad i) = some (cE cad ra i (sK z i)) := h1.c i hi10
      have hk := hs.2.1 i hi10
      have hρ : s1 (ra i) = some (rowE (nI (unS (ldN (sK z) (sR z) i i))) (hdA (R1 i)) (lsA (R1 i))) := h1.row (i := i) (by omega)
      have hρ0 := h1.r.1 i (by omega)
      have hcon : kCon (R1 i) = ldN (sK z) (sR z) i i := h1.rc i (by omega)
      have hu := hun i i (by omega) (by omega)
      obtain ⟨d1, d2⟩ := ldD_ok (hK i · hi10) hi10
      generalize hd : ldD (sK z) i = d at d1 d2
      have hw : ldW (sK z) (ldN (sK z) (sR z) i) i = unS (ldN (sK z) (sR z) i i) / (sK z i).2.1 := rfl
      have hwb : ldW (sK z) (ldN (sK z) (sR z) i) i ≤ 3000000 := Nat.le_trans (Nat.div_le_self _ _) hu
      generalize hwg : ldW (sK z) (ldN (sK z) (sR z) i) i = w at hwb
      have tail : kK p l e (kR 4 20 100) s m args below meth c D (kA σ s.heap.size) 5 (kQ below args s D σ Po (fun _ => False) 20 100) s1 (2 * i) (10 * i) 48 [some (.ref aO), some (.int (nI i)), some (.ref (cad i)), some (.int (nI w)), none] [.ref (ra d)] := by
        refine k_astore B dX9_leadOn_48 (by decide) (by first | exact kRf_r _ | exact kRf_q _ | exact kRf_n) ?_
        try refine kK.set1 (by first | exact True.intro | rfl | exact kCat_q _) ?_
        refine k_aload B dX9_leadOn_50 rfl (by first | exact kRf_r _ | exact kRf_q _ | exact kRf_n) ?_
        refine k_aload_n B dX9_leadOn_52 rfl (by first | exact kRf_r _ | exact kRf_q _ | exact kRf_n) ?_
        refine gf_X9_124 B dX9_leadOn_53 hc rfl ?_
        refine k_iload_n B dX9_leadOn_56 rfl ?_
        refine cl_X9_127 B (c_X6_take hl hρ0 (h1.ch (by omega)) (h1.r.2.2.1 i (by omega)) rfl (by rw [hcon]; omega) (by omega)) hρ0 dX9_leadOn_57 (by first | exact Nat.le_of_ble_eq_true rfl | omega | (simp only [kR, Value.category, kCat_q, List.map, List.sum_cons, List.sum_nil]; omega)) (by first | exact Nat.le_of_ble_eq_true rfl | omega | (simp only [kR, Value.category, kCat_q, List.map, List.sum_cons, List.sum_nil]; omega)) (by first | exact Nat.le_of_ble_eq_true rfl | omega | (simp only [kR, Value.category, kCat_q, List.map, List.sum_cons, List.sum_nil]; omega)) (by first | exact Nat.le_of_ble_eq_true rfl | omega | (simp only [kR, Value.category, kCat_q, List.map, List.sum_cons, List.sum_nil]; omega)) (by first | exact Nat.le_of_ble_eq_true rfl | omega | (simp only [kR, Value.category, kCat_q, List.map, List.sum_cons, List.sum_nil]; omega)) (fun _ hx => hx.elim) (fun v57 s57 hp57 => ?_)
        obtain ⟨T, Q, b1, b2, rfl, b4, b5, b6, b7, b8, b9, b10⟩ := hp57
        have hun2 : unS (kCon (R1 i)) - unS (kCon T) = unS (kCon Q) := by
          rw [b1, b2]
          have := tkS_un (P := kCon (R1 i)) (w := w)
          omega
        rw [hun2] at b4
        have hrd := h1.r.1 d (by omega)
        have hrid : ra d ≠ ra i := fun q => d2 (h1.r.2.2.2.2 d i (by omega) (by omega) q)
        have hrd57 : s57 (ra d) = some (rowE (nI (unS (kCon (R1 d)))) (hdA (R1 d)) (lsA (R1 d))) := b9 _ _ hrd (fun q => q.elim hrid (pCh_no (h1.ch (by omega)) hrd (show (6 : Nat) ≠ 5 by decide)))
        have hchd : pCh s57 (R1 d) := pCh_keep (h1.ch (i := d) (by omega)) (fun a ha e he => b9 _ _ he (fun q => by
          rcases q with q | q
          · obtain ⟨p1, y1, hh⟩ := pSeg_adr (pCh_iff.mp (h1.ch (i := d) (by omega))) ha
            rw [q, hρ0] at hh; cases hh
          · exact h1.r.2.2.2.1 d i (by omega) (by omega) d2 a ha q))
        have hdis : ∀ a ∈ adr (R1 d), a ∉ adr T := fun a ha hT => by
          rcases b8 a (List.mem_append_left _ hT) with q | q
          · exact h1.r.2.2.2.1 d i (by omega) (by omega) d2 a ha q
          · obtain ⟨p1, y1, hh⟩ := pSeg_adr (pCh_iff.mp (h1.ch (i := d) (by omega))) ha
            rw [q] at hh; cases hh
        refine kK.rev (y := va_rf (hdA T)) rfl ?_
        refine cl_X9_131 B (c_X6_append hl hrd57 hchd b5 (h1.r.2.2.1 d (by omega)) hdis) hrd57 dX9_leadOn_60 (by first | exact Nat.le_of_ble_eq_true rfl | omega | (simp only [kR, Value.category, kCat_q, List.map, List.sum_cons, List.sum_nil]; omega)) (by first | exact Nat.le_of_ble_eq_true rfl | omega | (simp only [kR, Value.category, kCat_q, List.map, List.sum_cons, List.sum_nil]; omega)) (by first | exact Nat.le_of_ble_eq_true rfl | omega | (simp only [kR, Value.category, kCat_q, List.map, List.sum_cons, List.sum_nil]; omega)) (by first | exact Nat.le_of_ble_eq_true rfl | omega | (simp only [kR, Value.category, kCat_q, List.map, List.sum_cons, List.sum_nil]; omega)) (by first | exact Nat.le_of_ble_eq_true rfl | omega | (simp only [kR, Value.category, kCat_q, List.map, List.sum_cons, List.sum_nil]; omega)) (fun _ hx => hx.elim) (fun v60 s60 hp60 => ?_)
        obtain ⟨rfl, m1, m2, m3, m4⟩ := hp60
        have hrw := h1.r.mv (i := i) (d := d) (by omega) (by omega) d2 b4 b5 b6 b7 b8 b9 m1 m2 m3
        have hI2 : cI D aO cA wA lA aJ cad ra wad lad (upN (upN R1 i Q) d (R1 d ++ T)) (setR (setR z (ldN (sK z) (sR z) i)) (ldN (sK z) (sR z) (i + 1))) (ldJ (sK z) (sR z) J i) F s60 := h1.rows hrw (fun j hj => by
          show _ = ldS (sK z) (ldN (sK z) (sR z) i) i j
          rw [ldS, hd, hwg]
          by_cases q : j = d
          · subst q
            rw [upN_eq, upN_eq, kCon_app, b1, hcon]
            congr 1
            exact h1.rc j (by omega)
          · rw [upN_ne q, upN_ne q]
            by_cases q2 : j = i
            · subst q2
              rw [upN_eq, upN_eq, b2, hcon]
            · rw [upN_ne q2, upN_ne q2]
              exact h1.rc j hj) (b10.tr m4)
        have hld : ∀ x, (sK z i).1 = some x → ∃ K2, s60 (cad x) = some (cE cad ra x K2) := fun x hx => ⟨_, hI2.c x (by have := hK i x hi10 hx; omega)⟩
        obtain ⟨tk9, f9, z9, sp9, hJ9⟩ := hI2.j.cell
        have hdi : ldI (sK z i).1 = toI d := by
          rw [← hd]
          unfold ldD
          cases hh : (sK z i).1 with
          | none => rfl
          | some x =>
            have := hK i x hi10 hh
            show nI x = toI x
            rw [toI, if_pos (by omega)]
        refine k_aload_n B dX9_leadOn_63 rfl (by first | exact kRf_r _ | exact kRf_q _ | exact kRf_n) ?_
        refine gf_X9_44 B dX9_leadOn_64 hI2.o rfl ?_
        refine k_iload_n B dX9_leadOn_67 rfl ?_
        refine k_aload_n B dX9_leadOn_68 rfl (by first | exact kRf_r _ | exact kRf_q _ | exact kRf_n) ?_
        refine cl_X9_76 B (c_X0_leadsTo hl (hI2.c i hi10) hld) (hI2.c i hi10) dX9_leadOn_69 (by first | exact Nat.le_of_ble_eq_true rfl | omega | (simp only [kR, Value.category, kCat_q, List.map, List.sum_cons, List.sum_nil]; omega)) (by first | exact Nat.le_of_ble_eq_true rfl | omega | (simp only [kR, Value.category, kCat_q, List.map, List.sum_cons, List.sum_nil]; omega)) (by first | exact Nat.le_of_ble_eq_true rfl | omega | (simp only [kR, Value.category, kCat_q, List.map, List.sum_cons, List.sum_nil]; omega)) (by first | exact Nat.le_of_ble_eq_true rfl | omega | (simp only [kR, Value.category, kCat_q, List.map, List.sum_cons, List.sum_nil]; omega)) (by first | exact Nat.le_of_ble_eq_true rfl | omega | (simp only [kR, Value.category, kCat_q, List.map, List.sum_cons, List.sum_nil]; omega)) (fun _ hx => hx.elim) (fun v69 s69 hp69 => ?_)
        obtain ⟨rfl, e69⟩ := hp69
        rw [e69]
        refine kK.rev (y := .int (toI d)) (congrArg Value.int hdi) ?_
        refine k_iload_n B dX9_leadOn_72 rfl ?_
        refine cl_X9_135 B (c_note hl hI2.j (e := .inr (i, d, w)) rfl (by omega)) hJ9 dX9_leadOn_73 (by first | exact Nat.le_of_ble_eq_true rfl | omega | (simp only [kR, Value.category, kCat_q, List.map, List.sum_cons, List.sum_nil]; omega)) (by first | exact Nat.le_of_ble_eq_true rfl | omega | (simp only [kR, Value.category, kCat_q, List.map, List.sum_cons, List.sum_nil]; omega)) (by first | exact Nat.le_of_ble_eq_true rfl | omega | (simp only [kR, Value.category, kCat_q, List.map, List.sum_cons, List.sum_nil]; omega)) (by first | exact Nat.le_of_ble_eq_true rfl | omega | (simp only [kR, Value.category, kCat_q, List.map, List.sum_cons, List.sum_nil]; omega)) (by first | exact Nat.le_of_ble_eq_true rfl | omega | (simp only [kR, Value.category, kCat_q, List.map, List.sum_cons, List.sum_nil]; omega)) (fun _ hx => hx.elim) (fun v73 s73 hp73 => ?_)
        obtain ⟨rfl, n2, n3⟩ := hp73
        have hI3 := hI2.jn n2 (n3.mono k13_J)
        refine k_iinc1 B dX9_leadOn_76 rfl (by decide) ?_
        try refine kK.set1 (by first | exact True.intro | rfl | exact kCat_q _) ?_
        refine k_goto B 9 dX9_leadOn_79 (by decide) ?_
        refine kK.sub (L2 := [some (.ref aO), some (.int (nI (i + 1))), none, none, none]) ⟨Or.inr rfl, Or.inr (by rw [← nI_1]), Or.inl rfl, Or.inl rfl, Or.inl rfl, trivial⟩ ?_
        refine kK.widen (k2 := 2 * (i + 1)) (n2 := 10 * (i + 1)) (by omega) (by omega) ?_
        refine ih (i + 1) (upN (upN R1 i Q) d (R1 d ++ T)) _ (by omega) ?_ (hF.tr (((b10.tr m4).mono k56_9).tr (n3.mono k13_9)))
        have ej : ldJ (sK z) (sR z) J (i + 1) = jAdd (ldJ (sK z) (sR z) J i) w (.inr (i, d, w)) := by rw [ldJ, hd, hwg]
        rw [ej]
        exact hI3
      refine k_iload_n B dX9_leadOn_9 rfl ?_
      refine k_bipush B (v := 10) dX9_leadOn_10 (by decide) ?_
      refine k_icmp_ge B 82 dX9_leadOn_12 (by decide) (fun c12 => ?_) (fun c12 => ?_)
      · exact absurd (show nI 10 ≤ nI i from c12) (nI_ge hi10 (by omega))
      · refine k_aload_n B dX9_leadOn_15 rfl (by first | exact kRf_r _ | exact kRf_q _ | exact kRf_n) ?_
        refine gf_X9_11 B dX9_leadOn_16 h1.o rfl ?_
        refine k_iload_n B dX9_leadOn_19 rfl ?_
        refine k_aald B (ti := 4) (C := RX0) rfl dX9_leadOn_20 f1 (vp_in_nI hi10 (by decide)) ?_
        refine kK.rev (y := .ref (cad i)) (by rw [nI_clamp (by omega), f2 i hi10]; rfl) ?_
        refine k_astore_n B dX9_leadOn_21 (by decide) (by first | exact kRf_r _ | exact kRf_q _ | exact kRf_n) ?_
        try refine kK.set1 (by first | exact True.intro | rfl | exact kCat_q _) ?_
        refine k_aload_n B dX9_leadOn_22 rfl (by first | exact kRf_r _ | exact kRf_q _ | exact kRf_n) ?_
        refine cl_X9_121 B (c_X0_yearly hl hc hρ hk.2.1 (by have := hk.2.2.1; omega) (by omega)) hc dX9_leadOn_23 (by first | exact Nat.le_of_ble_eq_true rfl | omega | (simp only [kR, Value.category, kCat_q, List.map, List.sum_cons, List.sum_nil]; omega)) (by first | exact Nat.le_of_ble_eq_true rfl | omega | (simp only [kR, Value.category, kCat_q, List.map, List.sum_cons, List.sum_nil]; omega)) (by first | exact Nat.le_of_ble_eq_true rfl | omega | (simp only [kR, Value.category, kCat_q, List.map, List.sum_cons, List.sum_nil]; omega)) (by first | exact Nat.le_of_ble_eq_true rfl | omega | (simp only [kR, Value.category, kCat_q, List.map, List.sum_cons, List.sum_nil]; omega)) (by first | exact Nat.le_of_ble_eq_true rfl | omega | (simp only [kR, Value.category, kCat_q, List.map, List.sum_cons, List.sum_nil]; omega)) (fun _ hx => hx.elim) (fun v23 s23 hp23 => ?_)
        obtain ⟨rfl, e23⟩ := hp23
        rw [e23]
        refine kK.rev (y := .int (nI w)) (by rw [← hwg, hw]) ?_
        have hd0 : ldD (sK z) i = match (sK z i).1 with
          | none => 10
          | some d => d := rfl
        have hc0 : s1 (cad i) = some (cE cad ra i (sK z i)) := hc
        generalize hkk : sK z i = kk at hc0 hd0
        obtain ⟨lw, kk2⟩ := kk
        cases lw with
        | none =>
          have hd1 : d = 10 := hd.symm.trans hd0
          refine k_istore_n B dX9_leadOn_26 (by decide) ?_
          try refine kK.set1 (by first | exact True.intro | rfl | exact kCat_q _) ?_
          refine k_aload_n B dX9_leadOn_27 rfl (by first | exact kRf_r _ | exact kRf_q _ | exact kRf_n) ?_
          refine gf_X9_80 B dX9_leadOn_28 hc0 rfl ?_
          refine k_ifnonnullN B 41 dX9_leadOn_31 (by decide) ?_
          refine k_aload_n B dX9_leadOn_34 rfl (by first | exact kRf_r _ | exact kRf_q _ | exact kRf_n) ?_
          refine gf_X9_37 B dX9_leadOn_35 h1.o rfl ?_
          refine k_goto B 48 dX9_leadOn_38 (by decide) ?_
          rw [hd1] at tail
          exact tail
        | some x =>
          have hd1 : d = x := hd.symm.trans hd0
          have hx : x < 10 := by have := hK i x hi10 (by rw [hkk]); omega
          refine k_istore_n B dX9_leadOn_26 (by decide) ?_
          try refine kK.set1 (by first | exact True.intro | rfl | exact kCat_q _) ?_
          refine k_aload_n B dX9_leadOn_27 rfl (by first | exact kRf_r _ | exact kRf_q _ | exact kRf_n) ?_
          refine gf_X9_80 B dX9_leadOn_28 hc0 rfl ?_
          refine k_ifnonnullR B 41 dX9_leadOn_31 (by decide) ?_
          refine k_aload_n B dX9_leadOn_41 rfl (by first | exact kRf_r _ | exact kRf_q _ | exact kRf_n) ?_
          refine gf_X9_80 B dX9_leadOn_42 hc0 rfl ?_
          refine gf_X9_124 B dX9_leadOn_45 (h1.c x hx) rfl ?_
          rw [hd1] at tail
          exact tail
  have h10 := h.r.1 10 (by omega)
  refine k_aload_n B dX9_leadOn_0 rfl (by first | exact kRf_r _ | exact kRf_q _ | exact kRf_n) ?_
  refine gf_X9_37 B dX9_leadOn_1 h.o rfl ?_
  refine cl_X9_118 B (c_X6_clear hl h10) h10 dX9_leadOn_4 (by first | exact Nat.le_of_ble_eq_true rfl | omega | (simp only [kR, Value.category, kCat_q, List.map, List.sum_cons, List.sum_nil]; omega)) (by first | exact Nat.le_of_ble_eq_true rfl | omega | (simp only [kR, Value.category, kCat_q, List.map, List.sum_cons, List.sum_nil]; omega)) (by first | exact Nat.le_of_ble_eq_true rfl | omega | (simp only [kR, Value.category, kCat_q, List.map, List.sum_cons, List.sum_nil]; omega)) (by first | exact Nat.le_of_ble_eq_true rfl | omega | (simp only [kR, Value.category, kCat_q, List.map, List.sum_cons, List.sum_nil]; omega)) (by first | exact Nat.le_of_ble_eq_true rfl | omega | (simp only [kR, Value.category, kCat_q, List.map, List.sum_cons, List.sum_nil]; omega)) (fun _ hx => hx.elim) (fun v4 s4 hp4 => ?_)
  obtain ⟨rfl, e4⟩ := hp4
  rw [e4]
  refine k_iconst B (v := 0) dX9_leadOn_7 (by decide) ?_
  refine k_istore_n B dX9_leadOn_8 (by decide) ?_
  try refine kK.set1 (by first | exact True.intro | rfl | exact kCat_q _) ?_
  rw [show (0 : Int32) = nI 0 by rw [nI_0]]
  refine loop 10 0 (upN R 10 []) _ (by decide) ?_ (kFr.up h10 (Or.inl (show (6 : Nat) ≤ 9 by decide)))
  refine h.rows ?_ (fun j hj => ?_) (kFr.up h10 (Or.inr rfl))
  · exact h.r.one (i := 10) (by omega) (fun a e he _ h1 h2 => kUp_o h1 he) (by rw [kUp_eq]; rfl) trivial List.nodup_nil (fun a ha => by cases ha)
  · show _ = upN (sR z) 10 [] j
    by_cases q : j = 10
    · subst q; rw [upN_eq, upN_eq]; rfl
    · rw [upN_ne q, upN_ne q]; exact h.rc j hj
end LeadOn
