def gBottle (z : kSt) (w u : Int32) : Option String := gWl z w (gRg u 1 1000 (gSt (decide (cN u ≤ rMay z (cN w)) && (decide (cN u ≤ unS (sR z (sW z (cN w)).1)) && decide (sLn z < 40)))))
def rBottle (z : kSt) : Int32 := nI (sLn z)
def botS (z : kSt) (i t : Nat) : kSt := ((z.1.1, z.1.2.1, z.1.2.2.1, z.1.2.2.2.1, z.1.2.2.2.2.1, z.1.2.2.2.2.2.1, z.1.2.2.2.2.2.2.1, z.1.2.2.2.2.2.2.2.1, z.1.2.2.2.2.2.2.2.2.1, sVil z + t * sCen z), z.2.1, upN (upN (sR z) (sW z i).1 (tkS (sR z (sW z i).1) t).2) (11 + sLn z) (tkS (sR z (sW z i).1) t).1, (sWn z, upN (sW z) i ((sW z i).1, (sW z i).2.1, (sW z i).2.2 + t)), (sLn z + 1, upN (sLo z) (sLn z) (i, sNow z, 0, -1, 0, 0)))
def nBottle (z : kSt) (w u : Int32) : kSt := botS z (cN w) (cN u)
def jBottle (z : kSt) (w u : Int32) (J : List kJe) : List kJe := J ++ [.inr ((sW z (cN w)).1, 11 + sLn z, cN u)]
section Bottle
variable {l : Launch} {D : va_G} {σ s2 : kS} {aO cA wA lA aJ : Nat} {cad ra wad lad : Nat → Nat} {R : Nat → kPs} {z : kSt} {J : List kJe} {F : kF}
theorem cI.arl (h : cI D aO cA wA lA aJ cad ra wad lad R z J F σ) {f f2 : Nat → Option Nat} (f1 : σ lA = some (.inl (D.1 17, 40, .inr (.inr (.inr (.inr f)))))) (hf : ∀ i, i < sLn z → f2 i = some (lad i)) : cI D aO cA wA lA aJ cad ra wad lad R z J F (kUp σ lA (.inl (D.1 17, 40, .inr (.inr (.inr (.inr f2)))))) := by
  have hk : ∀ P : va_E → Prop, (¬ P (.inl (D.1 17, 40, .inr (.inr (.inr (.inr f)))))) → kKp P σ (kUp σ lA (.inl (D.1 17, 40, .inr (.inr (.inr (.inr f2)))))) := fun P hp => kKp.up f1 hp
  exact ⟨kUp_o (kNeL h.o f1) h.o, h.a.keep (hk _ (fun q => absurd (show (40 : Nat) = 10 from q) (by decide))), h.aw.keep (hk _ (fun q => absurd (show (40 : Nat) = 6 from q) (by decide))), ⟨f2, kUp_eq, hf⟩, h.c.keep (hk _ (fun q => absurd (show (15 : Nat) = 0 from q) (by decide))), h.w.keep (hk _ (fun q => absurd (show (15 : Nat) = 8 from q) (by decide))), h.lo.keep (hk _ (fun q => absurd (show (15 : Nat) = 2 from q) (by decide))), h.r.keep (hk _ (fun q => q.elim (fun q => absurd (show (15 : Nat) = 5 from q) (by decide)) (fun q => absurd (show (15 : Nat) = 6 from q) (by decide)))), h.rc, h.j.keep (hk _ (fun q => by
    rcases q with q | q | q | q | q
    · exact absurd (show (15 : Nat) = 1 from q) (by decide)
    · exact absurd (show (15 : Nat) = 3 from q) (by decide)
    · exact absurd (show (15 : Nat) = 4 from q) (by decide)
    · exact absurd (show (15 : Nat) = 7 from q) (by decide)
    · exact absurd (show (40 : Nat) = 10 from q) (by decide)))⟩
set_option maxHeartbeats 4000000 in
set_option maxRecDepth 100000 in
theorem c_X9_bottle (hl : l.stackTraces = false) (hs : sOk z) (h : cl9 D aO z J F σ) {c9 u9 : Int32} : kMh hX9_bottle l D yX9_bottle 8 7 38 [.ref aO, .int c9, .int u9] σ (fun v s2 => gBottle z c9 u9 = none ∧ v = some (.int (rBottle z)) ∧ cl9 D aO (nBottle z c9 u9) (jBottle z c9 u9 J) F s2 ∧ kFr k9F σ s2) (fun E => gBottle z c9 u9 = some E) := by
  refine kM_of (L := [some (.ref aO), some (.int c9), some (.int u9), none, none, none]) (by decide +kernel) hl (List.forall_mem_cons.mpr ⟨rfl, (List.forall_mem_cons.mpr ⟨rfl, (List.forall_mem_cons.mpr ⟨rfl, (fun _ h => absurd h List.not_mem_nil)⟩)⟩)⟩) (Nat.le_of_ble_eq_true rfl) rfl ?_
  intro p e s m args below meth c B hr hex hnm
  have B : kB p l s m args meth c D (kA σ s.heap.size) 6 cX9_bottle RX9 := B
  obtain ⟨cA, wA, lA, aJ, cad, ra, wad, lad, R, h⟩ := h
  have hw6 := hs.2.2.1.1
  have hl40 := hs.2.2.2.1.1
  refine k_aload_n B dX9_bottle_0 rfl (by first | exact kRf_r _ | exact kRf_q _ | exact kRf_n) ?_
  refine k_iload_n B dX9_bottle_1 rfl ?_
  refine cl_X9_166 B (c_X9_wellAt hl h hw6) h.o dX9_bottle_2 (by first | exact Nat.le_of_ble_eq_true rfl | omega | (simp only [kR, Value.category, kCat_q, List.map, List.sum_cons, List.sum_nil]; omega)) (by first | exact Nat.le_of_ble_eq_true rfl | omega | (simp only [kR, Value.category, kCat_q, List.map, List.sum_cons, List.sum_nil]; omega)) (by first | exact Nat.le_of_ble_eq_true rfl | omega | (simp only [kR, Value.category, kCat_q, List.map, List.sum_cons, List.sum_nil]; omega)) (by first | exact Nat.le_of_ble_eq_true rfl | omega | (simp only [kR, Value.category, kCat_q, List.map, List.sum_cons, List.sum_nil]; omega)) (by first | exact Nat.le_of_ble_eq_true rfl | omega | (simp only [kR, Value.category, kCat_q, List.map, List.sum_cons, List.sum_nil]; omega)) (fun E hE => k_xout B hex (fun _ _ h => h) (gIx_n hE) (by decide) (by decide)) (fun v2 s2 hp2 => ?_)
  obtain ⟨e2, i, hi, e3, rfl⟩ := hp2
  rw [e2]
  subst e3
  have g1 : 0 ≤ nI i ∧ nI i < nI (sWn z) := ⟨nI_pos' (by omega), nI_lt hi (by omega)⟩
  have hw := h.w.1 i hi
  have hwk := hs.2.2.1.2 i hi
  refine k_astore_n B dX9_bottle_5 (by decide) (by first | exact kRf_r _ | exact kRf_q _ | exact kRf_n) ?_
  try refine kK.set1 (by first | exact True.intro | rfl | exact kCat_q _) ?_
  refine k_iload_n B dX9_bottle_6 rfl ?_
  refine k_iconst B (v := 1) dX9_bottle_7 (by decide) ?_
  refine k_sipush B (v := 1000) dX9_bottle_8 (by decide) ?_
  refine cl_X9_56 B (c_X9_needRange hl) dX9_bottle_11 (by first | exact Nat.le_of_ble_eq_true rfl | omega | (simp only [kR, Value.category, kCat_q, List.map, List.sum_cons, List.sum_nil]; omega)) (by first | exact Nat.le_of_ble_eq_true rfl | omega | (simp only [kR, Value.category, kCat_q, List.map, List.sum_cons, List.sum_nil]; omega)) (by first | exact Nat.le_of_ble_eq_true rfl | omega | (simp only [kR, Value.category, kCat_q, List.map, List.sum_cons, List.sum_nil]; omega)) (by first | exact Nat.le_of_ble_eq_true rfl | omega | (simp only [kR, Value.category, kCat_q, List.map, List.sum_cons, List.sum_nil]; omega)) (by first | exact Nat.le_of_ble_eq_true rfl | omega | (simp only [kR, Value.category, kCat_q, List.map, List.sum_cons, List.sum_nil]; omega)) (fun E hE => k_xout B hex (fun _ _ h => h) ((gIx_p g1).trans (gRg_n hE)) (by decide) (by decide)) (fun v11 s11 hp11 => ?_)
  obtain ⟨rfl, e11, g2⟩ := hp11
  rw [e11]
  obtain ⟨t, ht1, ht2, et⟩ := inR_of (a := 1) (n := 1000) rfl rfl (by decide) (by decide) g2
  subst et
  generalize hci : (sW z i).1 = ic
  have hic : ic < 10 := by rw [← hci]; exact hwk.1
  have hc := h.c ic hic
  have hρ := h.row (i := ic) (by omega)
  have hu := hs.un (i := ic) (by omega)
  have hw0 : σ (wad i) = some (.inr (8, [.ref (cad ic), .int (nI (sW z i).2.1), .int (nI (sW z i).2.2)])) := by rw [← hci]; exact hw
  have gg : gBottle z (nI i) (nI t) = gSt (decide (t ≤ rMay z i) && (decide (t ≤ unS (sR z ic)) && decide (sLn z < 40))) := by
    rw [gBottle, gWl, gIx_p g1, gRg_p g2, cN_nI (by omega), cN_nI (by omega), hci]
  generalize hPX : (fun E : String => gBottle z (nI i) (nI t) = some E) = PX
  generalize hPo : (fun (v : Option Value) (s2 : kS) => gBottle z (nI i) (nI t) = none ∧ v = some (.int (rBottle z)) ∧ cl9 D aO (nBottle z (nI i) (nI t)) (jBottle z (nI i) (nI t) J) F s2 ∧ kFr k9F σ s2) = Po
  have bad : (decide (t ≤ rMay z i) && (decide (t ≤ unS (sR z ic)) && decide (sLn z < 40))) = false → kK p l e (kR 8 7 38) s m args below meth c D (kA σ s.heap.size) 6 (kQ below args s D σ Po PX 7 38) σ 2 12 54 [some (.ref aO), some (.int (nI i)), some (.int (nI t)), some (.ref (wad i)), some (.ref (ra ic)), none] [] := by
    intro hb
    refine k_iconst B (v := 0) dX9_bottle_54 (by decide) ?_
    refine cl_X9_66 B (c_X9_needState hl) dX9_bottle_55 (by first | exact Nat.le_of_ble_eq_true rfl | omega | (simp only [kR, Value.category, kCat_q, List.map, List.sum_cons, List.sum_nil]; omega)) (by first | exact Nat.le_of_ble_eq_true rfl | omega | (simp only [kR, Value.category, kCat_q, List.map, List.sum_cons, List.sum_nil]; omega)) (by first | exact Nat.le_of_ble_eq_true rfl | omega | (simp only [kR, Value.category, kCat_q, List.map, List.sum_cons, List.sum_nil]; omega)) (by first | exact Nat.le_of_ble_eq_true rfl | omega | (simp only [kR, Value.category, kCat_q, List.map, List.sum_cons, List.sum_nil]; omega)) (by first | exact Nat.le_of_ble_eq_true rfl | omega | (simp only [kR, Value.category, kCat_q, List.map, List.sum_cons, List.sum_nil]; omega)) (fun E hE => k_xout B hex (fun _ _ h => h) (by rw [← hPX]; exact gg.trans (gSt_f hb hE.1)) (by decide) (by decide)) (fun v55 s55 hp55 => ?_)
    exact absurd rfl hp55.2.2
  have hmay : rMay z i ≤ 10000 := by
    have := hwk.2.1
    unfold rMay
    split
    · omega
    · split <;> omega
  refine k_aload_n B dX9_bottle_14 rfl (by first | exact kRf_r _ | exact kRf_q _ | exact kRf_n) ?_
  refine gf_X9_170 B dX9_bottle_15 hw0 rfl ?_
  refine gf_X9_124 B dX9_bottle_18 hc rfl ?_
  refine k_astore B dX9_bottle_21 (by decide) (by first | exact kRf_r _ | exact kRf_q _ | exact kRf_n) ?_
  try refine kK.set1 (by first | exact True.intro | rfl | exact kCat_q _) ?_
  refine k_iload_n B dX9_bottle_23 rfl ?_
  refine k_aload_n B dX9_bottle_24 rfl (by first | exact kRf_r _ | exact kRf_q _ | exact kRf_n) ?_
  refine k_aload_n B dX9_bottle_25 rfl (by first | exact kRf_r _ | exact kRf_q _ | exact kRf_n) ?_
  refine cl_X9_173 B (c_X9_mayTakeStill hl hs h hi) h.o dX9_bottle_26 (by first | exact Nat.le_of_ble_eq_true rfl | omega | (simp only [kR, Value.category, kCat_q, List.map, List.sum_cons, List.sum_nil]; omega)) (by first | exact Nat.le_of_ble_eq_true rfl | omega | (simp only [kR, Value.category, kCat_q, List.map, List.sum_cons, List.sum_nil]; omega)) (by first | exact Nat.le_of_ble_eq_true rfl | omega | (simp only [kR, Value.category, kCat_q, List.map, List.sum_cons, List.sum_nil]; omega)) (by first | exact Nat.le_of_ble_eq_true rfl | omega | (simp only [kR, Value.category, kCat_q, List.map, List.sum_cons, List.sum_nil]; omega)) (by first | exact Nat.le_of_ble_eq_true rfl | omega | (simp only [kR, Value.category, kCat_q, List.map, List.sum_cons, List.sum_nil]; omega)) (fun _ hx => hx.elim) (fun v26 s26 hp26 => ?_)
  obtain ⟨rfl, e26⟩ := hp26
  rw [e26]
  refine kK.rev (y := .int (nI (rMay z i))) rfl ?_
  refine k_icmp_gt B 54 dX9_bottle_29 (by decide) (fun c29 => ?_) (fun c29 => ?_)
  · rename_i c29
    exact bad (by rw [decide_eq_false (fun q => i32_lt_nle c29 (nI_le q (by omega)))]; rfl)
  · rename_i c29
    have q1 : t ≤ rMay z i := (nI_leI (by omega) (by omega)).mp (i32_nlt c29)
    refine k_iload_n B dX9_bottle_32 rfl ?_
    refine k_aload B dX9_bottle_33 rfl (by first | exact kRf_r _ | exact kRf_q _ | exact kRf_n) ?_
    refine gf_X9_142 B dX9_bottle_35 hρ rfl ?_
    refine k_icmp_gt B 54 dX9_bottle_38 (by decide) (fun c38 => ?_) (fun c38 => ?_)
    · rename_i c38
      exact bad (by rw [decide_eq_false (fun q => i32_lt_nle c38 (nI_le q (by omega))), Bool.false_and, Bool.and_false])
    · rename_i c38
      have q2 : t ≤ unS (sR z ic) := (nI_leI (by omega) (by omega)).mp (i32_nlt c38)
      refine k_aload_n B dX9_bottle_41 rfl (by first | exact kRf_r _ | exact kRf_q _ | exact kRf_n) ?_
      refine gf_X9_177 B dX9_bottle_42 h.o rfl ?_
      refine k_bipush B (v := 40) dX9_bottle_45 (by decide) ?_
      refine k_icmp_ge B 54 dX9_bottle_47 (by decide) (fun c47 => ?_) (fun c47 => ?_)
      · rename_i c47
        exact bad (by rw [decide_eq_false (fun q => nI_ge q (by decide) c47), Bool.and_false, Bool.and_false])
      · rename_i c47
        have q3 : sLn z < 40 := (nI_ltI (by omega) (by decide)).mp (Int32.not_le.mp c47)
        have hgn : gBottle z (nI i) (nI t) = none := gg.trans (gSt_t (by rw [decide_eq_true q1, decide_eq_true q2, decide_eq_true q3]; rfl))
        refine k_iconst B (v := 1) dX9_bottle_50 (by decide) ?_
        refine k_goto B 55 dX9_bottle_51 (by decide) ?_
        refine cl_X9_66 B (c_X9_needState hl) dX9_bottle_55 (by first | exact Nat.le_of_ble_eq_true rfl | omega | (simp only [kR, Value.category, kCat_q, List.map, List.sum_cons, List.sum_nil]; omega)) (by first | exact Nat.le_of_ble_eq_true rfl | omega | (simp only [kR, Value.category, kCat_q, List.map, List.sum_cons, List.sum_nil]; omega)) (by first | exact Nat.le_of_ble_eq_true rfl | omega | (simp only [kR, Value.category, kCat_q, List.map, List.sum_cons, List.sum_nil]; omega)) (by first | exact Nat.le_of_ble_eq_true rfl | omega | (simp only [kR, Value.category, kCat_q, List.map, List.sum_cons, List.sum_nil]; omega)) (by first | exact Nat.le_of_ble_eq_true rfl | omega | (simp only [kR, Value.category, kCat_q, List.map, List.sum_cons, List.sum_nil]; omega)) (fun E hE => absurd hE.2 (by decide)) (fun v55 s55 hp55 => ?_)
        obtain ⟨rfl, e55, -⟩ := hp55
        rw [e55]
        refine k_aload_n B dX9_bottle_58 rfl (by first | exact kRf_r _ | exact kRf_q _ | exact kRf_n) ?_
        refine gf_X9_177 B dX9_bottle_59 h.o rfl ?_
        refine k_istore B dX9_bottle_62 (by decide) ?_
        try refine kK.set1 (by first | exact True.intro | rfl | exact kCat_q _) ?_
        refine k_aload_n B dX9_bottle_64 rfl (by first | exact kRf_r _ | exact kRf_q _ | exact kRf_n) ?_
        refine gf_X9_30 B dX9_bottle_65 h.o rfl ?_
        refine k_iload B dX9_bottle_68 rfl ?_
        refine nw_X9_28 B dX9_bottle_70 (by first | exact Nat.le_of_ble_eq_true rfl | omega | (simp only [kR, Value.category, kCat_q, List.map, List.sum_cons, List.sum_nil]; omega)) (by first | exact Nat.le_of_ble_eq_true rfl | omega | (simp only [kR, Value.category, kCat_q, List.map, List.sum_cons, List.sum_nil]; omega)) (fun q70 hq70 => ?_)
        generalize hsA : kUp σ q70 _ = sA
        have hA : cI D aO cA wA lA aJ cad ra wad lad R z J F sA := by rw [← hsA]; exact h.keepB (kKp.new hq70)
        have hqA : sA q70 = some bL := by rw [← hsA]; exact kUp_eq
        have hFA : kFr k9F σ sA := by rw [← hsA]; exact kFr.new hq70
        have hρA := hA.r.1 ic (by omega)
        have hcon : kCon (R ic) = sR z ic := h.rc ic (by omega)
        refine k_dup B dX9_bottle_73 rfl ?_
        refine k_iload_n B dX9_bottle_74 rfl ?_
        refine k_aload_n B dX9_bottle_75 rfl (by first | exact kRf_r _ | exact kRf_q _ | exact kRf_n) ?_
        refine gf_X9_96 B dX9_bottle_76 hA.o rfl ?_
        refine k_aload B dX9_bottle_79 rfl (by first | exact kRf_r _ | exact kRf_q _ | exact kRf_n) ?_
        refine k_iload_n B dX9_bottle_81 rfl ?_
        refine cl_X9_127 B (c_X6_take hl hρA (hA.ch (by omega)) (hA.r.2.2.1 ic (by omega)) rfl (by rw [hcon]; omega) (by omega)) hρA dX9_bottle_82 (by first | exact Nat.le_of_ble_eq_true rfl | omega | (simp only [kR, Value.category, kCat_q, List.map, List.sum_cons, List.sum_nil]; omega)) (by first | exact Nat.le_of_ble_eq_true rfl | omega | (simp only [kR, Value.category, kCat_q, List.map, List.sum_cons, List.sum_nil]; omega)) (by first | exact Nat.le_of_ble_eq_true rfl | omega | (simp only [kR, Value.category, kCat_q, List.map, List.sum_cons, List.sum_nil]; omega)) (by first | exact Nat.le_of_ble_eq_true rfl | omega | (simp only [kR, Value.category, kCat_q, List.map, List.sum_cons, List.sum_nil]; omega)) (by first | exact Nat.le_of_ble_eq_true rfl | omega | (simp only [kR, Value.category, kCat_q, List.map, List.sum_cons, List.sum_nil]; omega)) (fun _ hx => hx.elim) (fun v82 s82 hp82 => ?_)
        obtain ⟨T, Q, b1, b2, rfl, b4, b5, b6, b7, b8, b9, b10⟩ := hp82
        have hun2 : unS (kCon (R ic)) - unS (kCon T) = unS (kCon Q) := by
          rw [b1, b2]
          have := tkS_un (P := kCon (R ic)) (w := t)
          omega
        rw [hun2] at b4
        have hnew : ∀ a ∈ adr T ++ adr Q, ∀ j, j < 11 + sLn z → j ≠ ic → a ∉ adr (R j) := by
          intro a ha j hj hji hm
          rcases b8 a ha with q | q
          · exact hA.r.2.2.2.1 j ic hj (by omega) hji a hm q
          · obtain ⟨p1, y1, hh⟩ := pSeg_adr (pCh_iff.mp (hA.ch hj)) hm
            rw [q] at hh; cases hh
        have h82 : cI D aO cA wA lA aJ cad ra wad lad (upN R ic Q) (setR z (upN (sR z) ic (tkS (sR z ic) t).2)) J F s82 := hA.rows (hA.r.one (by omega) (fun a e he _ x1 x2 => b9 a e he (fun q => q.elim x1 x2)) b4 b6 (List.nodup_append.mp b7).2.1 (fun a ha => hnew a (List.mem_append_right _ ha))) (fun j hj => by
          by_cases q : j = ic
          · subst q; rw [upN_eq, upN_eq, b2, hcon]
          · rw [upN_ne q, upN_ne q]; exact h.rc j hj) b10
        have hq82 : s82 q70 = some bL := b10 _ _ hqA (fun q => q.elim (fun q => by cases q) (fun q => by cases q))
        have hTd82 : ∀ a ∈ adr T, ∀ j, j < 11 + sLn z → a ∉ adr (upN R ic Q j) := by
          intro a ha j hj hm
          by_cases q : j = ic
          · subst q; rw [upN_eq] at hm
            exact (List.nodup_append.mp b7).2.2 a ha a hm rfl
          · rw [upN_ne q] at hm
            exact hnew a (List.mem_append_left _ ha) j hj q hm
        refine kK.rev (y := va_rf (hdA T)) rfl ?_
        refine cl_X9_180 B (c_X2_init hl (w := i) (b := sNow z) hq82 b5) dX9_bottle_85 (by first | exact Nat.le_of_ble_eq_true rfl | omega | (simp only [kR, Value.category, kCat_q, List.map, List.sum_cons, List.sum_nil]; omega)) (by first | exact Nat.le_of_ble_eq_true rfl | omega | (simp only [kR, Value.category, kCat_q, List.map, List.sum_cons, List.sum_nil]; omega)) (by first | exact Nat.le_of_ble_eq_true rfl | omega | (simp only [kR, Value.category, kCat_q, List.map, List.sum_cons, List.sum_nil]; omega)) (by first | exact Nat.le_of_ble_eq_true rfl | omega | (simp only [kR, Value.category, kCat_q, List.map, List.sum_cons, List.sum_nil]; omega)) (by first | exact Nat.le_of_ble_eq_true rfl | omega | (simp only [kR, Value.category, kCat_q, List.map, List.sum_cons, List.sum_nil]; omega)) (fun _ hx => hx.elim) (fun v85 s85 hp85 => ?_)
        obtain ⟨r, rfl, d1, d2, d3, d4, d5, d6⟩ := hp85
        have h85 := h82.keepB (s2 := s85) (fun a e he hne => d5 a e he (fun q => hne (by subst q; rw [hq82] at he; exact (Option.some.inj he).symm)))
        have hqn : ∀ j, j < sLn z → lad j ≠ q70 := fun j hj q => by
          have x1 := h.lo.1 j hj
          rw [q, hq70] at x1
          cases x1
        have hrn : ∀ j, j < 11 + sLn z → ra j ≠ r := fun j hj => kNeN (h82.row (i := j) hj) d1
        obtain ⟨f, f1, f2⟩ := h85.al
        refine k_aast B (ti := 6) (C := RX2) rfl (ci := 2) rfl dX9_bottle_88 f1 d2 (vp_in_nI q3 (by decide)) ?_
        rw [nI_clamp (show sLn z < 2 ^ 31 by omega)]
        have hqO : q70 ≠ lA := kNeL d2 f1
        have hB := h85.arl f1 (f2 := va_up f (sLn z) (some q70)) (fun j hj => by
          rw [va_up, if_neg (show ¬ j = sLn z from fun q => by have hj : j < sLn z := hj; omega)]; exact f2 j hj)
        have dq := kUp_o (e := .inl (D.1 17, 40, .inr (.inr (.inr (.inr (va_up f (sLn z) (some q70))))))) hqO d2
        have dr := kUp_o (e := .inl (D.1 17, 40, .inr (.inr (.inr (.inr (va_up f (sLn z) (some q70))))))) (kNeL d3 f1) d3
        have dT : pCh (kUp s85 lA (.inl (D.1 17, 40, .inr (.inr (.inr (.inr (va_up f (sLn z) (some q70)))))))) T := pCh_kp d4 (kKp.up f1 (fun q => q.elim (fun q => by cases q) (fun q => by cases q)))
        have hFB : kFr k9F σ (kUp s85 lA (.inl (D.1 17, 40, .inr (.inr (.inr (.inr (va_up f (sLn z) (some q70)))))))) := ((hFA.tr (b10.mono k56_9)).tr (d6.mono (fun k q => Or.inl (by rw [q]; decide)))).tr (kFr.up f1 (Or.inr rfl))
        have f4 : kUp s85 lA (.inl (D.1 17, 40, .inr (.inr (.inr (.inr (va_up f (sLn z) (some q70))))))) lA = some (.inl (D.1 17, 40, .inr (.inr (.inr (.inr (va_up f (sLn z) (some q70))))))) := kUp_eq
        generalize kUp s85 lA (.inl (D.1 17, 40, .inr (.inr (.inr (.inr (va_up f (sLn z) (some q70))))))) = sB at hB dq dr dT hFB f4
        have hOw : aO ≠ wad i := kNe hB.o (hB.w.1 i hi) (by decide)
        refine k_aload_n B dX9_bottle_89 rfl (by first | exact kRf_r _ | exact kRf_q _ | exact kRf_n) ?_
        refine k_dup B dX9_bottle_90 rfl ?_
        refine gf_X9_177 B dX9_bottle_91 hB.o rfl ?_
        refine k_iconst B (v := 1) dX9_bottle_94 (by decide) ?_
        refine k_iadd B dX9_bottle_95 ?_
        refine kK.rei (y := nI (sLn z + 1)) (nI_1 _) ?_
        refine pf_X9_177 B dX9_bottle_96 hB.o rfl ?_
        refine k_aload_n B dX9_bottle_99 rfl (by first | exact kRf_r _ | exact kRf_q _ | exact kRf_n) ?_
        refine k_dup B dX9_bottle_100 rfl ?_
        refine gf_X9_115 B dX9_bottle_101 (kUp_o (Ne.symm hOw) (hB.w.1 i hi)) rfl ?_
        refine k_iload_n B dX9_bottle_104 rfl ?_
        refine k_iadd B dX9_bottle_105 ?_
        refine kK.rei (y := nI ((sW z i).2.2 + t)) (nI_add _ _) ?_
        refine pf_X9_115 B dX9_bottle_106 (kUp_o (Ne.symm hOw) (hB.w.1 i hi)) rfl ?_
        refine k_aload_n B dX9_bottle_109 rfl (by first | exact kRf_r _ | exact kRf_q _ | exact kRf_n) ?_
        refine k_dup B dX9_bottle_110 rfl ?_
        refine gf_X9_183 B dX9_bottle_111 (kUp_o hOw kUp_eq) rfl ?_
        refine k_iload_n B dX9_bottle_114 rfl ?_
        refine k_i2l B dX9_bottle_115 ?_
        refine kK.rel (y := nL t) (nI_L (by omega)) ?_
        refine k_aload_n B dX9_bottle_116 rfl (by first | exact kRf_r _ | exact kRf_q _ | exact kRf_n) ?_
        refine gf_X9_48 B dX9_bottle_117 (kUp_o hOw kUp_eq) rfl ?_
        refine k_i2l B dX9_bottle_120 ?_
        refine kK.rel (y := nL (sCen z)) (nI_L (show sCen z < 2 ^ 31 by have := hs.1.2.1; omega)) ?_
        refine k_lmul B dX9_bottle_121 ?_
        refine kK.rel (y := nL (t * sCen z)) (nL_mul _ _) ?_
        refine k_ladd B dX9_bottle_122 ?_
        refine kK.rel (y := nL (sVil z + t * sCen z)) (nL_add _ _) ?_
        refine pf_X9_183 B dX9_bottle_123 (kUp_o hOw kUp_eq) rfl ?_
        refine kK.eq (kUp_mid hOw) ?_
        generalize hsD : kUp (kUp sB (wad i) _) aO _ = sD
        have hwB := hB.w.1 i hi
        have hD : cI D aO cA wA lA aJ cad (upN ra (11 + sLn z) r) wad (upN lad (sLn z) q70) (upN (upN R ic Q) (11 + sLn z) T) (botS z i t) J F sD := by
          have hC := hB.well hi ((sW z i).1, (sW z i).2.1, (sW z i).2.2 + t)
          have hkC : ∀ P : va_E → Prop, (∀ e, kC e = 8 → ¬ P e) → kKp P sB (kUp sB (wad i) (wE cad ((sW z i).1, (sW z i).2.1, (sW z i).2.2 + t))) := fun P hp => kKp.up hwB (hp _ rfl)
          have := hC.addLot (q := q70) (r := r) (T := T) (t := (i, sNow z, 0, -1, 0, 0)) (f := va_up f (sLn z) (some q70)) (kUp_o (kNeL hwB f4).symm f4) (fun j hj => by
            rw [va_up, if_neg (show ¬ j = sLn z from fun q => by have hj : j < sLn z := hj; omega)]; exact f2 j hj) (by
            show va_up f (sLn z) (some q70) (sLn z) = some q70
            rw [va_up, if_pos rfl]) (kUp_o (kNe dq hwB (by decide)) dq) hqn (kUp_o (kNe dr hwB (by decide)) dr) hrn (pCh_kp dT (hkC _ (fun e q => noR q (by decide)))) (List.nodup_append.mp b7).1 hTd82 (z.1.1, z.1.2.1, z.1.2.2.1, z.1.2.2.2.1, z.1.2.2.2.2.1, z.1.2.2.2.2.2.1, z.1.2.2.2.2.2.2.1, z.1.2.2.2.2.2.2.2.1, z.1.2.2.2.2.2.2.2.2.1, sVil z + t * sCen z) _ rfl
          have eS : botS z i t = ((z.1.1, z.1.2.1, z.1.2.2.1, z.1.2.2.2.1, z.1.2.2.2.2.1, z.1.2.2.2.2.2.1, z.1.2.2.2.2.2.2.1, z.1.2.2.2.2.2.2.2.1, z.1.2.2.2.2.2.2.2.2.1, sVil z + t * sCen z), z.2.1, upN (upN (sR z) ic (tkS (sR z ic) t).2) (11 + sLn z) (kCon T), (sWn z, upN (sW z) i ((sW z i).1, (sW z i).2.1, (sW z i).2.2 + t)), (sLn z + 1, upN (sLo z) (sLn z) (i, sNow z, 0, -1, 0, 0))) := by rw [botS, b1, hcon, hci]
          rw [eS, ← hsD]
          exact this
        have hFD : kFr k9F σ sD := by
          rw [← hsD]
          exact (hFB.tr (kFr.up hwB (Or.inl (show (8 : Nat) ≤ 9 by decide)))).tr (kFr.up (kUp_o hOw hB.o) (Or.inl (show (9 : Nat) ≤ 9 by decide)))
        obtain ⟨tk9, f9, z9, sp9, hJ9⟩ := hD.j.cell
        have hwD : sD (wad i) = some (.inr (8, [.ref (cad ic), .int (nI (sW z i).2.1), .int (nI ((sW z i).2.2 + t))])) := by
          have := hD.w.1 i hi
          rw [this, ← hci]
          show some (wE cad (upN (sW z) i ((sW z i).1, (sW z i).2.1, (sW z i).2.2 + t) i)) = _
          rw [upN_eq]
          rfl
        refine k_aload_n B dX9_bottle_126 rfl (by first | exact kRf_r _ | exact kRf_q _ | exact kRf_n) ?_
        refine gf_X9_44 B dX9_bottle_127 hD.o rfl ?_
        refine k_aload_n B dX9_bottle_130 rfl (by first | exact kRf_r _ | exact kRf_q _ | exact kRf_n) ?_
        refine gf_X9_170 B dX9_bottle_131 hwD rfl ?_
        refine gf_X9_186 B dX9_bottle_134 (hD.c ic hic) rfl ?_
        refine k_bipush B (v := 10) dX9_bottle_137 (by decide) ?_
        refine k_iload B dX9_bottle_139 rfl ?_
        refine k_iadd B dX9_bottle_141 ?_
        refine kK.rei (y := toI (11 + sLn z)) (by
          rw [toI, if_neg (by omega), if_neg (by omega), show 11 + sLn z - 1 = 10 + sLn z by omega]
          exact nI_add 10 (sLn z)) ?_
        refine k_iload_n B dX9_bottle_142 rfl ?_
        refine cl_X9_135 B (c_note hl hD.j (e := .inr (ic, 11 + sLn z, t)) rfl (by omega)) hJ9 dX9_bottle_143 (by first | exact Nat.le_of_ble_eq_true rfl | omega | (simp only [kR, Value.category, kCat_q, List.map, List.sum_cons, List.sum_nil]; omega)) (by first | exact Nat.le_of_ble_eq_true rfl | omega | (simp only [kR, Value.category, kCat_q, List.map, List.sum_cons, List.sum_nil]; omega)) (by first | exact Nat.le_of_ble_eq_true rfl | omega | (simp only [kR, Value.category, kCat_q, List.map, List.sum_cons, List.sum_nil]; omega)) (by first | exact Nat.le_of_ble_eq_true rfl | omega | (simp only [kR, Value.category, kCat_q, List.map, List.sum_cons, List.sum_nil]; omega)) (by first | exact Nat.le_of_ble_eq_true rfl | omega | (simp only [kR, Value.category, kCat_q, List.map, List.sum_cons, List.sum_nil]; omega)) (fun _ hx => hx.elim) (fun v143 s143 hp143 => ?_)
        obtain ⟨rfl, n2, n3⟩ := hp143
        refine k_iload B dX9_bottle_146 rfl ?_
        refine k_iret B hr dX9_bottle_148 ?_ (by first | exact Nat.le_of_ble_eq_true rfl | omega | (simp only [kR, Value.category, kCat_q, List.map, List.sum_cons, List.sum_nil]; omega)) (by first | exact Nat.le_of_ble_eq_true rfl | omega | (simp only [kR, Value.category, kCat_q, List.map, List.sum_cons, List.sum_nil]; omega))
        rw [← hPo]
        refine ⟨hgn, rfl, ⟨cA, wA, lA, aJ, cad, upN ra (11 + sLn z) r, wad, upN lad (sLn z) q70, upN (upN R ic Q) (11 + sLn z) T, ?_⟩, hFD.tr (n3.mono k13_9)⟩
        have h9 := hD.jn n2 (n3.mono k13_J)
        have e1 : nBottle z (nI i) (nI t) = botS z i t := by rw [nBottle, cN_nI (by omega), cN_nI (by omega)]
        have e2 : jBottle z (nI i) (nI t) J = jAdd J t (.inr (ic, 11 + sLn z, t)) := by rw [jBottle, cN_nI (by omega), cN_nI (by omega), hci, jAdd, if_neg (by omega)]
        rw [e1, e2]
        exact h9
end Bottle
