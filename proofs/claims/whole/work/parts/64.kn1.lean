def setKn (q : kQc) (k : Int32) : kQc := ((q.1.1, k, q.1.2.2), q.2)
theorem tkS_0 {P : List kP} (h : ∀ q ∈ P, 1 ≤ kUn q) : tkS P 0 = ([], P) := by
  cases P with
  | nil => rfl
  | cons p t =>
    have := h p List.mem_cons_self
    rw [tkS, if_neg (by omega), if_pos rfl]
theorem kCon_sn {L : kPs} {j : Nat} {p : kP} : kCon (L ++ [(j, p)]) = kCon L ++ [p] := by rw [kCon, List.map_append]; rfl
theorem lsA_mem {L : kPs} {b : Nat} (h : lsA L = some b) : b ∈ adr L := by
  induction L with
  | nil => cases h
  | cons x t ih =>
    cases t with
    | nil => cases h; simp [adr]
    | cons y t2 =>
      have := ih h
      simp only [adr, List.map_cons, List.mem_cons] at this ⊢
      exact Or.inr this
theorem knS_snoc {mv mv2 : Nat → Nat → Int32} {L : kPs} {j : Nat} {p : kP} (h : knS mv L) (hn : (adr L).Nodup) (h1 : ∀ a i, 12 ≤ a → a ≤ 16 → i ∈ adr L → mv2 a i = mv a i) (h2 : ∀ i ∈ adr L, lsA L ≠ some i → mv2 11 i = mv 11 i) (h3 : ∀ b, lsA L = some b → mv2 11 b = nI j) (h4 : mv2 11 j = -1) (h5 : knC mv2 j p) : knS mv2 (L ++ [(j, p)]) := by
  induction L with
  | nil => exact ⟨h4, h5, trivial⟩
  | cons b t ih =>
    obtain ⟨b, pb⟩ := b
    have hb : b ∈ adr ((b, pb) :: t) := by simp [adr]
    have hc : knC mv2 b pb := by
      obtain ⟨g1, g2, g3, g4, g5⟩ := h.2.1
      exact ⟨(h1 13 b (by decide) (by decide) hb).trans g1, (h1 14 b (by decide) (by decide) hb).trans g2, (h1 15 b (by decide) (by decide) hb).trans g3, (h1 16 b (by decide) (by decide) hb).trans g4, (h1 12 b (by decide) (by decide) hb).trans g5⟩
    have hm : ∀ i, i ∈ adr t → i ∈ adr ((b, pb) :: t) := fun i hi => by
      simp only [adr, List.map_cons, List.mem_cons] at hi ⊢; exact Or.inr hi
    have hn2 : b ∉ adr t ∧ (adr t).Nodup := by simpa [adr] using hn
    cases t with
    | nil => exact ⟨h3 b rfl, hc, h4, h5, trivial⟩
    | cons d t2 =>
      have hl2 : lsA ((b, pb) :: d :: t2) = lsA (d :: t2) := rfl
      rw [hl2] at h2 h3
      refine ⟨?_, hc, ih h.2.2 hn2.2 (fun a i q1 q2 q3 => h1 a i q1 q2 (hm i q3)) (fun i hi => h2 i (hm i hi)) h3⟩
      have hne : lsA (d :: t2) ≠ some b := fun q => hn2.1 (lsA_mem q)
      rw [h2 b hb hne]
      exact h.1
section Kn1
variable {l : Launch} {D : va_G} {σ : kS} {aM : Nat} {ma : Nat → Nat} {mv : Nat → Nat → Int32} {q : kQc} {kn : Nat} {Lk : Nat → kPs}
set_option maxRecDepth 100000 in
theorem c_X10_knots (hl : l.stackTraces = false) (h : mI D aM ma mv q σ) (hq : q.1.2.1 = nI kn) (hkn : kn < 6200) {x1 x2 x3 x4 x5 : Int32} : kMh hX10_knots l D yX10_knots 1 0 0 [.ref aM, .int x1, .int x2, .int x3, .int x4, .int x5] σ (fun v s2 => v = some (.int (nI kn)) ∧ (∃ mv2, mI D aM ma mv2 (setKn q (nI (kn + 1))) s2 ∧ (∀ a i, ¬ (12 ≤ a ∧ a ≤ 16) ∨ i ≠ kn → mv2 a i = mv a i) ∧ mv2 12 kn = x1 ∧ mv2 13 kn = x2 ∧ mv2 14 kn = x3 ∧ mv2 15 kn = x4 ∧ mv2 16 kn = x5) ∧ kOut (mOwn aM ma) σ s2) (fun _ => False) := by
  refine kM_of (L := [some (.ref aM), some (.int x1), some (.int x2), some (.int x3), some (.int x4), some (.int x5)]) (by decide +kernel) hl (List.forall_mem_cons.mpr ⟨rfl, (List.forall_mem_cons.mpr ⟨rfl, (List.forall_mem_cons.mpr ⟨rfl, (List.forall_mem_cons.mpr ⟨rfl, (List.forall_mem_cons.mpr ⟨rfl, (List.forall_mem_cons.mpr ⟨rfl, (fun _ h => absurd h List.not_mem_nil)⟩)⟩)⟩)⟩)⟩)⟩) (Nat.le_of_ble_eq_true rfl) rfl ?_
  intro p e s m args below meth c B hr hex hnm
  have B : kB p l s m args meth c D (kA σ s.heap.size) 6 cX10_knots RX10 := B
  obtain ⟨⟨y0, kk, rq⟩, q2⟩ := q
  have hq : kk = nI kn := hq
  subst hq
  refine k_aload_n B dX10_knots_0 rfl (by first | exact kRf_r _ | exact kRf_q _ | exact kRf_n) ?_
  refine gf_X10_40 B dX10_knots_1 h.o rfl ?_
  refine k_aload_n B dX10_knots_4 rfl (by first | exact kRf_r _ | exact kRf_q _ | exact kRf_n) ?_
  refine gf_X10_117 B dX10_knots_5 h.o rfl ?_
  refine k_iload_n B dX10_knots_8 rfl ?_
  refine k_iast B dX10_knots_9 (h.i (k := 12) rfl (by decide)) (vp_in_nI hkn (by decide)) ?_
  have h2 := h.s (k := 12) rfl (by decide) (i := kn) (by omega) x1
  refine k_aload_n B dX10_knots_10 rfl (by first | exact kRf_r _ | exact kRf_q _ | exact kRf_n) ?_
  refine gf_X10_43 B dX10_knots_11 h2.o rfl ?_
  refine k_aload_n B dX10_knots_14 rfl (by first | exact kRf_r _ | exact kRf_q _ | exact kRf_n) ?_
  refine gf_X10_117 B dX10_knots_15 h2.o rfl ?_
  refine k_iload_n B dX10_knots_18 rfl ?_
  refine k_iast B dX10_knots_19 (h2.i (k := 13) rfl (by decide)) (vp_in_nI hkn (by decide)) ?_
  have h3 := h2.s (k := 13) rfl (by decide) (i := kn) (by omega) x2
  refine k_aload_n B dX10_knots_20 rfl (by first | exact kRf_r _ | exact kRf_q _ | exact kRf_n) ?_
  refine gf_X10_46 B dX10_knots_21 h3.o rfl ?_
  refine k_aload_n B dX10_knots_24 rfl (by first | exact kRf_r _ | exact kRf_q _ | exact kRf_n) ?_
  refine gf_X10_117 B dX10_knots_25 h3.o rfl ?_
  refine k_iload_n B dX10_knots_28 rfl ?_
  refine k_iast B dX10_knots_29 (h3.i (k := 14) rfl (by decide)) (vp_in_nI hkn (by decide)) ?_
  have h4 := h3.s (k := 14) rfl (by decide) (i := kn) (by omega) x3
  refine k_aload_n B dX10_knots_30 rfl (by first | exact kRf_r _ | exact kRf_q _ | exact kRf_n) ?_
  refine gf_X10_49 B dX10_knots_31 h4.o rfl ?_
  refine k_aload_n B dX10_knots_34 rfl (by first | exact kRf_r _ | exact kRf_q _ | exact kRf_n) ?_
  refine gf_X10_117 B dX10_knots_35 h4.o rfl ?_
  refine k_iload B dX10_knots_38 rfl ?_
  refine k_iast B dX10_knots_40 (h4.i (k := 15) rfl (by decide)) (vp_in_nI hkn (by decide)) ?_
  have h5 := h4.s (k := 15) rfl (by decide) (i := kn) (by omega) x4
  refine k_aload_n B dX10_knots_41 rfl (by first | exact kRf_r _ | exact kRf_q _ | exact kRf_n) ?_
  refine gf_X10_52 B dX10_knots_42 h5.o rfl ?_
  refine k_aload_n B dX10_knots_45 rfl (by first | exact kRf_r _ | exact kRf_q _ | exact kRf_n) ?_
  refine gf_X10_117 B dX10_knots_46 h5.o rfl ?_
  refine k_iload B dX10_knots_49 rfl ?_
  refine k_iast B dX10_knots_51 (h5.i (k := 16) rfl (by decide)) (vp_in_nI hkn (by decide)) ?_
  have h6 := h5.s (k := 16) rfl (by decide) (i := kn) (by omega) x5
  refine k_aload_n B dX10_knots_52 rfl (by first | exact kRf_r _ | exact kRf_q _ | exact kRf_n) ?_
  refine k_dup B dX10_knots_53 rfl ?_
  refine gf_X10_117 B dX10_knots_54 h6.o rfl ?_
  refine k_iconst B (v := 1) dX10_knots_57 (by decide) ?_
  refine k_iadd B dX10_knots_58 ?_
  refine kK.rei (y := nI (kn + 1)) (nI_1 _) ?_
  refine pf_X10_117 B dX10_knots_59 h6.o rfl ?_
  refine k_aload_n B dX10_knots_62 rfl (by first | exact kRf_r _ | exact kRf_q _ | exact kRf_n) ?_
  refine gf_X10_117 B dX10_knots_63 kUp_eq rfl ?_
  refine k_iconst B (v := 1) dX10_knots_66 (by decide) ?_
  refine k_isub B dX10_knots_67 ?_
  refine kK.rei (y := nI kn) (nI_pred _) ?_
  refine k_iret B hr dX10_knots_68 ?_ (by first | exact Nat.le_of_ble_eq_true rfl | omega | (simp only [kR, Value.category, kCat_q, List.map, List.sum_cons, List.sum_nil]; omega)) (by first | exact Nat.le_of_ble_eq_true rfl | omega | (simp only [kR, Value.category, kCat_q, List.map, List.sum_cons, List.sum_nil]; omega))
  refine ⟨rfl, ⟨_, h6.up ((y0, nI (kn + 1), rq), q2), fun a i q => ?_, ?_, ?_, ?_, ?_, mS_eq⟩, (((((kOut.up (mOwn.a (k := 12) rfl)).tr (kOut.up (mOwn.a (k := 13) rfl))).tr (kOut.up (mOwn.a (k := 14) rfl))).tr (kOut.up (mOwn.a (k := 15) rfl))).tr (kOut.up (mOwn.a (k := 16) rfl))).tr (kOut.up mOwn.o)⟩
  · have c9 : ∀ (mv3 : Nat → Nat → Int32) (k : Nat) (x : Int32), 12 ≤ k ∧ k ≤ 16 → mS mv3 k kn x a i = mv3 a i := fun mv3 k x hk => mS_c hk a i q
    rw [c9 _ _ _ (by decide), c9 _ _ _ (by decide), c9 _ _ _ (by decide), c9 _ _ _ (by decide), c9 _ _ _ (by decide)]
  · exact (mS_k (by decide)).trans ((mS_k (by decide)).trans ((mS_k (by decide)).trans ((mS_k (by decide)).trans mS_eq)))
  · exact (mS_k (by decide)).trans ((mS_k (by decide)).trans ((mS_k (by decide)).trans mS_eq))
  · exact (mS_k (by decide)).trans ((mS_k (by decide)).trans mS_eq)
  · exact (mS_k (by decide)).trans mS_eq
set_option maxRecDepth 100000 in
theorem c_X10_appends (hl : l.stackTraces = false) (h : mI D aM ma mv q σ) (hL : mL kn Lk mv) {r j : Nat} {pp : kP} (hr5 : r < 51) (hj : j < kn) (hkn : kn ≤ 6200) (hp : knC mv j pp) (hno : ∀ i, i < 51 → j ∉ adr (Lk i)) : kMh hX10_appends l D yX10_appends 1 0 0 [.ref aM, .int (nI r), .int (nI j)] σ (fun v s2 => v = none ∧ (∃ mv2, mI D aM ma mv2 q s2 ∧ mL kn (upN Lk r (Lk r ++ [(j, pp)])) mv2 ∧ ∀ a i, ¬ (7 ≤ a ∧ a ≤ 9) ∧ a ≠ 11 → mv2 a i = mv a i) ∧ kOut (mOwn aM ma) σ s2) (fun _ => False) := by
  refine kM_of (L := [some (.ref aM), some (.int (nI r)), some (.int (nI j))]) (by decide +kernel) hl (List.forall_mem_cons.mpr ⟨rfl, (List.forall_mem_cons.mpr ⟨rfl, (List.forall_mem_cons.mpr ⟨rfl, (fun _ h => absurd h List.not_mem_nil)⟩)⟩)⟩) (Nat.le_of_ble_eq_true rfl) rfl ?_
  intro p e s m args below meth c B hr hex hnm
  have B : kB p l s m args meth c D (kA σ s.heap.size) 3 cX10_appends RX10 := B
  have hj6 : j < 6200 := by omega
  obtain ⟨r1, r2, r3, r4⟩ := hL.1 r hr5
  have hnd := hL.2.2.1 r hr5
  have hlt := hL.2.1 r hr5
  obtain ⟨p1, p2, p3, p4, p5⟩ := hp
  refine k_aload_n B dX10_appends_0 rfl (by first | exact kRf_r _ | exact kRf_q _ | exact kRf_n) ?_
  refine gf_X10_37 B dX10_appends_1 h.o rfl ?_
  refine k_iload_n B dX10_appends_4 rfl ?_
  refine k_iconst B (v := (-1)) dX10_appends_5 (by decide) ?_
  refine k_iast B dX10_appends_6 (h.i (k := 11) rfl (by decide)) (vp_in_nI hj6 (by decide)) ?_
  have h2 := h.s (k := 11) rfl (by decide) (i := j) (by omega) (-1)
  have e2 : ∀ a, a ≠ 11 → ∀ i, mS mv 11 j (-1) a i = mv a i := fun a ha i => mS_k ha
  have fin : ∀ (K I : Nat) (s3 : kS), (K = 7 ∧ I = r ∧ Lk r = [] ∨ K = 11 ∧ lsA (Lk r) = some I) → mI D aM ma (mS (mS mv 11 j (-1)) K I (nI j)) q s3 → kOut (mOwn aM ma) σ s3 → kK p l e (kR 1 0 0) s m args below meth c D (kA σ s.heap.size) 3 (kQ below args s D σ (fun v s2 => v = none ∧ (∃ mv2, mI D aM ma mv2 q s2 ∧ mL kn (upN Lk r (Lk r ++ [(j, pp)])) mv2 ∧ ∀ a i, ¬ (7 ≤ a ∧ a ≤ 9) ∧ a ≠ 11 → mv2 a i = mv a i) ∧ kOut (mOwn aM ma) σ s2) (fun _ => False) 0 0) s3 0 0 39 [some (.ref aM), some (.int (nI r)), some (.int (nI j))] [] := by
    intro K I s3 hKI h3 f3
    have hK7 : K = 7 ∨ K = 11 := hKI.elim (fun q => Or.inl q.1) (fun q => Or.inr q.1)
    refine k_aload_n B dX10_appends_39 rfl (by first | exact kRf_r _ | exact kRf_q _ | exact kRf_n) ?_
    refine gf_X10_31 B dX10_appends_40 h3.o rfl ?_
    refine k_iload_n B dX10_appends_43 rfl ?_
    refine k_iload_n B dX10_appends_44 rfl ?_
    refine k_iast B dX10_appends_45 (h3.i (k := 8) rfl (by decide)) (vp_in_nI hr5 (by decide)) ?_
    have h4 := h3.s (k := 8) rfl (by decide) (i := r) (by omega) (nI j)
    refine k_aload_n B dX10_appends_46 rfl (by first | exact kRf_r _ | exact kRf_q _ | exact kRf_n) ?_
    refine gf_X10_34 B dX10_appends_47 h4.o rfl ?_
    refine k_iload_n B dX10_appends_50 rfl ?_
    refine k_dup2 B dX10_appends_51 rfl rfl ?_
    refine k_iald B dX10_appends_52 (h4.i (k := 9) rfl (by decide)) (vp_in_nI hr5 (by decide)) ?_
    refine kK.rei (y := nI (unS (kCon (Lk r)))) (by rw [nI_clamp (by omega), mS_k (by decide), mS_k (by omega), e2 9 (by decide)]; exact r3) ?_
    refine k_aload_n B dX10_appends_53 rfl (by first | exact kRf_r _ | exact kRf_q _ | exact kRf_n) ?_
    refine gf_X10_40 B dX10_appends_54 h4.o rfl ?_
    refine k_iload_n B dX10_appends_57 rfl ?_
    refine k_iald B dX10_appends_58 (h4.i (k := 12) rfl (by decide)) (vp_in_nI hj6 (by decide)) ?_
    refine kK.rei (y := nI (kUn pp)) (by rw [nI_clamp (by omega), mS_k (by decide), mS_k (by omega), e2 12 (by decide)]; exact p5) ?_
    refine k_iadd B dX10_appends_59 ?_
    refine kK.rei (y := nI (unS (kCon (Lk r)) + kUn pp)) (nI_add _ _) ?_
    refine k_iast B dX10_appends_60 (h4.i (k := 9) rfl (by decide)) (vp_in_nI hr5 (by decide)) ?_
    have h5 := h4.s (k := 9) rfl (by decide) (i := r) (by omega) (nI (unS (kCon (Lk r)) + kUn pp))
    refine k_vret B hr dX10_appends_61 ?_ (by first | exact Nat.le_of_ble_eq_true rfl | omega | (simp only [kR, Value.category, kCat_q, List.map, List.sum_cons, List.sum_nil]; omega)) (by first | exact Nat.le_of_ble_eq_true rfl | omega | (simp only [kR, Value.category, kCat_q, List.map, List.sum_cons, List.sum_nil]; omega))
    refine ⟨rfl, ⟨_, h5, ⟨fun i hi => ?_, fun i hi a ha => ?_, fun i hi => ?_, fun i1 i2 hi1 hi2 hne a ha hb => ?_⟩, fun a i ha => ?_⟩, (f3.tr (kOut.up (mOwn.a (k := 8) rfl))).tr (kOut.up (mOwn.a (k := 9) rfl))⟩
    · by_cases hir : i = r
      · subst hir
        rw [upN_eq]
        refine ⟨?_, ?_, ?_, ?_⟩
        · rw [mS_k (by decide), mS_k (by decide)]
          rcases hKI with ⟨q1, q2, q3⟩ | ⟨q1, q2⟩
          · subst q1; subst q2; rw [mS_eq, q3]; rfl
          · rw [mS_k (by omega), e2 7 (by decide), r1]
            cases hLi : Lk i with
            | nil => rw [hLi] at q2; cases q2
            | cons b t => rfl
        · rw [mS_k (by decide), mS_eq, lsA_snoc]; rfl
        · rw [mS_eq, kCon_sn, unS_app]; rfl
        · refine knS_snoc r4 hnd (fun a b h1 h2 h3 => ?_) (fun b hb hq => ?_) (fun b hb => ?_) ?_ ?_
          · rw [mS_k (by omega), mS_k (by omega), mS_k (by omega), mS_k (by omega)]
          · rw [mS_k (by decide), mS_k (by decide)]
            rcases hKI with ⟨q1, q2, q3⟩ | ⟨q1, q2⟩
            · rw [mS_k (by omega), mS_j (fun q => hno i hr5 (by rw [← q]; exact hb))]
            · rw [mS_j (fun q => hq (by rw [q2, q])), mS_j (fun q => hno i hr5 (by rw [← q]; exact hb))]
          · rw [mS_k (by decide), mS_k (by decide)]
            rcases hKI with ⟨q1, q2, q3⟩ | ⟨q1, q2⟩
            · rw [q3] at hb; cases hb
            · rw [q2] at hb; cases hb; subst q1; rw [mS_eq]
          · rw [mS_k (by decide), mS_k (by decide)]
            rcases hKI with ⟨q1, q2, q3⟩ | ⟨q1, q2⟩
            · rw [mS_k (by omega), mS_eq]
            · rw [mS_j (fun q => hno i hr5 (by rw [q]; exact lsA_mem q2)), mS_eq]
          · have e9 : ∀ a, a ≠ 7 → a ≠ 8 → a ≠ 9 → a ≠ 11 → mS (mS (mS (mS mv 11 j (-1)) K I (nI j)) 8 i (nI j)) 9 i (nI (unS (kCon (Lk i)) + kUn pp)) a j = mv a j := fun a q7 q8 q9 q11 => by rw [mS_k q9, mS_k q8, mS_k (by omega), mS_k q11]
            exact ⟨(e9 13 (by decide) (by decide) (by decide) (by decide)).trans p1, (e9 14 (by decide) (by decide) (by decide) (by decide)).trans p2, (e9 15 (by decide) (by decide) (by decide) (by decide)).trans p3, (e9 16 (by decide) (by decide) (by decide) (by decide)).trans p4, (e9 12 (by decide) (by decide) (by decide) (by decide)).trans p5⟩
      · rw [upN_ne hir]
        refine (hL.1 i hi).keep (fun a h1 h2 => ?_) (fun a b h1 h2 hb => ?_)
        · rw [mS_j hir, mS_j hir]
          rcases hKI with ⟨q1, q2, q3⟩ | ⟨q1, q2⟩
          · subst q2; rw [mS_j hir, mS_k (by omega)]
          · rw [mS_k (by omega), mS_k (by omega)]
        · rw [mS_k (by omega), mS_k (by omega)]
          have hbj : b ≠ j := fun q => hno i hi (by rw [← q]; exact hb)
          rcases hKI with ⟨q1, q2, q3⟩ | ⟨q1, q2⟩
          · rw [mS_k (by omega), mS_j hbj]
          · rw [mS_j (fun q => hL.2.2.2 i r hi hr5 hir b hb (by rw [q]; exact lsA_mem q2)), mS_j hbj]
    · by_cases hir : i = r
      · subst hir
        rw [upN_eq, adr, List.map_append, List.mem_append] at ha
        rcases ha with ha | ha
        · exact hlt a ha
        · simp only [List.map_cons, List.map_nil, List.mem_singleton] at ha
          omega
      · rw [upN_ne hir] at ha
        exact hL.2.1 i hi a ha
    · by_cases hir : i = r
      · subst hir
        rw [upN_eq, adr, List.map_append]
        refine List.nodup_append.mpr ⟨hnd, by simp, fun a ha b hb => ?_⟩
        simp only [List.map_cons, List.map_nil, List.mem_singleton] at hb
        exact fun q => hno i hr5 (by rw [← hb, ← q]; exact ha)
      · rw [upN_ne hir]; exact hL.2.2.1 i hi
    · have hx : ∀ i, i < 51 → a ∈ adr (upN Lk r (Lk r ++ [(j, pp)]) i) → a ∈ adr (Lk i) ∨ (i = r ∧ a = j) := fun i hi q => by
        by_cases hir : i = r
        · subst hir
          rw [upN_eq, adr, List.map_append, List.mem_append] at q
          rcases q with q | q
          · exact Or.inl q
          · simp only [List.map_cons, List.map_nil, List.mem_singleton] at q
            exact Or.inr ⟨rfl, q⟩
        · rw [upN_ne hir] at q; exact Or.inl q
      rcases hx i1 hi1 ha with ha | ⟨ha, ha2⟩
      · rcases hx i2 hi2 hb with hb | ⟨hb, hb2⟩
        · exact hL.2.2.2 i1 i2 hi1 hi2 hne a ha hb
        · exact hno i1 hi1 (hb2 ▸ ha)
      · rcases hx i2 hi2 hb with hb | ⟨hb, hb2⟩
        · exact hno i2 hi2 (ha2 ▸ hb)
        · exact hne (ha.trans hb.symm)
    · rw [mS_k (by omega), mS_k (by omega), mS_k (by omega), mS_k (by omega)]
  refine k_aload_n B dX10_appends_7 rfl (by first | exact kRf_r _ | exact kRf_q _ | exact kRf_n) ?_
  refine gf_X10_31 B dX10_appends_8 h2.o rfl ?_
  refine k_iload_n B dX10_appends_11 rfl ?_
  refine k_iald B dX10_appends_12 (h2.i (k := 8) rfl (by decide)) (vp_in_nI hr5 (by decide)) ?_
  refine kK.rei (y := ldI (lsA (Lk r))) (by rw [nI_clamp (by omega), e2 8 (by decide)]; exact r2) ?_
  cases hla : lsA (Lk r) with
  | none =>
    refine k_iconst B (v := (-1)) dX10_appends_13 (by decide) ?_
    refine k_icmp_ne B 27 dX10_appends_14 (by decide) (fun c14 => ?_) (fun c14 => ?_)
    · exact absurd rfl c14
    · refine k_aload_n B dX10_appends_17 rfl (by first | exact kRf_r _ | exact kRf_q _ | exact kRf_n) ?_
      refine gf_X10_28 B dX10_appends_18 h2.o rfl ?_
      refine k_iload_n B dX10_appends_21 rfl ?_
      refine k_iload_n B dX10_appends_22 rfl ?_
      refine k_iast B dX10_appends_23 (h2.i (k := 7) rfl (by decide)) (vp_in_nI hr5 (by decide)) ?_
      have h3 := h2.s (k := 7) rfl (by decide) (i := r) (by omega) (nI j)
      refine k_goto B 39 dX10_appends_24 (by decide) ?_
      exact fin 7 r _ (Or.inl ⟨rfl, rfl, lsA_none.mp hla⟩) h3 ((kOut.up (mOwn.a (k := 11) rfl)).tr (kOut.up (mOwn.a (k := 7) rfl)))
  | some b =>
    have hb6 : b < 6200 := by have := hlt b (lsA_mem hla); omega
    refine k_iconst B (v := (-1)) dX10_appends_13 (by decide) ?_
    refine k_icmp_ne B 27 dX10_appends_14 (by decide) (fun c14 => ?_) (fun c14 => ?_)
    · refine k_aload_n B dX10_appends_27 rfl (by first | exact kRf_r _ | exact kRf_q _ | exact kRf_n) ?_
      refine gf_X10_37 B dX10_appends_28 h2.o rfl ?_
      refine k_aload_n B dX10_appends_31 rfl (by first | exact kRf_r _ | exact kRf_q _ | exact kRf_n) ?_
      refine gf_X10_31 B dX10_appends_32 h2.o rfl ?_
      refine k_iload_n B dX10_appends_35 rfl ?_
      refine k_iald B dX10_appends_36 (h2.i (k := 8) rfl (by decide)) (vp_in_nI hr5 (by decide)) ?_
      refine kK.rei (y := nI b) (by rw [nI_clamp (by omega), e2 8 (by decide), r2, hla]; rfl) ?_
      refine k_iload_n B dX10_appends_37 rfl ?_
      refine k_iast B dX10_appends_38 (h2.i (k := 11) rfl (by decide)) (vp_in_nI hb6 (by decide)) ?_
      have h3 := h2.s (k := 11) rfl (by decide) (i := b) (by omega) (nI j)
      exact fin 11 b _ (Or.inr ⟨rfl, hla⟩) h3 ((kOut.up (mOwn.a (k := 11) rfl)).tr (kOut.up (mOwn.a (k := 11) rfl)))
    · rename_i c14
      exact absurd c14 (ldI_no (j := b) (by omega))
end Kn1
