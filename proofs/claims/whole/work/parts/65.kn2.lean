/-- what a take leaves -/
def tkO (D : va_G) (aM : Nat) (ma : Nat → Nat) (mv : Nat → Nat → Int32) (q : kQc) (kn : Nat) (Lk : Nat → kPs) (r w : Nat) (σ : kS) (v : Option Value) (s2 : kS) : Prop :=
  (∃ (mv2 : Nat → Nat → Int32) (kn2 k : Nat) (T : kPs) (pt : kP), v = some (.int (nI k)) ∧ mI D aM ma mv2 (setKn q (nI kn2)) s2 ∧ mL kn2 (upN Lk r T) mv2 ∧ (kn2 = kn ∨ kn2 = kn + 1 ∧ kUn pt = w) ∧ k < kn2 ∧ (∀ i, i < 51 → k ∉ adr (upN Lk r T i)) ∧ knC mv2 k pt ∧ 1 ≤ kUn pt ∧ kUn pt ≤ w ∧ tkS (kCon (Lk r)) w = (pt :: (tkS (kCon T) (w - kUn pt)).1, (tkS (kCon T) (w - kUn pt)).2) ∧ unS (kCon T) + kUn pt = unS (kCon (Lk r)) ∧ (∀ p ∈ kCon T, 1 ≤ kUn p) ∧ ∀ a i, ¬ (7 ≤ a ∧ a ≤ 9) ∧ ¬ (11 ≤ a ∧ a ≤ 16) → mv2 a i = mv a i) ∧ kOut (mOwn aM ma) σ s2
section Kn2
variable {l : Launch} {D : va_G} {σ : kS} {aM : Nat} {ma : Nat → Nat} {mv : Nat → Nat → Int32} {q : kQc} {kn : Nat} {Lk : Nat → kPs}
theorem setKn_s {q : kQc} {k : Int32} (h : q.1.2.1 = k) : setKn q k = q := by
  obtain ⟨⟨y0, kk, rq⟩, q2⟩ := q
  subst h
  rfl
set_option maxRecDepth 100000 in
theorem c_X10_takesOff (hl : l.stackTraces = false) (h : mI D aM ma mv q σ) (hq : q.1.2.1 = nI kn) (hkn : kn < 6200) (hL : mL kn Lk mv) {r w : Nat} (hr5 : r < 51) (hw : 1 ≤ w) (hw2 : w < 2 ^ 31) (hun : unS (kCon (Lk r)) < 2 ^ 31) (hu1 : ∀ pp ∈ kCon (Lk r), 1 ≤ kUn pp) (hwu : w ≤ unS (kCon (Lk r))) : kMh hX10_takesOff l D yX10_takesOff 2 0 0 [.ref aM, .int (nI r), .int (nI w)] σ (tkO D aM ma mv q kn Lk r w σ) (fun _ => False) := by
  refine kM_of (L := [some (.ref aM), some (.int (nI r)), some (.int (nI w)), none]) (by decide +kernel) hl (List.forall_mem_cons.mpr ⟨rfl, (List.forall_mem_cons.mpr ⟨rfl, (List.forall_mem_cons.mpr ⟨rfl, (fun _ h => absurd h List.not_mem_nil)⟩)⟩)⟩) (Nat.le_of_ble_eq_true rfl) rfl ?_
  intro p e s m args below meth c B hr hex hnm
  have B : kB p l s m args meth c D (kA σ s.heap.size) 4 cX10_takesOff RX10 := B
  obtain ⟨r1, r2, r3, r4⟩ := hL.1 r hr5
  have hnd := hL.2.2.1 r hr5
  have hlt := hL.2.1 r hr5
  generalize hLr : Lk r = L at *
  cases L with
  | nil => exact absurd hwu (by show ¬ w ≤ 0; omega)
  | cons b T =>
    obtain ⟨j, pp⟩ := b
    have hj : j < 6200 := by have := hlt j (by simp [adr]); omega
    have hjk : j < kn := hlt j (by simp [adr])
    obtain ⟨n1, ⟨p1, p2, p3, p4, p5⟩, n3⟩ := r4
    have hup : 1 ≤ kUn pp := hu1 pp (by simp [kCon])
    have hue : unS (kCon ((j, pp) :: T)) = kUn pp + unS (kCon T) := rfl
    rw [hue] at hun hwu r3
    have hjT : j ∉ adr T ∧ (adr T).Nodup := by simpa [adr] using hnd
    have hmT : ∀ a, a ∈ adr T → a ∈ adr ((j, pp) :: T) := fun a ha => by simp only [adr, List.map_cons, List.mem_cons] at ha ⊢; exact Or.inr ha
    have hu1T : ∀ pp ∈ kCon T, 1 ≤ kUn pp := fun x hx => hu1 x (by simp only [kCon, List.map_cons, List.mem_cons] at hx ⊢; exact Or.inr hx)
    refine k_aload_n B dX10_takesOff_0 rfl (by first | exact kRf_r _ | exact kRf_q _ | exact kRf_n) ?_
    refine gf_X10_28 B dX10_takesOff_1 h.o rfl ?_
    refine k_iload_n B dX10_takesOff_4 rfl ?_
    refine k_iald B dX10_takesOff_5 (h.i (k := 7) rfl (by decide)) (vp_in_nI hr5 (by decide)) ?_
    refine kK.rei (y := nI j) (by rw [nI_clamp (by omega)]; exact r1) ?_
    refine k_istore_n B dX10_takesOff_6 (by decide) ?_
    try refine kK.set1 (by first | exact True.intro | rfl | exact kCat_q _) ?_
    refine k_aload_n B dX10_takesOff_7 rfl (by first | exact kRf_r _ | exact kRf_q _ | exact kRf_n) ?_
    refine gf_X10_40 B dX10_takesOff_8 h.o rfl ?_
    refine k_iload_n B dX10_takesOff_11 rfl ?_
    refine k_iald B dX10_takesOff_12 (h.i (k := 12) rfl (by decide)) (vp_in_nI hj (by decide)) ?_
    refine kK.rei (y := nI (kUn pp)) (by rw [nI_clamp (by omega)]; exact p5) ?_
    refine k_iload_n B dX10_takesOff_13 rfl ?_
    refine k_icmp_le B 67 dX10_takesOff_14 (by decide) (fun c14 => ?_) (fun c14 => ?_)
    · rename_i c14
      have hle : kUn pp ≤ w := (nI_leI (by omega) (by omega)).mp c14
      refine k_aload_n B dX10_takesOff_67 rfl (by first | exact kRf_r _ | exact kRf_q _ | exact kRf_n) ?_
      refine gf_X10_28 B dX10_takesOff_68 h.o rfl ?_
      refine k_iload_n B dX10_takesOff_71 rfl ?_
      refine k_aload_n B dX10_takesOff_72 rfl (by first | exact kRf_r _ | exact kRf_q _ | exact kRf_n) ?_
      refine gf_X10_37 B dX10_takesOff_73 h.o rfl ?_
      refine k_iload_n B dX10_takesOff_76 rfl ?_
      refine k_iald B dX10_takesOff_77 (h.i (k := 11) rfl (by decide)) (vp_in_nI hj (by decide)) ?_
      refine kK.rei (y := ldI (hdA T)) (by rw [nI_clamp (by omega)]; exact n1) ?_
      refine k_iast B dX10_takesOff_78 (h.i (k := 7) rfl (by decide)) (vp_in_nI hr5 (by decide)) ?_
      have h2 := h.s (k := 7) rfl (by decide) (i := r) (by omega) (ldI (hdA T))
      have fin : ∀ x, x = ldI (lsA T) → kK p l e (kR 2 0 0) s m args below meth c D (kA σ s.heap.size) 4 (kQ below args s D σ (tkO D aM ma mv q kn Lk r w σ) (fun _ => False) 0 0) (kUp σ (ma 7) (.inl (D.1 11, mLen 7, .inl (upd (mv 7) (nI r).toNatClampNeg (ldI (hdA T)))))) 0 0 104 [some (.ref aM), some (.int (nI r)), some (.int (nI w)), some (.int (nI j))] [.int x, .int (nI r), .ref (ma 8)] := by
        intro x hx
        refine k_iast B dX10_takesOff_104 (h2.i (k := 8) rfl (by decide)) (vp_in_nI hr5 (by decide)) ?_
        have h3 := h2.s (k := 8) rfl (by decide) (i := r) (by omega) x
        refine k_aload_n B dX10_takesOff_105 rfl (by first | exact kRf_r _ | exact kRf_q _ | exact kRf_n) ?_
        refine gf_X10_34 B dX10_takesOff_106 h3.o rfl ?_
        refine k_iload_n B dX10_takesOff_109 rfl ?_
        refine k_dup2 B dX10_takesOff_110 rfl rfl ?_
        refine k_iald B dX10_takesOff_111 (h3.i (k := 9) rfl (by decide)) (vp_in_nI hr5 (by decide)) ?_
        refine kK.rei (y := nI (kUn pp + unS (kCon T))) (by rw [nI_clamp (by omega), mS_k (by decide), mS_k (by decide)]; exact r3) ?_
        refine k_aload_n B dX10_takesOff_112 rfl (by first | exact kRf_r _ | exact kRf_q _ | exact kRf_n) ?_
        refine gf_X10_40 B dX10_takesOff_113 h3.o rfl ?_
        refine k_iload_n B dX10_takesOff_116 rfl ?_
        refine k_iald B dX10_takesOff_117 (h3.i (k := 12) rfl (by decide)) (vp_in_nI hj (by decide)) ?_
        refine kK.rei (y := nI (kUn pp)) (by rw [nI_clamp (by omega), mS_k (by decide), mS_k (by decide)]; exact p5) ?_
        refine k_isub B dX10_takesOff_118 ?_
        refine kK.rei (y := nI (unS (kCon T))) (by rw [pk_sub (by omega)]; congr 1; omega) ?_
        refine k_iast B dX10_takesOff_119 (h3.i (k := 9) rfl (by decide)) (vp_in_nI hr5 (by decide)) ?_
        have h4 := h3.s (k := 9) rfl (by decide) (i := r) (by omega) (nI (unS (kCon T)))
        refine k_iload_n B dX10_takesOff_120 rfl ?_
        refine k_iret B hr dX10_takesOff_121 ?_ (by first | exact Nat.le_of_ble_eq_true rfl | omega | (simp only [kR, Value.category, kCat_q, List.map, List.sum_cons, List.sum_nil]; omega)) (by first | exact Nat.le_of_ble_eq_true rfl | omega | (simp only [kR, Value.category, kCat_q, List.map, List.sum_cons, List.sum_nil]; omega))
        have hrow : ∀ i, i < 51 → ∀ a, a ∈ adr (upN Lk r T i) → a ∈ adr (Lk i) := fun i hi a ha => by
          by_cases hir : i = r
          · subst hir; rw [upN_eq] at ha; rw [hLr]; exact hmT a ha
          · rw [upN_ne hir] at ha; exact ha
        refine ⟨⟨_, kn, j, T, pp, rfl, by rw [setKn_s hq]; exact h4, ⟨fun i hi => ?_, fun i hi a ha => hL.2.1 i hi a (hrow i hi a ha), fun i hi => ?_, fun i1 i2 hi1 hi2 hne a ha hb => hL.2.2.2 i1 i2 hi1 hi2 hne a (hrow i1 hi1 a ha) (hrow i2 hi2 a hb)⟩, Or.inl rfl, hjk, fun i hi ha => ?_, ?_, hup, hle, ?_, by rw [hLr, hue]; omega, hu1T, fun a i ha => ?_⟩, ((kOut.up (mOwn.a (k := 7) rfl)).tr (kOut.up (mOwn.a (k := 8) rfl))).tr (kOut.up (mOwn.a (k := 9) rfl))⟩
        · by_cases hir : i = r
          · subst hir
            rw [upN_eq]
            refine ⟨by rw [mS_k (by decide), mS_k (by decide), mS_eq], by rw [mS_k (by decide), mS_eq, hx], mS_eq, knS_keep n3 (fun a b h1 h2 _ => by rw [mS_k (by omega), mS_k (by omega), mS_k (by omega)])⟩
          · rw [upN_ne hir]
            exact (hL.1 i hi).keep (fun a h1 h2 => by rw [mS_j hir, mS_j hir, mS_j hir]) (fun a b h1 h2 _ => by rw [mS_k (by omega), mS_k (by omega), mS_k (by omega)])
        · by_cases hir : i = r
          · subst hir; rw [upN_eq]; exact hjT.2
          · rw [upN_ne hir]; exact hL.2.2.1 i hi
        · by_cases hir : i = r
          · subst hir; rw [upN_eq] at ha; exact hjT.1 ha
          · rw [upN_ne hir] at ha; exact hL.2.2.2 i r hi hr5 hir j ha (by rw [hLr]; simp [adr])
        · have e9 : ∀ a, 11 ≤ a → mS (mS (mS mv 7 r (ldI (hdA T))) 8 r x) 9 r (nI (unS (kCon T))) a j = mv a j := fun a ha => by rw [mS_k (by omega), mS_k (by omega), mS_k (by omega)]
          exact ⟨(e9 13 (by decide)).trans p1, (e9 14 (by decide)).trans p2, (e9 15 (by decide)).trans p3, (e9 16 (by decide)).trans p4, (e9 12 (by decide)).trans p5⟩
        · rw [hLr]
          show tkS (pp :: kCon T) w = _
          rw [tkS, if_pos hle]
        · rw [mS_k (by omega), mS_k (by omega), mS_k (by omega)]
      refine k_aload_n B dX10_takesOff_79 rfl (by first | exact kRf_r _ | exact kRf_q _ | exact kRf_n) ?_
      refine gf_X10_31 B dX10_takesOff_80 h2.o rfl ?_
      refine k_iload_n B dX10_takesOff_83 rfl ?_
      refine k_aload_n B dX10_takesOff_84 rfl (by first | exact kRf_r _ | exact kRf_q _ | exact kRf_n) ?_
      refine gf_X10_28 B dX10_takesOff_85 h2.o rfl ?_
      refine k_iload_n B dX10_takesOff_88 rfl ?_
      refine k_iald B dX10_takesOff_89 (h2.i (k := 7) rfl (by decide)) (vp_in_nI hr5 (by decide)) ?_
      refine kK.rei (y := ldI (hdA T)) (by rw [nI_clamp (by omega), mS_eq]) ?_
      cases T with
      | nil =>
        refine k_iconst B (v := (-1)) dX10_takesOff_90 (by decide) ?_
        refine k_icmp_ne B 98 dX10_takesOff_91 (by decide) (fun c91 => ?_) (fun c91 => ?_)
        · exact absurd rfl c91
        · refine k_iconst B (v := (-1)) dX10_takesOff_94 (by decide) ?_
          refine k_goto B 104 dX10_takesOff_95 (by decide) ?_
          exact fin (-1) rfl
      | cons d T2 =>
        obtain ⟨d, pd⟩ := d
        have hd6 : d < 6200 := by have := hlt d (hmT d (by simp [adr])); omega
        refine k_iconst B (v := (-1)) dX10_takesOff_90 (by decide) ?_
        refine k_icmp_ne B 98 dX10_takesOff_91 (by decide) (fun c91 => ?_) (fun c91 => ?_)
        · refine k_aload_n B dX10_takesOff_98 rfl (by first | exact kRf_r _ | exact kRf_q _ | exact kRf_n) ?_
          refine gf_X10_31 B dX10_takesOff_99 h2.o rfl ?_
          refine k_iload_n B dX10_takesOff_102 rfl ?_
          refine k_iald B dX10_takesOff_103 (h2.i (k := 8) rfl (by decide)) (vp_in_nI hr5 (by decide)) ?_
          exact fin _ (by rw [nI_clamp (by omega), mS_k (by decide)]; exact r2)
        · rename_i c91
          exact absurd c91 (ldI_no (j := d) (by omega))
    · rename_i c14
      have hgt : w < kUn pp := by
        have : ¬ kUn pp ≤ w := fun q => c14 ((nI_leI (by omega) (by omega)).mpr q)
        omega
      refine k_aload_n B dX10_takesOff_17 rfl (by first | exact kRf_r _ | exact kRf_q _ | exact kRf_n) ?_
      refine gf_X10_40 B dX10_takesOff_18 h.o rfl ?_
      refine k_iload_n B dX10_takesOff_21 rfl ?_
      refine k_dup2 B dX10_takesOff_22 rfl rfl ?_
      refine k_iald B dX10_takesOff_23 (h.i (k := 12) rfl (by decide)) (vp_in_nI hj (by decide)) ?_
      refine kK.rei (y := nI (kUn pp)) (by rw [nI_clamp (by omega)]; exact p5) ?_
      refine k_iload_n B dX10_takesOff_24 rfl ?_
      refine k_isub B dX10_takesOff_25 ?_
      refine kK.rei (y := nI (kUn pp - w)) (pk_sub (by omega)) ?_
      refine k_iast B dX10_takesOff_26 (h.i (k := 12) rfl (by decide)) (vp_in_nI hj (by decide)) ?_
      have h2 := h.s (k := 12) rfl (by decide) (i := j) (by omega) (nI (kUn pp - w))
      refine k_aload_n B dX10_takesOff_27 rfl (by first | exact kRf_r _ | exact kRf_q _ | exact kRf_n) ?_
      refine gf_X10_34 B dX10_takesOff_28 h2.o rfl ?_
      refine k_iload_n B dX10_takesOff_31 rfl ?_
      refine k_dup2 B dX10_takesOff_32 rfl rfl ?_
      refine k_iald B dX10_takesOff_33 (h2.i (k := 9) rfl (by decide)) (vp_in_nI hr5 (by decide)) ?_
      refine kK.rei (y := nI (kUn pp + unS (kCon T))) (by rw [nI_clamp (by omega), mS_k (by decide)]; exact r3) ?_
      refine k_iload_n B dX10_takesOff_34 rfl ?_
      refine k_isub B dX10_takesOff_35 ?_
      refine kK.rei (y := nI (kUn pp + unS (kCon T) - w)) (pk_sub (by omega)) ?_
      refine k_iast B dX10_takesOff_36 (h2.i (k := 9) rfl (by decide)) (vp_in_nI hr5 (by decide)) ?_
      have h3 := h2.s (k := 9) rfl (by decide) (i := r) (by omega) (nI (kUn pp + unS (kCon T) - w))
      refine k_aload_n B dX10_takesOff_37 rfl (by first | exact kRf_r _ | exact kRf_q _ | exact kRf_n) ?_
      refine k_iload_n B dX10_takesOff_38 rfl ?_
      refine k_aload_n B dX10_takesOff_39 rfl (by first | exact kRf_r _ | exact kRf_q _ | exact kRf_n) ?_
      refine gf_X10_43 B dX10_takesOff_40 h3.o rfl ?_
      refine k_iload_n B dX10_takesOff_43 rfl ?_
      refine k_iald B dX10_takesOff_44 (h3.i (k := 13) rfl (by decide)) (vp_in_nI hj (by decide)) ?_
      refine k_aload_n B dX10_takesOff_45 rfl (by first | exact kRf_r _ | exact kRf_q _ | exact kRf_n) ?_
      refine gf_X10_46 B dX10_takesOff_46 h3.o rfl ?_
      refine k_iload_n B dX10_takesOff_49 rfl ?_
      refine k_iald B dX10_takesOff_50 (h3.i (k := 14) rfl (by decide)) (vp_in_nI hj (by decide)) ?_
      refine k_aload_n B dX10_takesOff_51 rfl (by first | exact kRf_r _ | exact kRf_q _ | exact kRf_n) ?_
      refine gf_X10_49 B dX10_takesOff_52 h3.o rfl ?_
      refine k_iload_n B dX10_takesOff_55 rfl ?_
      refine k_iald B dX10_takesOff_56 (h3.i (k := 15) rfl (by decide)) (vp_in_nI hj (by decide)) ?_
      refine k_aload_n B dX10_takesOff_57 rfl (by first | exact kRf_r _ | exact kRf_q _ | exact kRf_n) ?_
      refine gf_X10_52 B dX10_takesOff_58 h3.o rfl ?_
      refine k_iload_n B dX10_takesOff_61 rfl ?_
      refine k_iald B dX10_takesOff_62 (h3.i (k := 16) rfl (by decide)) (vp_in_nI hj (by decide)) ?_
      refine cl_X10_120 B (c_X10_knots hl h3 hq hkn) h3.o dX10_takesOff_63 (by first | exact Nat.le_of_ble_eq_true rfl | omega | (simp only [kR, Value.category, kCat_q, List.map, List.sum_cons, List.sum_nil]; omega)) (by first | exact Nat.le_of_ble_eq_true rfl | omega | (simp only [kR, Value.category, kCat_q, List.map, List.sum_cons, List.sum_nil]; omega)) (by first | exact Nat.le_of_ble_eq_true rfl | omega | (simp only [kR, Value.category, kCat_q, List.map, List.sum_cons, List.sum_nil]; omega)) (by first | exact Nat.le_of_ble_eq_true rfl | omega | (simp only [kR, Value.category, kCat_q, List.map, List.sum_cons, List.sum_nil]; omega)) (by first | exact Nat.le_of_ble_eq_true rfl | omega | (simp only [kR, Value.category, kCat_q, List.map, List.sum_cons, List.sum_nil]; omega)) (fun _ hx => hx.elim) (fun v63 s63 hp63 => ?_)
      obtain ⟨e63, ⟨mv2, m1, m2, m3, m4, m5, m6, m7⟩, f63⟩ := hp63
      rw [e63]
      have e8 : ∀ a i, ¬ (12 ≤ a ∧ a ≤ 16) ∨ i ≠ kn → a ≠ 9 → a ≠ 12 ∨ i ≠ j → mv2 a i = mv a i := fun a i q1 q2 q3 => by
        rw [m2 a i q1, mS_k q2]
        exact q3.elim (fun q => mS_k q) (fun q => mS_j q)
      have e7 : ∀ i, i < 51 → ∀ a, a ∈ adr (Lk i) → a ≠ kn := fun i hi a ha => by have := hL.2.1 i hi a ha; omega
      have ej : ∀ a, mS (mS mv 12 j (nI (kUn pp - w))) 9 r (nI (kUn pp + unS (kCon T) - w)) a (nI j).toNatClampNeg = if a = 12 then nI (kUn pp - w) else if a = 9 ∧ j = r then nI (kUn pp + unS (kCon T) - w) else mv a j := fun a => by
        rw [nI_clamp (by omega)]
        by_cases q : a = 12
        · subst q; rw [mS_k (by decide), mS_eq, if_pos rfl]
        · rw [if_neg q]
          show (if a = 9 ∧ j = r then _ else mS mv 12 j (nI (kUn pp - w)) a j) = _
          rw [mS_k q]
      have pe : kUn (pp.1, pp.2.1, pp.2.2.1, pp.2.2.2.1, kUn pp - w) = kUn pp - w := rfl
      have padr : adr ((j, (pp.1, pp.2.1, pp.2.2.1, pp.2.2.2.1, kUn pp - w)) :: T) = adr ((j, pp) :: T) := rfl
      have hrow : ∀ i, i < 51 → adr (upN Lk r ((j, (pp.1, pp.2.1, pp.2.2.1, pp.2.2.2.1, kUn pp - w)) :: T) i) = adr (Lk i) := fun i hi => by
        by_cases hir : i = r
        · subst hir; rw [upN_eq, hLr]; exact padr
        · rw [upN_ne hir]
      refine k_iret B hr dX10_takesOff_66 ?_ (by first | exact Nat.le_of_ble_eq_true rfl | omega | (simp only [kR, Value.category, kCat_q, List.map, List.sum_cons, List.sum_nil]; omega)) (by first | exact Nat.le_of_ble_eq_true rfl | omega | (simp only [kR, Value.category, kCat_q, List.map, List.sum_cons, List.sum_nil]; omega))
      refine ⟨⟨mv2, kn + 1, kn, (j, (pp.1, pp.2.1, pp.2.2.1, pp.2.2.2.1, kUn pp - w)) :: T, (pp.1, pp.2.1, pp.2.2.1, pp.2.2.2.1, w), rfl, m1, ⟨fun i hi => ?_, fun i hi a ha => ?_, fun i hi => ?_, fun i1 i2 hi1 hi2 hne a ha hb => ?_⟩, Or.inr ⟨rfl, rfl⟩, by omega, fun i hi ha => ?_, ?_, hw, Nat.le_refl _, ?_, ?_, fun x hx => ?_, fun a i ha => ?_⟩, ((kOut.up (mOwn.a (k := 12) rfl)).tr (kOut.up (mOwn.a (k := 9) rfl))).tr f63⟩
      · by_cases hir : i = r
        · subst hir
          rw [upN_eq]
          refine ⟨(e8 7 i (Or.inl (by decide)) (by decide) (Or.inl (by decide))).trans r1, (e8 8 i (Or.inl (by decide)) (by decide) (Or.inl (by decide))).trans (r2.trans (by cases T <;> rfl)), ?_, ?_, ?_, ?_⟩
          · rw [m2 9 i (Or.inl (by decide)), mS_eq]
            congr 1
            show _ = kUn pp - w + unS (kCon T)
            omega
          · exact (e8 11 j (Or.inl (by decide)) (by decide) (Or.inl (by decide))).trans n1
          · have hjn : j ≠ kn := by omega
            exact ⟨(e8 13 j (Or.inr hjn) (by decide) (Or.inl (by decide))).trans p1, (e8 14 j (Or.inr hjn) (by decide) (Or.inl (by decide))).trans p2, (e8 15 j (Or.inr hjn) (by decide) (Or.inl (by decide))).trans p3, (e8 16 j (Or.inr hjn) (by decide) (Or.inl (by decide))).trans p4, by rw [m2 12 j (Or.inr hjn), mS_k (by decide), mS_eq]⟩
          · exact knS_keep n3 (fun a b h1 h2 hb => e8 a b (Or.inr (e7 i hi b (by rw [hLr]; exact hmT b hb))) (by omega) (Or.inr (fun q => hjT.1 (q ▸ hb))))
        · rw [upN_ne hir]
          refine (hL.1 i hi).keep (fun a h1 h2 => ?_) (fun a b h1 h2 hb => e8 a b (Or.inr (e7 i hi b hb)) (by omega) (Or.inr (fun q => hL.2.2.2 i r hi hr5 hir b hb (by rw [hLr, q]; simp [adr]))))
          rw [m2 a i (Or.inl (by omega)), mS_j hir, mS_k (by omega)]
      · rw [hrow i hi] at ha
        have := hL.2.1 i hi a ha
        omega
      · rw [hrow i hi]; exact hL.2.2.1 i hi
      · rw [hrow i1 hi1] at ha; rw [hrow i2 hi2] at hb
        exact hL.2.2.2 i1 i2 hi1 hi2 hne a ha hb
      · rw [hrow i hi] at ha
        exact e7 i hi kn ha rfl
      · rw [ej, if_neg (by decide), if_neg (by omega)] at m4 m5 m6 m7
        exact ⟨m4.trans p1, m5.trans p2, m6.trans p3, m7.trans p4, m3⟩
      · rw [hLr]
        show tkS (pp :: kCon T) w = (_ :: (tkS ((pp.1, pp.2.1, pp.2.2.1, pp.2.2.2.1, kUn pp - w) :: kCon T) (w - w)).1, (tkS ((pp.1, pp.2.1, pp.2.2.1, pp.2.2.2.1, kUn pp - w) :: kCon T) (w - w)).2)
        rw [tkS, if_neg (by omega), if_neg (by omega), Nat.sub_self, tkS, if_neg (by rw [pe]; omega), if_pos rfl]
      · rw [hLr, hue]
        show kUn pp - w + unS (kCon T) + w = _
        omega
      · simp only [kCon, List.map_cons, List.mem_cons] at hx
        rcases hx with hx | hx
        · rw [hx, pe]; omega
        · exact hu1T x hx
      · rw [m2 a i (Or.inl (by omega)), mS_k (by omega), mS_k (by omega)]
end Kn2
