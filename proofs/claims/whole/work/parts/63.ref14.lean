section Ref14
variable {l : Launch} {D : va_G} {σ : kS} {aM : Nat} {ma : Nat → Nat} {z : kSt} {t : Int32}
theorem mW.snoc {n : Nat} {W : Nat → kWl} {mv mv2 : Nat → Nat → Int32} (h : mW n W mv) {k : kWl} (he : ∀ a i, 19 ≤ a → a ≤ 21 → i ≠ n → mv2 a i = mv a i) (hk : mv2 19 n = nI k.1 ∧ mv2 20 n = nI k.2.1 ∧ mv2 21 n = nI k.2.2) : mW (n + 1) (upN W n k) mv2 := fun i hi => by
  by_cases q : i = n
  · subst q; rw [upN_eq]; exact hk
  · rw [upN_ne q, he 19 i (by decide) (by decide) q, he 20 i (by decide) (by decide) q, he 21 i (by decide) (by decide) q]
    exact h i (by omega)
theorem ri_of {x lo hi : Int32} (h : lo ≤ x ∧ x ≤ hi) : inR x lo hi := h
set_option maxRecDepth 100000 in
theorem c_X10_drought (hl : l.stackTraces = false) (h : cl10 D aM ma z t σ) {c9 y w : Int32} : kMh hX10_drought l D yX10_drought 4 0 0 [.ref aM, .int c9, .int y, .int w] σ (mPo D aM ma z (gDrought c9 y w) none (nDrought z c9 y w) (tCd 1 2 2) σ) (fun _ => False) := by
  refine kM_of (L := [some (.ref aM), some (.int c9), some (.int y), some (.int w), none]) (by decide +kernel) hl (List.forall_mem_cons.mpr ⟨rfl, (List.forall_mem_cons.mpr ⟨rfl, (List.forall_mem_cons.mpr ⟨rfl, (List.forall_mem_cons.mpr ⟨rfl, (fun _ h => absurd h List.not_mem_nil)⟩)⟩)⟩)⟩) (Nat.le_of_ble_eq_true rfl) rfl ?_
  intro p e s m args below meth c B hr hex hnm
  have B : kB p l s m args meth c D (kA σ s.heap.size) 5 cX10_drought RX10 := B
  obtain ⟨mv, kn, Lk, h⟩ := h
  have tail : ∀ b : Bool, b = (decide (0 ≤ y ∧ y ≤ 100000) && decide (0 ≤ w ∧ w ≤ y)) → kK p l e (kR 4 0 0) s m args below meth c D (kA σ s.heap.size) 5 (kQ below args s D σ (mPo D aM ma z (gDrought c9 y w) none (nDrought z c9 y w) (tCd 1 2 2) σ) (fun _ => False) 0 0) σ 0 0 24 [some (.ref aM), some (.int c9), some (.int y), some (.int w), none] [.int (bI b)] := by
    intro b hb
    refine k_istore B dX10_drought_24 (by decide) ?_
    try refine kK.set1 (by first | exact True.intro | rfl | exact kCat_q _) ?_
    refine k_aload_n B dX10_drought_26 rfl (by first | exact kRf_r _ | exact kRf_q _ | exact kRf_n) ?_
    refine k_iload_n B dX10_drought_27 rfl ?_
    refine cl_X10_103 B (c_X10_isCell hl) dX10_drought_28 (by first | exact Nat.le_of_ble_eq_true rfl | omega | (simp only [kR, Value.category, kCat_q, List.map, List.sum_cons, List.sum_nil]; omega)) (by first | exact Nat.le_of_ble_eq_true rfl | omega | (simp only [kR, Value.category, kCat_q, List.map, List.sum_cons, List.sum_nil]; omega)) (by first | exact Nat.le_of_ble_eq_true rfl | omega | (simp only [kR, Value.category, kCat_q, List.map, List.sum_cons, List.sum_nil]; omega)) (by first | exact Nat.le_of_ble_eq_true rfl | omega | (simp only [kR, Value.category, kCat_q, List.map, List.sum_cons, List.sum_nil]; omega)) (by first | exact Nat.le_of_ble_eq_true rfl | omega | (simp only [kR, Value.category, kCat_q, List.map, List.sum_cons, List.sum_nil]; omega)) (fun _ hx => hx.elim) (fun v28 s28 hp28 => ?_)
    obtain ⟨rfl, e28⟩ := hp28
    rw [e28]
    refine k_if_ne B 38 dX10_drought_31 (by decide) (fun c31 => ?_) (fun c31 => ?_)
    · rename_i c31
      obtain ⟨i, hi, rfl⟩ := i9_10 (bI_p c31)
      have g1 := nI_10 hi
      refine k_iload B dX10_drought_38 rfl ?_
      refine k_if_eq B 47 dX10_drought_40 (by decide) (fun c40 => ?_) (fun c40 => ?_)
      · rename_i c40
        have hb2 : b = false := by cases b with
          | true => exact absurd c40 (by decide)
          | false => rfl
        rw [hb2] at hb
        have gg : gDrought (nI i) y w = some eA := by
          rw [gDrought, gCell_p g1]
          by_cases g2 : inR y 0 100000
          · have g2' : (0 : Int32) ≤ y ∧ y ≤ 100000 := g2
            rw [gRg_p g2]
            refine gRg_n ⟨rfl, fun g3 => ?_⟩
            have g3' : (0 : Int32) ≤ w ∧ w ≤ y := g3
            rw [decide_eq_true g2', decide_eq_true g3'] at hb
            exact absurd hb (by decide)
          · exact gRg_n ⟨rfl, g2⟩
        refine k_iconst B (v := 2) dX10_drought_47 (by decide) ?_
        refine cl_X10_107 B (c_X10_can hl h.m) h.o dX10_drought_48 (by first | exact Nat.le_of_ble_eq_true rfl | omega | (simp only [kR, Value.category, kCat_q, List.map, List.sum_cons, List.sum_nil]; omega)) (by first | exact Nat.le_of_ble_eq_true rfl | omega | (simp only [kR, Value.category, kCat_q, List.map, List.sum_cons, List.sum_nil]; omega)) (by first | exact Nat.le_of_ble_eq_true rfl | omega | (simp only [kR, Value.category, kCat_q, List.map, List.sum_cons, List.sum_nil]; omega)) (by first | exact Nat.le_of_ble_eq_true rfl | omega | (simp only [kR, Value.category, kCat_q, List.map, List.sum_cons, List.sum_nil]; omega)) (by first | exact Nat.le_of_ble_eq_true rfl | omega | (simp only [kR, Value.category, kCat_q, List.map, List.sum_cons, List.sum_nil]; omega)) (fun _ hx => hx.elim) (fun v48 s48 hp48 => ?_)
        obtain ⟨rfl, e48⟩ := hp48
        rw [e48]
        refine k_if_eq B 69 dX10_drought_51 (by decide) (fun _ => ?_) (fun c51 => absurd (by decide) c51)
        refine k_vret B hr dX10_drought_69 ?_ (by first | exact Nat.le_of_ble_eq_true rfl | omega | (simp only [kR, Value.category, kCat_q, List.map, List.sum_cons, List.sum_nil]; omega)) (by first | exact Nat.le_of_ble_eq_true rfl | omega | (simp only [kR, Value.category, kCat_q, List.map, List.sum_cons, List.sum_nil]; omega))
        exact mPo.no h (gg) tCd_A rfl
      · rename_i c40
        have hb2 : b = true := by cases b with
          | true => rfl
          | false => exact absurd rfl c40
        rw [hb2] at hb
        have g2 : inR y 0 100000 := of_decide_eq_true (p := 0 ≤ y ∧ y ≤ 100000) (Bool.and_eq_true_iff.mp hb.symm).1
        have g3 : inR w 0 y := of_decide_eq_true (p := 0 ≤ w ∧ w ≤ y) (Bool.and_eq_true_iff.mp hb.symm).2
        obtain ⟨j, hj1, hj2, ej⟩ := inR_of (a := 0) (n := 100000) rfl rfl (by decide) (by decide) g2
        obtain ⟨j2, hj3, hj4, ej2⟩ := inR_of (a := 0) (n := j) rfl ej (by omega) (by omega) g3
        refine k_iconst B (v := 0) dX10_drought_43 (by decide) ?_
        refine k_goto B 48 dX10_drought_44 (by decide) ?_
        refine cl_X10_107 B (c_X10_can hl h.m) h.o dX10_drought_48 (by first | exact Nat.le_of_ble_eq_true rfl | omega | (simp only [kR, Value.category, kCat_q, List.map, List.sum_cons, List.sum_nil]; omega)) (by first | exact Nat.le_of_ble_eq_true rfl | omega | (simp only [kR, Value.category, kCat_q, List.map, List.sum_cons, List.sum_nil]; omega)) (by first | exact Nat.le_of_ble_eq_true rfl | omega | (simp only [kR, Value.category, kCat_q, List.map, List.sum_cons, List.sum_nil]; omega)) (by first | exact Nat.le_of_ble_eq_true rfl | omega | (simp only [kR, Value.category, kCat_q, List.map, List.sum_cons, List.sum_nil]; omega)) (by first | exact Nat.le_of_ble_eq_true rfl | omega | (simp only [kR, Value.category, kCat_q, List.map, List.sum_cons, List.sum_nil]; omega)) (fun _ hx => hx.elim) (fun v48 s48 hp48 => ?_)
        obtain ⟨rfl, e48⟩ := hp48
        rw [e48]
        refine k_if_eq B 69 dX10_drought_51 (by decide) (fun c51 => absurd c51 (by decide)) (fun _ => ?_)
        have h1 := h.can 0
        have fh1 : kOut (mOwn aM ma) σ (kUp σ aM (m10E ma (setT (qZ z kn t) 0))) := kOut.up mOwn.o
        refine k_aload_n B dX10_drought_54 rfl (by first | exact kRf_r _ | exact kRf_q _ | exact kRf_n) ?_
        refine k_iload_n B dX10_drought_55 rfl ?_
        refine pf_X10_156 B dX10_drought_56 h1.o rfl ?_
        refine kK.eq (kUp_uu) ?_
        refine k_aload_n B dX10_drought_59 rfl (by first | exact kRf_r _ | exact kRf_q _ | exact kRf_n) ?_
        refine k_iload_n B dX10_drought_60 rfl ?_
        refine pf_X10_159 B dX10_drought_61 kUp_eq rfl ?_
        refine kK.eq (kUp_uu) ?_
        refine k_aload_n B dX10_drought_64 rfl (by first | exact kRf_r _ | exact kRf_q _ | exact kRf_n) ?_
        refine k_iload_n B dX10_drought_65 rfl ?_
        refine pf_X10_162 B dX10_drought_66 kUp_eq rfl ?_
        refine kK.eq (kUp_uu) ?_
        refine k_vret B hr dX10_drought_69 ?_ (by first | exact Nat.le_of_ble_eq_true rfl | omega | (simp only [kR, Value.category, kCat_q, List.map, List.sum_cons, List.sum_nil]; omega)) (by first | exact Nat.le_of_ble_eq_true rfl | omega | (simp only [kR, Value.category, kCat_q, List.map, List.sum_cons, List.sum_nil]; omega))
        refine mPo.ok ((gCell_p g1).trans ((gRg_p g2).trans (gRg_p g3))) rfl ⟨mv, kn, Lk, ?_⟩ (kOut.up mOwn.o)
        rw [nDrought, ej, ej2, cN_nI (by omega), cN_nI (by omega), cN_nI (by omega)]
        exact ⟨h.m.up _, h.2⟩
    · rename_i c31
      refine k_iconst B (v := 1) dX10_drought_34 (by decide) ?_
      refine k_goto B 48 dX10_drought_35 (by decide) ?_
      refine cl_X10_107 B (c_X10_can hl h.m) h.o dX10_drought_48 (by first | exact Nat.le_of_ble_eq_true rfl | omega | (simp only [kR, Value.category, kCat_q, List.map, List.sum_cons, List.sum_nil]; omega)) (by first | exact Nat.le_of_ble_eq_true rfl | omega | (simp only [kR, Value.category, kCat_q, List.map, List.sum_cons, List.sum_nil]; omega)) (by first | exact Nat.le_of_ble_eq_true rfl | omega | (simp only [kR, Value.category, kCat_q, List.map, List.sum_cons, List.sum_nil]; omega)) (by first | exact Nat.le_of_ble_eq_true rfl | omega | (simp only [kR, Value.category, kCat_q, List.map, List.sum_cons, List.sum_nil]; omega)) (by first | exact Nat.le_of_ble_eq_true rfl | omega | (simp only [kR, Value.category, kCat_q, List.map, List.sum_cons, List.sum_nil]; omega)) (fun _ hx => hx.elim) (fun v48 s48 hp48 => ?_)
      obtain ⟨rfl, e48⟩ := hp48
      rw [e48]
      refine k_if_eq B 69 dX10_drought_51 (by decide) (fun _ => ?_) (fun c51 => absurd (by decide) c51)
      refine k_vret B hr dX10_drought_69 ?_ (by first | exact Nat.le_of_ble_eq_true rfl | omega | (simp only [kR, Value.category, kCat_q, List.map, List.sum_cons, List.sum_nil]; omega)) (by first | exact Nat.le_of_ble_eq_true rfl | omega | (simp only [kR, Value.category, kCat_q, List.map, List.sum_cons, List.sum_nil]; omega))
      exact mPo.no h (gCell_n ⟨rfl, no10 (bI_q c31)⟩) tCd_I rfl
  refine k_iload_n B dX10_drought_0 rfl ?_
  refine k_iconst B (v := 0) dX10_drought_1 (by decide) ?_
  refine k_ldc B qw1040 dX10_drought_2 ?_
  refine cl_X10_93 B (c_X10_isIn hl) dX10_drought_4 (by first | exact Nat.le_of_ble_eq_true rfl | omega | (simp only [kR, Value.category, kCat_q, List.map, List.sum_cons, List.sum_nil]; omega)) (by first | exact Nat.le_of_ble_eq_true rfl | omega | (simp only [kR, Value.category, kCat_q, List.map, List.sum_cons, List.sum_nil]; omega)) (by first | exact Nat.le_of_ble_eq_true rfl | omega | (simp only [kR, Value.category, kCat_q, List.map, List.sum_cons, List.sum_nil]; omega)) (by first | exact Nat.le_of_ble_eq_true rfl | omega | (simp only [kR, Value.category, kCat_q, List.map, List.sum_cons, List.sum_nil]; omega)) (by first | exact Nat.le_of_ble_eq_true rfl | omega | (simp only [kR, Value.category, kCat_q, List.map, List.sum_cons, List.sum_nil]; omega)) (fun _ hx => hx.elim) (fun v4 s4 hp4 => ?_)
  obtain ⟨rfl, e4⟩ := hp4
  rw [e4]
  refine k_if_eq B 23 dX10_drought_7 (by decide) (fun c7 => ?_) (fun c7 => ?_)
  · rename_i c7
    refine k_iconst B (v := 0) dX10_drought_23 (by decide) ?_
    exact tail false (by rw [decide_eq_false (bI_q c7)]; rfl)
  · rename_i c7
    refine k_iload_n B dX10_drought_10 rfl ?_
    refine k_iconst B (v := 0) dX10_drought_11 (by decide) ?_
    refine k_iload_n B dX10_drought_12 rfl ?_
    refine cl_X10_93 B (c_X10_isIn hl) dX10_drought_13 (by first | exact Nat.le_of_ble_eq_true rfl | omega | (simp only [kR, Value.category, kCat_q, List.map, List.sum_cons, List.sum_nil]; omega)) (by first | exact Nat.le_of_ble_eq_true rfl | omega | (simp only [kR, Value.category, kCat_q, List.map, List.sum_cons, List.sum_nil]; omega)) (by first | exact Nat.le_of_ble_eq_true rfl | omega | (simp only [kR, Value.category, kCat_q, List.map, List.sum_cons, List.sum_nil]; omega)) (by first | exact Nat.le_of_ble_eq_true rfl | omega | (simp only [kR, Value.category, kCat_q, List.map, List.sum_cons, List.sum_nil]; omega)) (by first | exact Nat.le_of_ble_eq_true rfl | omega | (simp only [kR, Value.category, kCat_q, List.map, List.sum_cons, List.sum_nil]; omega)) (fun _ hx => hx.elim) (fun v13 s13 hp13 => ?_)
    obtain ⟨rfl, e13⟩ := hp13
    rw [e13]
    refine k_if_eq B 23 dX10_drought_16 (by decide) (fun c16 => ?_) (fun c16 => ?_)
    · rename_i c16
      refine k_iconst B (v := 0) dX10_drought_23 (by decide) ?_
      exact tail false (by rw [decide_eq_false (bI_q c16), Bool.and_false])
    · rename_i c16
      refine k_iconst B (v := 1) dX10_drought_19 (by decide) ?_
      refine k_goto B 24 dX10_drought_20 (by decide) ?_
      exact tail true (by rw [decide_eq_true (bI_p c7), decide_eq_true (bI_p c16)]; rfl)
set_option maxRecDepth 100000 in
theorem c_X10_share (hl : l.stackTraces = false) (h : cl10 D aM ma z t σ) {y : Int32} : kMh hX10_share l D yX10_share 4 0 0 [.ref aM, .int y] σ (mPo D aM ma z (gShare y) (some (.int (rShare z))) (nShare z y) (tCd 1 1 1) σ) (fun _ => False) := by
  refine kM_of (L := [some (.ref aM), some (.int y), none]) (by decide +kernel) hl (List.forall_mem_cons.mpr ⟨rfl, (List.forall_mem_cons.mpr ⟨rfl, (fun _ h => absurd h List.not_mem_nil)⟩)⟩) (Nat.le_of_ble_eq_true rfl) rfl ?_
  intro p e s m args below meth c B hr hex hnm
  have B : kB p l s m args meth c D (kA σ s.heap.size) 3 cX10_share RX10 := B
  obtain ⟨mv, kn, Lk, h⟩ := h
  refine k_aload_n B dX10_share_0 rfl (by first | exact kRf_r _ | exact kRf_q _ | exact kRf_n) ?_
  refine k_iload_n B dX10_share_1 rfl ?_
  refine k_iconst B (v := 0) dX10_share_2 (by decide) ?_
  refine k_bipush B (v := 100) dX10_share_3 (by decide) ?_
  refine cl_X10_93 B (c_X10_isIn hl) dX10_share_5 (by first | exact Nat.le_of_ble_eq_true rfl | omega | (simp only [kR, Value.category, kCat_q, List.map, List.sum_cons, List.sum_nil]; omega)) (by first | exact Nat.le_of_ble_eq_true rfl | omega | (simp only [kR, Value.category, kCat_q, List.map, List.sum_cons, List.sum_nil]; omega)) (by first | exact Nat.le_of_ble_eq_true rfl | omega | (simp only [kR, Value.category, kCat_q, List.map, List.sum_cons, List.sum_nil]; omega)) (by first | exact Nat.le_of_ble_eq_true rfl | omega | (simp only [kR, Value.category, kCat_q, List.map, List.sum_cons, List.sum_nil]; omega)) (by first | exact Nat.le_of_ble_eq_true rfl | omega | (simp only [kR, Value.category, kCat_q, List.map, List.sum_cons, List.sum_nil]; omega)) (fun _ hx => hx.elim) (fun v5 s5 hp5 => ?_)
  obtain ⟨rfl, e5⟩ := hp5
  rw [e5]
  refine k_if_eq B 15 dX10_share_8 (by decide) (fun c8 => ?_) (fun c8 => ?_)
  · rename_i c8
    refine k_iconst B (v := 1) dX10_share_15 (by decide) ?_
    refine cl_X10_107 B (c_X10_can hl h.m) h.o dX10_share_16 (by first | exact Nat.le_of_ble_eq_true rfl | omega | (simp only [kR, Value.category, kCat_q, List.map, List.sum_cons, List.sum_nil]; omega)) (by first | exact Nat.le_of_ble_eq_true rfl | omega | (simp only [kR, Value.category, kCat_q, List.map, List.sum_cons, List.sum_nil]; omega)) (by first | exact Nat.le_of_ble_eq_true rfl | omega | (simp only [kR, Value.category, kCat_q, List.map, List.sum_cons, List.sum_nil]; omega)) (by first | exact Nat.le_of_ble_eq_true rfl | omega | (simp only [kR, Value.category, kCat_q, List.map, List.sum_cons, List.sum_nil]; omega)) (by first | exact Nat.le_of_ble_eq_true rfl | omega | (simp only [kR, Value.category, kCat_q, List.map, List.sum_cons, List.sum_nil]; omega)) (fun _ hx => hx.elim) (fun v16 s16 hp16 => ?_)
    obtain ⟨rfl, e16⟩ := hp16
    rw [e16]
    refine k_if_ne B 24 dX10_share_19 (by decide) (fun c19 => absurd (by decide) c19) (fun _ => ?_)
    refine k_iconst B (v := 0) dX10_share_22 (by decide) ?_
    refine k_iret B hr dX10_share_23 ?_ (by first | exact Nat.le_of_ble_eq_true rfl | omega | (simp only [kR, Value.category, kCat_q, List.map, List.sum_cons, List.sum_nil]; omega)) (by first | exact Nat.le_of_ble_eq_true rfl | omega | (simp only [kR, Value.category, kCat_q, List.map, List.sum_cons, List.sum_nil]; omega))
    exact mPo.no h (gRg_n ⟨rfl, rg_q c8⟩) tCd_A rfl
  · rename_i c8
    have g2 : inR y 0 100 := rg_p c8
    obtain ⟨j, hj1, hj2, ej⟩ := inR_of (a := 0) (n := 100) rfl rfl (by decide) (by decide) g2
    refine k_iconst B (v := 0) dX10_share_11 (by decide) ?_
    refine k_goto B 16 dX10_share_12 (by decide) ?_
    refine cl_X10_107 B (c_X10_can hl h.m) h.o dX10_share_16 (by first | exact Nat.le_of_ble_eq_true rfl | omega | (simp only [kR, Value.category, kCat_q, List.map, List.sum_cons, List.sum_nil]; omega)) (by first | exact Nat.le_of_ble_eq_true rfl | omega | (simp only [kR, Value.category, kCat_q, List.map, List.sum_cons, List.sum_nil]; omega)) (by first | exact Nat.le_of_ble_eq_true rfl | omega | (simp only [kR, Value.category, kCat_q, List.map, List.sum_cons, List.sum_nil]; omega)) (by first | exact Nat.le_of_ble_eq_true rfl | omega | (simp only [kR, Value.category, kCat_q, List.map, List.sum_cons, List.sum_nil]; omega)) (by first | exact Nat.le_of_ble_eq_true rfl | omega | (simp only [kR, Value.category, kCat_q, List.map, List.sum_cons, List.sum_nil]; omega)) (fun _ hx => hx.elim) (fun v16 s16 hp16 => ?_)
    obtain ⟨rfl, e16⟩ := hp16
    rw [e16]
    refine k_if_ne B 24 dX10_share_19 (by decide) (fun _ => ?_) (fun c19 => absurd c19 (by decide))
    have h1 := h.can 0
    have fh1 : kOut (mOwn aM ma) σ (kUp σ aM (m10E ma (setT (qZ z kn t) 0))) := kOut.up mOwn.o
    refine k_aload_n B dX10_share_24 rfl (by first | exact kRf_r _ | exact kRf_q _ | exact kRf_n) ?_
    refine gf_X10_67 B dX10_share_25 h1.o rfl ?_
    refine k_istore_n B dX10_share_28 (by decide) ?_
    try refine kK.set1 (by first | exact True.intro | rfl | exact kCat_q _) ?_
    refine k_aload_n B dX10_share_29 rfl (by first | exact kRf_r _ | exact kRf_q _ | exact kRf_n) ?_
    refine k_iload_n B dX10_share_30 rfl ?_
    refine pf_X10_67 B dX10_share_31 h1.o rfl ?_
    refine kK.eq (kUp_uu) ?_
    refine k_iload_n B dX10_share_34 rfl ?_
    refine k_iret B hr dX10_share_35 ?_ (by first | exact Nat.le_of_ble_eq_true rfl | omega | (simp only [kR, Value.category, kCat_q, List.map, List.sum_cons, List.sum_nil]; omega)) (by first | exact Nat.le_of_ble_eq_true rfl | omega | (simp only [kR, Value.category, kCat_q, List.map, List.sum_cons, List.sum_nil]; omega))
    refine mPo.ok (gRg_p g2) rfl ⟨mv, kn, Lk, ?_⟩ (kOut.up mOwn.o)
    rw [nShare, ej, cN_nI (by omega)]
    exact ⟨h.m.up _, h.2⟩
set_option maxRecDepth 100000 in
theorem c_X10_year (hl : l.stackTraces = false) (h : cl10 D aM ma z t σ) : kMh hX10_year l D yX10_year 4 0 0 [.ref aM] σ (mPo D aM ma z none (some (.int (nI (sNow z)))) z (tCd 1 1 1) σ) (fun _ => False) := by
  refine kM_of (L := [some (.ref aM)]) (by decide +kernel) hl (List.forall_mem_cons.mpr ⟨rfl, (fun _ h => absurd h List.not_mem_nil)⟩) (Nat.le_of_ble_eq_true rfl) rfl ?_
  intro p e s m args below meth c B hr hex hnm
  have B : kB p l s m args meth c D (kA σ s.heap.size) 1 cX10_year RX10 := B
  obtain ⟨mv, kn, Lk, h⟩ := h
  refine k_aload_n B dX10_year_0 rfl (by first | exact kRf_r _ | exact kRf_q _ | exact kRf_n) ?_
  refine k_iconst B (v := 0) dX10_year_1 (by decide) ?_
  refine pf_X10_90 B dX10_year_2 h.o rfl ?_
  refine k_aload_n B dX10_year_5 rfl (by first | exact kRf_r _ | exact kRf_q _ | exact kRf_n) ?_
  refine gf_X10_131 B dX10_year_6 kUp_eq rfl ?_
  refine k_iret B hr dX10_year_9 ?_ (by first | exact Nat.le_of_ble_eq_true rfl | omega | (simp only [kR, Value.category, kCat_q, List.map, List.sum_cons, List.sum_nil]; omega)) (by first | exact Nat.le_of_ble_eq_true rfl | omega | (simp only [kR, Value.category, kCat_q, List.map, List.sum_cons, List.sum_nil]; omega))
  exact mPo.ok rfl rfl (h.can 0).cl (kOut.up mOwn.o)
set_option maxRecDepth 100000 in
theorem c_X10_well (hl : l.stackTraces = false) (hs : sOk z) (h : cl10 D aM ma z t σ) {c9 y : Int32} : kMh hX10_well l D yX10_well 4 0 0 [.ref aM, .int c9, .int y] σ (mPo D aM ma z (gWell z c9 y) (some (.int (rWell z))) (nWell z c9 y) (tCd 1 2 3) σ) (fun _ => False) := by
  refine kM_of (L := [some (.ref aM), some (.int c9), some (.int y), none, none]) (by decide +kernel) hl (List.forall_mem_cons.mpr ⟨rfl, (List.forall_mem_cons.mpr ⟨rfl, (List.forall_mem_cons.mpr ⟨rfl, (fun _ h => absurd h List.not_mem_nil)⟩)⟩)⟩) (Nat.le_of_ble_eq_true rfl) rfl ?_
  intro p e s m args below meth c B hr hex hnm
  have B : kB p l s m args meth c D (kA σ s.heap.size) 5 cX10_well RX10 := B
  obtain ⟨mv, kn, Lk, h⟩ := h
  have hn6 := hs.2.2.1.1
  refine k_iload_n B dX10_well_0 rfl ?_
  refine cl_X10_103 B (c_X10_isCell hl) dX10_well_1 (by first | exact Nat.le_of_ble_eq_true rfl | omega | (simp only [kR, Value.category, kCat_q, List.map, List.sum_cons, List.sum_nil]; omega)) (by first | exact Nat.le_of_ble_eq_true rfl | omega | (simp only [kR, Value.category, kCat_q, List.map, List.sum_cons, List.sum_nil]; omega)) (by first | exact Nat.le_of_ble_eq_true rfl | omega | (simp only [kR, Value.category, kCat_q, List.map, List.sum_cons, List.sum_nil]; omega)) (by first | exact Nat.le_of_ble_eq_true rfl | omega | (simp only [kR, Value.category, kCat_q, List.map, List.sum_cons, List.sum_nil]; omega)) (by first | exact Nat.le_of_ble_eq_true rfl | omega | (simp only [kR, Value.category, kCat_q, List.map, List.sum_cons, List.sum_nil]; omega)) (fun _ hx => hx.elim) (fun v1 s1 hp1 => ?_)
  obtain ⟨rfl, e1⟩ := hp1
  rw [e1]
  refine k_istore_n B dX10_well_4 (by decide) ?_
  try refine kK.set1 (by first | exact True.intro | rfl | exact kCat_q _) ?_
  refine k_iload_n B dX10_well_5 rfl ?_
  refine k_iconst B (v := 0) dX10_well_6 (by decide) ?_
  refine k_sipush B (v := 10000) dX10_well_7 (by decide) ?_
  refine cl_X10_93 B (c_X10_isIn hl) dX10_well_10 (by first | exact Nat.le_of_ble_eq_true rfl | omega | (simp only [kR, Value.category, kCat_q, List.map, List.sum_cons, List.sum_nil]; omega)) (by first | exact Nat.le_of_ble_eq_true rfl | omega | (simp only [kR, Value.category, kCat_q, List.map, List.sum_cons, List.sum_nil]; omega)) (by first | exact Nat.le_of_ble_eq_true rfl | omega | (simp only [kR, Value.category, kCat_q, List.map, List.sum_cons, List.sum_nil]; omega)) (by first | exact Nat.le_of_ble_eq_true rfl | omega | (simp only [kR, Value.category, kCat_q, List.map, List.sum_cons, List.sum_nil]; omega)) (by first | exact Nat.le_of_ble_eq_true rfl | omega | (simp only [kR, Value.category, kCat_q, List.map, List.sum_cons, List.sum_nil]; omega)) (fun _ hx => hx.elim) (fun v10 s10 hp10 => ?_)
  obtain ⟨rfl, e10⟩ := hp10
  rw [e10]
  refine k_istore B dX10_well_13 (by decide) ?_
  try refine kK.set1 (by first | exact True.intro | rfl | exact kCat_q _) ?_
  refine k_aload_n B dX10_well_15 rfl (by first | exact kRf_r _ | exact kRf_q _ | exact kRf_n) ?_
  refine k_iload_n B dX10_well_16 rfl ?_
  refine k_if_ne B 24 dX10_well_17 (by decide) (fun c17 => ?_) (fun c17 => ?_)
  · rename_i c17
    obtain ⟨i, hi, rfl⟩ := i9_10 (bI_p c17)
    have g1 := nI_10 hi
    refine k_iload B dX10_well_24 rfl ?_
    refine k_if_ne B 33 dX10_well_26 (by decide) (fun c26 => ?_) (fun c26 => ?_)
    · rename_i c26
      have g2 : inR y 0 10000 := rg_p c26
      obtain ⟨j, hj1, hj2, rfl⟩ := inR_of (a := 0) (n := 10000) rfl rfl (by decide) (by decide) g2
      have gg : gWell z (nI i) (nI j) = gSt (decide (sWn z < 6)) := by rw [gWell, gCell_p g1, gRg_p g2]
      refine k_aload_n B dX10_well_33 rfl (by first | exact kRf_r _ | exact kRf_q _ | exact kRf_n) ?_
      refine gf_X10_97 B dX10_well_34 h.o rfl ?_
      refine k_bipush B (v := 6) dX10_well_37 (by decide) ?_
      refine k_icmp_ne B 46 dX10_well_39 (by decide) (fun c39 => ?_) (fun c39 => ?_)
      · rename_i c39
        have he : sWn z < 6 := by
          have : sWn z ≠ 6 := fun q => c39 (by show nI (sWn z) = 6; rw [q]; rfl)
          omega
        refine k_iconst B (v := 0) dX10_well_46 (by decide) ?_
        refine cl_X10_107 B (c_X10_can hl h.m) h.o dX10_well_47 (by first | exact Nat.le_of_ble_eq_true rfl | omega | (simp only [kR, Value.category, kCat_q, List.map, List.sum_cons, List.sum_nil]; omega)) (by first | exact Nat.le_of_ble_eq_true rfl | omega | (simp only [kR, Value.category, kCat_q, List.map, List.sum_cons, List.sum_nil]; omega)) (by first | exact Nat.le_of_ble_eq_true rfl | omega | (simp only [kR, Value.category, kCat_q, List.map, List.sum_cons, List.sum_nil]; omega)) (by first | exact Nat.le_of_ble_eq_true rfl | omega | (simp only [kR, Value.category, kCat_q, List.map, List.sum_cons, List.sum_nil]; omega)) (by first | exact Nat.le_of_ble_eq_true rfl | omega | (simp only [kR, Value.category, kCat_q, List.map, List.sum_cons, List.sum_nil]; omega)) (fun _ hx => hx.elim) (fun v47 s47 hp47 => ?_)
        obtain ⟨rfl, e47⟩ := hp47
        rw [e47]
        refine k_if_ne B 55 dX10_well_50 (by decide) (fun _ => ?_) (fun c50 => absurd c50 (by decide))
        have h1 := h.can 0
        have fh1 : kOut (mOwn aM ma) σ (kUp σ aM (m10E ma (setT (qZ z kn t) 0))) := kOut.up mOwn.o
        refine k_aload_n B dX10_well_55 rfl (by first | exact kRf_r _ | exact kRf_q _ | exact kRf_n) ?_
        refine gf_X10_58 B dX10_well_56 h1.o rfl ?_
        refine k_aload_n B dX10_well_59 rfl (by first | exact kRf_r _ | exact kRf_q _ | exact kRf_n) ?_
        refine gf_X10_97 B dX10_well_60 h1.o rfl ?_
        refine k_iload_n B dX10_well_63 rfl ?_
        refine k_iast B dX10_well_64 (h1.i (k := 19) rfl (by decide)) (vp_in_nI he (by decide)) ?_
        have h2 := h1.m.s (k := 19) rfl (by decide) (i := sWn z) (by omega) (nI i)
        refine k_aload_n B dX10_well_65 rfl (by first | exact kRf_r _ | exact kRf_q _ | exact kRf_n) ?_
        refine gf_X10_61 B dX10_well_66 h2.o rfl ?_
        refine k_aload_n B dX10_well_69 rfl (by first | exact kRf_r _ | exact kRf_q _ | exact kRf_n) ?_
        refine gf_X10_97 B dX10_well_70 h2.o rfl ?_
        refine k_iload_n B dX10_well_73 rfl ?_
        refine k_iast B dX10_well_74 (h2.i (k := 20) rfl (by decide)) (vp_in_nI he (by decide)) ?_
        have h3 := h2.s (k := 20) rfl (by decide) (i := sWn z) (by omega) (nI j)
        refine k_aload_n B dX10_well_75 rfl (by first | exact kRf_r _ | exact kRf_q _ | exact kRf_n) ?_
        refine gf_X10_64 B dX10_well_76 h3.o rfl ?_
        refine k_aload_n B dX10_well_79 rfl (by first | exact kRf_r _ | exact kRf_q _ | exact kRf_n) ?_
        refine gf_X10_97 B dX10_well_80 h3.o rfl ?_
        refine k_iconst B (v := 0) dX10_well_83 (by decide) ?_
        refine k_iast B dX10_well_84 (h3.i (k := 21) rfl (by decide)) (vp_in_nI he (by decide)) ?_
        have h4 := h3.s (k := 21) rfl (by decide) (i := sWn z) (by omega) 0
        refine k_aload_n B dX10_well_85 rfl (by first | exact kRf_r _ | exact kRf_q _ | exact kRf_n) ?_
        refine k_dup B dX10_well_86 rfl ?_
        refine gf_X10_97 B dX10_well_87 h4.o rfl ?_
        refine k_iconst B (v := 1) dX10_well_90 (by decide) ?_
        refine k_iadd B dX10_well_91 ?_
        refine kK.rei (y := nI (sWn z + 1)) (nI_add _ 1) ?_
        refine pf_X10_97 B dX10_well_92 h4.o rfl ?_
        refine k_aload_n B dX10_well_95 rfl (by first | exact kRf_r _ | exact kRf_q _ | exact kRf_n) ?_
        refine gf_X10_97 B dX10_well_96 kUp_eq rfl ?_
        refine k_iconst B (v := 1) dX10_well_99 (by decide) ?_
        refine k_isub B dX10_well_100 ?_
        refine kK.rei (y := nI (sWn z)) (nI_pred _) ?_
        refine k_iret B hr dX10_well_101 ?_ (by first | exact Nat.le_of_ble_eq_true rfl | omega | (simp only [kR, Value.category, kCat_q, List.map, List.sum_cons, List.sum_nil]; omega)) (by first | exact Nat.le_of_ble_eq_true rfl | omega | (simp only [kR, Value.category, kCat_q, List.map, List.sum_cons, List.sum_nil]; omega))
        refine mPo.ok (gg.trans (gSt_t (decide_eq_true he))) rfl ?_ ((((fh1.tr (kOut.up (mOwn.a rfl))).tr (kOut.up (mOwn.a rfl))).tr (kOut.up (mOwn.a rfl))).tr (kOut.up mOwn.o))
        rw [nWell, cN_nI (by omega), cN_nI (by omega)]
        have c9 : ∀ a b, ¬ (19 ≤ a ∧ a ≤ 21) ∨ b ≠ sWn z → mS (mS (mS mv 19 (sWn z) (nI i)) 20 (sWn z) (nI j)) 21 (sWn z) 0 a b = mv a b := fun a b q => (mS_c (lo := 19) (hi := 21) (by decide) a b q).trans ((mS_c (lo := 19) (hi := 21) (by decide) a b q).trans (mS_c (lo := 19) (hi := 21) (by decide) a b q))
        exact ⟨_, kn, Lk, h4.up _, h.nb, h.K.keep (fun a b _ _ => c9 a b (Or.inl (by omega))), mW.snoc h.W (fun a b _ _ q => c9 a b (Or.inr q)) ⟨(mS_k (by decide)).trans ((mS_k (by decide)).trans mS_eq), (mS_k (by decide)).trans mS_eq, mS_eq⟩, h.T.keep (fun a b _ _ => c9 a b (Or.inl (by omega))), h.L.keep (fun a b _ => c9 a b (Or.inl (by omega))), h.C⟩
      · rename_i c39
        have he : sWn z = 6 := (nI_eq (by omega) (by decide)).mp c39
        refine k_iconst B (v := 3) dX10_well_42 (by decide) ?_
        refine k_goto B 47 dX10_well_43 (by decide) ?_
        refine cl_X10_107 B (c_X10_can hl h.m) h.o dX10_well_47 (by first | exact Nat.le_of_ble_eq_true rfl | omega | (simp only [kR, Value.category, kCat_q, List.map, List.sum_cons, List.sum_nil]; omega)) (by first | exact Nat.le_of_ble_eq_true rfl | omega | (simp only [kR, Value.category, kCat_q, List.map, List.sum_cons, List.sum_nil]; omega)) (by first | exact Nat.le_of_ble_eq_true rfl | omega | (simp only [kR, Value.category, kCat_q, List.map, List.sum_cons, List.sum_nil]; omega)) (by first | exact Nat.le_of_ble_eq_true rfl | omega | (simp only [kR, Value.category, kCat_q, List.map, List.sum_cons, List.sum_nil]; omega)) (by first | exact Nat.le_of_ble_eq_true rfl | omega | (simp only [kR, Value.category, kCat_q, List.map, List.sum_cons, List.sum_nil]; omega)) (fun _ hx => hx.elim) (fun v47 s47 hp47 => ?_)
        obtain ⟨rfl, e47⟩ := hp47
        rw [e47]
        refine k_if_ne B 55 dX10_well_50 (by decide) (fun c50 => absurd (by decide) c50) (fun _ => ?_)
        refine k_iconst B (v := 0) dX10_well_53 (by decide) ?_
        refine k_iret B hr dX10_well_54 ?_ (by first | exact Nat.le_of_ble_eq_true rfl | omega | (simp only [kR, Value.category, kCat_q, List.map, List.sum_cons, List.sum_nil]; omega)) (by first | exact Nat.le_of_ble_eq_true rfl | omega | (simp only [kR, Value.category, kCat_q, List.map, List.sum_cons, List.sum_nil]; omega))
        exact mPo.no h (gg.trans (gSt_f (decide_eq_false (by omega)) rfl)) tCd_S rfl
    · rename_i c26
      refine k_iconst B (v := 2) dX10_well_29 (by decide) ?_
      refine k_goto B 47 dX10_well_30 (by decide) ?_
      refine cl_X10_107 B (c_X10_can hl h.m) h.o dX10_well_47 (by first | exact Nat.le_of_ble_eq_true rfl | omega | (simp only [kR, Value.category, kCat_q, List.map, List.sum_cons, List.sum_nil]; omega)) (by first | exact Nat.le_of_ble_eq_true rfl | omega | (simp only [kR, Value.category, kCat_q, List.map, List.sum_cons, List.sum_nil]; omega)) (by first | exact Nat.le_of_ble_eq_true rfl | omega | (simp only [kR, Value.category, kCat_q, List.map, List.sum_cons, List.sum_nil]; omega)) (by first | exact Nat.le_of_ble_eq_true rfl | omega | (simp only [kR, Value.category, kCat_q, List.map, List.sum_cons, List.sum_nil]; omega)) (by first | exact Nat.le_of_ble_eq_true rfl | omega | (simp only [kR, Value.category, kCat_q, List.map, List.sum_cons, List.sum_nil]; omega)) (fun _ hx => hx.elim) (fun v47 s47 hp47 => ?_)
      obtain ⟨rfl, e47⟩ := hp47
      rw [e47]
      refine k_if_ne B 55 dX10_well_50 (by decide) (fun c50 => absurd (by decide) c50) (fun _ => ?_)
      refine k_iconst B (v := 0) dX10_well_53 (by decide) ?_
      refine k_iret B hr dX10_well_54 ?_ (by first | exact Nat.le_of_ble_eq_true rfl | omega | (simp only [kR, Value.category, kCat_q, List.map, List.sum_cons, List.sum_nil]; omega)) (by first | exact Nat.le_of_ble_eq_true rfl | omega | (simp only [kR, Value.category, kCat_q, List.map, List.sum_cons, List.sum_nil]; omega))
      exact mPo.no h ((gCell_p g1).trans (gRg_n ⟨rfl, rg_q c26⟩)) tCd_A rfl
  · rename_i c17
    refine k_iconst B (v := 1) dX10_well_20 (by decide) ?_
    refine k_goto B 47 dX10_well_21 (by decide) ?_
    refine cl_X10_107 B (c_X10_can hl h.m) h.o dX10_well_47 (by first | exact Nat.le_of_ble_eq_true rfl | omega | (simp only [kR, Value.category, kCat_q, List.map, List.sum_cons, List.sum_nil]; omega)) (by first | exact Nat.le_of_ble_eq_true rfl | omega | (simp only [kR, Value.category, kCat_q, List.map, List.sum_cons, List.sum_nil]; omega)) (by first | exact Nat.le_of_ble_eq_true rfl | omega | (simp only [kR, Value.category, kCat_q, List.map, List.sum_cons, List.sum_nil]; omega)) (by first | exact Nat.le_of_ble_eq_true rfl | omega | (simp only [kR, Value.category, kCat_q, List.map, List.sum_cons, List.sum_nil]; omega)) (by first | exact Nat.le_of_ble_eq_true rfl | omega | (simp only [kR, Value.category, kCat_q, List.map, List.sum_cons, List.sum_nil]; omega)) (fun _ hx => hx.elim) (fun v47 s47 hp47 => ?_)
    obtain ⟨rfl, e47⟩ := hp47
    rw [e47]
    refine k_if_ne B 55 dX10_well_50 (by decide) (fun c50 => absurd (by decide) c50) (fun _ => ?_)
    refine k_iconst B (v := 0) dX10_well_53 (by decide) ?_
    refine k_iret B hr dX10_well_54 ?_ (by first | exact Nat.le_of_ble_eq_true rfl | omega | (simp only [kR, Value.category, kCat_q, List.map, List.sum_cons, List.sum_nil]; omega)) (by first | exact Nat.le_of_ble_eq_true rfl | omega | (simp only [kR, Value.category, kCat_q, List.map, List.sum_cons, List.sum_nil]; omega))
    exact mPo.no h (gCell_n ⟨rfl, no10 (bI_q c17)⟩) tCd_I rfl
end Ref14
