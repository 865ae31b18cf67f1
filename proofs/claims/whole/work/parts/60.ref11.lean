section Ref11
variable {l : Launch} {D : va_G} {σ : kS} {aM : Nat} {ma : Nat → Nat} {z : kSt} {t : Int32}
set_option maxRecDepth 100000 in
theorem c_X10_rock (hl : l.stackTraces = false) (h : cl10 D aM ma z t σ) {c9 y : Int32} : kMh hX10_rock l D yX10_rock 4 0 0 [.ref aM, .int c9, .int y] σ (mPo D aM ma z (gRock c9 y) (some (.int (rRock z c9))) (nRock z c9 y) (tCd 1 2 3) σ) (fun _ => False) := by
  refine kM_of (L := [some (.ref aM), some (.int c9), some (.int y), none]) (by decide +kernel) hl (List.forall_mem_cons.mpr ⟨rfl, (List.forall_mem_cons.mpr ⟨rfl, (List.forall_mem_cons.mpr ⟨rfl, (fun _ h => absurd h List.not_mem_nil)⟩)⟩)⟩) (Nat.le_of_ble_eq_true rfl) rfl ?_
  intro p e s m args below meth c B hr hex hnm
  have B : kB p l s m args meth c D (kA σ s.heap.size) 4 cX10_rock RX10 := B
  obtain ⟨mv, kn, Lk, h⟩ := h
  refine k_aload_n B dX10_rock_0 rfl (by first | exact kRf_r _ | exact kRf_q _ | exact kRf_n) ?_
  refine k_iload_n B dX10_rock_1 rfl ?_
  refine cl_X10_103 B (c_X10_isCell hl) dX10_rock_2 (by first | exact Nat.le_of_ble_eq_true rfl | omega | (simp only [kR, Value.category, kCat_q, List.map, List.sum_cons, List.sum_nil]; omega)) (by first | exact Nat.le_of_ble_eq_true rfl | omega | (simp only [kR, Value.category, kCat_q, List.map, List.sum_cons, List.sum_nil]; omega)) (by first | exact Nat.le_of_ble_eq_true rfl | omega | (simp only [kR, Value.category, kCat_q, List.map, List.sum_cons, List.sum_nil]; omega)) (by first | exact Nat.le_of_ble_eq_true rfl | omega | (simp only [kR, Value.category, kCat_q, List.map, List.sum_cons, List.sum_nil]; omega)) (by first | exact Nat.le_of_ble_eq_true rfl | omega | (simp only [kR, Value.category, kCat_q, List.map, List.sum_cons, List.sum_nil]; omega)) (fun _ hx => hx.elim) (fun v2 s2 hp2 => ?_)
  obtain ⟨rfl, e2⟩ := hp2
  rw [e2]
  refine k_if_ne B 12 dX10_rock_5 (by decide) (fun c5 => ?_) (fun c5 => ?_)
  · rename_i c5
    obtain ⟨i, hi, rfl⟩ := i9_10 (bI_p c5)
    have g1 := nI_10 hi
    refine k_iload_n B dX10_rock_12 rfl ?_
    refine k_iconst B (v := 1) dX10_rock_13 (by decide) ?_
    refine k_bipush B (v := 40) dX10_rock_14 (by decide) ?_
    refine cl_X10_93 B (c_X10_isIn hl) dX10_rock_16 (by first | exact Nat.le_of_ble_eq_true rfl | omega | (simp only [kR, Value.category, kCat_q, List.map, List.sum_cons, List.sum_nil]; omega)) (by first | exact Nat.le_of_ble_eq_true rfl | omega | (simp only [kR, Value.category, kCat_q, List.map, List.sum_cons, List.sum_nil]; omega)) (by first | exact Nat.le_of_ble_eq_true rfl | omega | (simp only [kR, Value.category, kCat_q, List.map, List.sum_cons, List.sum_nil]; omega)) (by first | exact Nat.le_of_ble_eq_true rfl | omega | (simp only [kR, Value.category, kCat_q, List.map, List.sum_cons, List.sum_nil]; omega)) (by first | exact Nat.le_of_ble_eq_true rfl | omega | (simp only [kR, Value.category, kCat_q, List.map, List.sum_cons, List.sum_nil]; omega)) (fun _ hx => hx.elim) (fun v16 s16 hp16 => ?_)
    obtain ⟨rfl, e16⟩ := hp16
    rw [e16]
    refine k_if_eq B 26 dX10_rock_19 (by decide) (fun c19 => ?_) (fun c19 => ?_)
    · rename_i c19
      refine k_iconst B (v := 2) dX10_rock_26 (by decide) ?_
      refine cl_X10_107 B (c_X10_can hl h.m) h.o dX10_rock_27 (by first | exact Nat.le_of_ble_eq_true rfl | omega | (simp only [kR, Value.category, kCat_q, List.map, List.sum_cons, List.sum_nil]; omega)) (by first | exact Nat.le_of_ble_eq_true rfl | omega | (simp only [kR, Value.category, kCat_q, List.map, List.sum_cons, List.sum_nil]; omega)) (by first | exact Nat.le_of_ble_eq_true rfl | omega | (simp only [kR, Value.category, kCat_q, List.map, List.sum_cons, List.sum_nil]; omega)) (by first | exact Nat.le_of_ble_eq_true rfl | omega | (simp only [kR, Value.category, kCat_q, List.map, List.sum_cons, List.sum_nil]; omega)) (by first | exact Nat.le_of_ble_eq_true rfl | omega | (simp only [kR, Value.category, kCat_q, List.map, List.sum_cons, List.sum_nil]; omega)) (fun _ hx => hx.elim) (fun v27 s27 hp27 => ?_)
      obtain ⟨rfl, e27⟩ := hp27
      rw [e27]
      refine k_if_ne B 35 dX10_rock_30 (by decide) (fun c30 => absurd (by decide) c30) (fun _ => ?_)
      refine k_iconst B (v := 0) dX10_rock_33 (by decide) ?_
      refine k_iret B hr dX10_rock_34 ?_ (by first | exact Nat.le_of_ble_eq_true rfl | omega | (simp only [kR, Value.category, kCat_q, List.map, List.sum_cons, List.sum_nil]; omega)) (by first | exact Nat.le_of_ble_eq_true rfl | omega | (simp only [kR, Value.category, kCat_q, List.map, List.sum_cons, List.sum_nil]; omega))
      exact mPo.no h ((gCell_p g1).trans (gRg_n ⟨rfl, rg_q c19⟩)) tCd_A rfl
    · rename_i c19
      have g2 : inR y 1 40 := rg_p c19
      obtain ⟨j, hj1, hj2, rfl⟩ := inR_of (a := 1) (n := 40) rfl rfl (by decide) (by decide) g2
      refine k_iconst B (v := 0) dX10_rock_22 (by decide) ?_
      refine k_goto B 27 dX10_rock_23 (by decide) ?_
      refine cl_X10_107 B (c_X10_can hl h.m) h.o dX10_rock_27 (by first | exact Nat.le_of_ble_eq_true rfl | omega | (simp only [kR, Value.category, kCat_q, List.map, List.sum_cons, List.sum_nil]; omega)) (by first | exact Nat.le_of_ble_eq_true rfl | omega | (simp only [kR, Value.category, kCat_q, List.map, List.sum_cons, List.sum_nil]; omega)) (by first | exact Nat.le_of_ble_eq_true rfl | omega | (simp only [kR, Value.category, kCat_q, List.map, List.sum_cons, List.sum_nil]; omega)) (by first | exact Nat.le_of_ble_eq_true rfl | omega | (simp only [kR, Value.category, kCat_q, List.map, List.sum_cons, List.sum_nil]; omega)) (by first | exact Nat.le_of_ble_eq_true rfl | omega | (simp only [kR, Value.category, kCat_q, List.map, List.sum_cons, List.sum_nil]; omega)) (fun _ hx => hx.elim) (fun v27 s27 hp27 => ?_)
      obtain ⟨rfl, e27⟩ := hp27
      rw [e27]
      refine k_if_ne B 35 dX10_rock_30 (by decide) (fun _ => ?_) (fun c30 => absurd c30 (by decide))
      have h1 := h.can 0
      have fh1 : kOut (mOwn aM ma) σ (kUp σ aM (m10E ma (setT (qZ z kn t) 0))) := kOut.up mOwn.o
      obtain ⟨k1, k2, k3, k4, k5, k6⟩ := h.K i hi
      refine k_aload_n B dX10_rock_35 rfl (by first | exact kRf_r _ | exact kRf_q _ | exact kRf_n) ?_
      refine gf_X10_7 B dX10_rock_36 h1.o rfl ?_
      refine k_iload_n B dX10_rock_39 rfl ?_
      refine k_iald B dX10_rock_40 (h1.i (k := 1) rfl (by decide)) (vp_in_nI hi (by decide)) ?_
      refine k_istore_n B dX10_rock_41 (by decide) ?_
      try refine kK.set1 (by first | exact True.intro | rfl | exact kCat_q _) ?_
      refine k_aload_n B dX10_rock_42 rfl (by first | exact kRf_r _ | exact kRf_q _ | exact kRf_n) ?_
      refine gf_X10_7 B dX10_rock_43 h1.o rfl ?_
      refine k_iload_n B dX10_rock_46 rfl ?_
      refine k_iload_n B dX10_rock_47 rfl ?_
      refine k_iast B dX10_rock_48 (h1.i (k := 1) rfl (by decide)) (vp_in_nI hi (by decide)) ?_
      refine k_iload_n B dX10_rock_49 rfl ?_
      refine k_iret B hr dX10_rock_50 ?_ (by first | exact Nat.le_of_ble_eq_true rfl | omega | (simp only [kR, Value.category, kCat_q, List.map, List.sum_cons, List.sum_nil]; omega)) (by first | exact Nat.le_of_ble_eq_true rfl | omega | (simp only [kR, Value.category, kCat_q, List.map, List.sum_cons, List.sum_nil]; omega))
      refine mPo.ok ((gCell_p g1).trans (gRg_p g2)) (by rw [rRock, cN_nI (by omega), nI_clamp (by omega), k1]) ?_ (fh1.tr (kOut.up (mOwn.a rfl)))
      rw [nRock, cN_nI (by omega), cN_nI (by omega)]
      exact ⟨_, _, _, h1.cell (h1.m.s (k := 1) rfl (by decide) (i := i) (by omega) _) (mS_c (by decide)) ⟨mS_eq, (mS_k (by decide)).trans k2, (mS_k (by decide)).trans k3, (mS_k (by decide)).trans k4, (mS_k (by decide)).trans k5, (mS_k (by decide)).trans k6⟩⟩
  · rename_i c5
    refine k_iconst B (v := 1) dX10_rock_8 (by decide) ?_
    refine k_goto B 27 dX10_rock_9 (by decide) ?_
    refine cl_X10_107 B (c_X10_can hl h.m) h.o dX10_rock_27 (by first | exact Nat.le_of_ble_eq_true rfl | omega | (simp only [kR, Value.category, kCat_q, List.map, List.sum_cons, List.sum_nil]; omega)) (by first | exact Nat.le_of_ble_eq_true rfl | omega | (simp only [kR, Value.category, kCat_q, List.map, List.sum_cons, List.sum_nil]; omega)) (by first | exact Nat.le_of_ble_eq_true rfl | omega | (simp only [kR, Value.category, kCat_q, List.map, List.sum_cons, List.sum_nil]; omega)) (by first | exact Nat.le_of_ble_eq_true rfl | omega | (simp only [kR, Value.category, kCat_q, List.map, List.sum_cons, List.sum_nil]; omega)) (by first | exact Nat.le_of_ble_eq_true rfl | omega | (simp only [kR, Value.category, kCat_q, List.map, List.sum_cons, List.sum_nil]; omega)) (fun _ hx => hx.elim) (fun v27 s27 hp27 => ?_)
    obtain ⟨rfl, e27⟩ := hp27
    rw [e27]
    refine k_if_ne B 35 dX10_rock_30 (by decide) (fun c30 => absurd (by decide) c30) (fun _ => ?_)
    refine k_iconst B (v := 0) dX10_rock_33 (by decide) ?_
    refine k_iret B hr dX10_rock_34 ?_ (by first | exact Nat.le_of_ble_eq_true rfl | omega | (simp only [kR, Value.category, kCat_q, List.map, List.sum_cons, List.sum_nil]; omega)) (by first | exact Nat.le_of_ble_eq_true rfl | omega | (simp only [kR, Value.category, kCat_q, List.map, List.sum_cons, List.sum_nil]; omega))
    exact mPo.no h (gCell_n ⟨rfl, no10 (bI_q c5)⟩) tCd_I rfl
end Ref11
