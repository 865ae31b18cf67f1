section Ref13
variable {l : Launch} {D : va_G} {σ : kS} {aM : Nat} {ma : Nat → Nat} {z : kSt} {t : Int32}
set_option maxRecDepth 100000 in
theorem c_X10_spill (hl : l.stackTraces = false) (hs : sOk z) (h : cl10 D aM ma z t σ) {c9 y : Int32} : kMh hX10_spill l D yX10_spill 4 0 0 [.ref aM, .int c9, .int y] σ (mPo D aM ma z (gSpill z c9 y) (some (.int (rSpill z c9 y))) (nSpill z c9 y) (tCd 1 2 2) σ) (fun _ => False) := by
  refine kM_of (L := [some (.ref aM), some (.int c9), some (.int y), none]) (by decide +kernel) hl (List.forall_mem_cons.mpr ⟨rfl, (List.forall_mem_cons.mpr ⟨rfl, (List.forall_mem_cons.mpr ⟨rfl, (fun _ h => absurd h List.not_mem_nil)⟩)⟩)⟩) (Nat.le_of_ble_eq_true rfl) rfl ?_
  intro p e s m args below meth c B hr hex hnm
  have B : kB p l s m args meth c D (kA σ s.heap.size) 4 cX10_spill RX10 := B
  obtain ⟨mv, kn, Lk, h⟩ := h
  have bad : gSpill z c9 y = some eI → kK p l e (kR 4 0 0) s m args below meth c D (kA σ s.heap.size) 4 (kQ below args s D σ (mPo D aM ma z (gSpill z c9 y) (some (.int (rSpill z c9 y))) (nSpill z c9 y) (tCd 1 2 2) σ) (fun _ => False) 0 0) σ 0 0 18 [some (.ref aM), some (.int c9), some (.int y), none] [] := by
    intro gg
    refine k_iconst B (v := 0) dX10_spill_18 (by decide) ?_
    refine k_istore_n B dX10_spill_19 (by decide) ?_
    try refine kK.set1 (by first | exact True.intro | rfl | exact kCat_q _) ?_
    refine k_aload_n B dX10_spill_20 rfl (by first | exact kRf_r _ | exact kRf_q _ | exact kRf_n) ?_
    refine k_iload_n B dX10_spill_21 rfl ?_
    refine k_if_ne B 29 dX10_spill_22 (by decide) (fun c22 => ?_) (fun c22 => ?_)
    · exact absurd rfl c22
    · refine k_iconst B (v := 1) dX10_spill_25 (by decide) ?_
      refine k_goto B 43 dX10_spill_26 (by decide) ?_
      refine cl_X10_107 B (c_X10_can hl h.m) h.o dX10_spill_43 (by first | exact Nat.le_of_ble_eq_true rfl | omega | (simp only [kR, Value.category, kCat_q, List.map, List.sum_cons, List.sum_nil]; omega)) (by first | exact Nat.le_of_ble_eq_true rfl | omega | (simp only [kR, Value.category, kCat_q, List.map, List.sum_cons, List.sum_nil]; omega)) (by first | exact Nat.le_of_ble_eq_true rfl | omega | (simp only [kR, Value.category, kCat_q, List.map, List.sum_cons, List.sum_nil]; omega)) (by first | exact Nat.le_of_ble_eq_true rfl | omega | (simp only [kR, Value.category, kCat_q, List.map, List.sum_cons, List.sum_nil]; omega)) (by first | exact Nat.le_of_ble_eq_true rfl | omega | (simp only [kR, Value.category, kCat_q, List.map, List.sum_cons, List.sum_nil]; omega)) (fun _ hx => hx.elim) (fun v43 s43 hp43 => ?_)
      obtain ⟨rfl, e43⟩ := hp43
      rw [e43]
      refine k_if_ne B 51 dX10_spill_46 (by decide) (fun c46 => absurd (by decide) c46) (fun _ => ?_)
      refine k_iconst B (v := 0) dX10_spill_49 (by decide) ?_
      refine k_iret B hr dX10_spill_50 ?_ (by first | exact Nat.le_of_ble_eq_true rfl | omega | (simp only [kR, Value.category, kCat_q, List.map, List.sum_cons, List.sum_nil]; omega)) (by first | exact Nat.le_of_ble_eq_true rfl | omega | (simp only [kR, Value.category, kCat_q, List.map, List.sum_cons, List.sum_nil]; omega))
      exact mPo.no h (gg) tCd_I rfl
  refine k_iload_n B dX10_spill_0 rfl ?_
  refine cl_X10_103 B (c_X10_isCell hl) dX10_spill_1 (by first | exact Nat.le_of_ble_eq_true rfl | omega | (simp only [kR, Value.category, kCat_q, List.map, List.sum_cons, List.sum_nil]; omega)) (by first | exact Nat.le_of_ble_eq_true rfl | omega | (simp only [kR, Value.category, kCat_q, List.map, List.sum_cons, List.sum_nil]; omega)) (by first | exact Nat.le_of_ble_eq_true rfl | omega | (simp only [kR, Value.category, kCat_q, List.map, List.sum_cons, List.sum_nil]; omega)) (by first | exact Nat.le_of_ble_eq_true rfl | omega | (simp only [kR, Value.category, kCat_q, List.map, List.sum_cons, List.sum_nil]; omega)) (by first | exact Nat.le_of_ble_eq_true rfl | omega | (simp only [kR, Value.category, kCat_q, List.map, List.sum_cons, List.sum_nil]; omega)) (fun _ hx => hx.elim) (fun v1 s1 hp1 => ?_)
  obtain ⟨rfl, e1⟩ := hp1
  rw [e1]
  refine k_if_eq B 18 dX10_spill_4 (by decide) (fun c4 => ?_) (fun c4 => ?_)
  · rename_i c4
    exact bad (gCell_n ⟨rfl, no10 (bI_q c4)⟩)
  · rename_i c4
    obtain ⟨i, hi, rfl⟩ := i9_10 (bI_p c4)
    have g1 := nI_10 hi
    obtain ⟨k1, k2, k3, k4, k5, k6⟩ := h.K i hi
    refine k_iload_n B dX10_spill_7 rfl ?_
    refine cl_X10_110 B (c_X10_isCompound hl) dX10_spill_8 (by first | exact Nat.le_of_ble_eq_true rfl | omega | (simp only [kR, Value.category, kCat_q, List.map, List.sum_cons, List.sum_nil]; omega)) (by first | exact Nat.le_of_ble_eq_true rfl | omega | (simp only [kR, Value.category, kCat_q, List.map, List.sum_cons, List.sum_nil]; omega)) (by first | exact Nat.le_of_ble_eq_true rfl | omega | (simp only [kR, Value.category, kCat_q, List.map, List.sum_cons, List.sum_nil]; omega)) (by first | exact Nat.le_of_ble_eq_true rfl | omega | (simp only [kR, Value.category, kCat_q, List.map, List.sum_cons, List.sum_nil]; omega)) (by first | exact Nat.le_of_ble_eq_true rfl | omega | (simp only [kR, Value.category, kCat_q, List.map, List.sum_cons, List.sum_nil]; omega)) (fun _ hx => hx.elim) (fun v8 s8 hp8 => ?_)
    obtain ⟨rfl, e8⟩ := hp8
    rw [e8]
    refine k_if_eq B 18 dX10_spill_11 (by decide) (fun c11 => ?_) (fun c11 => ?_)
    · rename_i c11
      exact bad ((gCell_p g1).trans (gIx_n ⟨rfl, in_n (n := 8) (by decide) rfl (bI_q c11)⟩))
    · rename_i c11
      obtain ⟨j, hj, ej, g2⟩ := in_p (n := 8) (by decide) rfl (bI_p c11)
      have gg : gSpill z (nI i) y = gSt (decide (¬ trvI z (nI i) ≤ 5)) := by rw [gSpill, gCell_p g1]; exact gIx_p g2
      have ht : trvI z (nI i) = nI (trvF (sK z) (i + 1) i) := by rw [trvI, cN_nI (by omega)]
      refine k_iconst B (v := 1) dX10_spill_14 (by decide) ?_
      refine k_goto B 19 dX10_spill_15 (by decide) ?_
      refine k_istore_n B dX10_spill_19 (by decide) ?_
      try refine kK.set1 (by first | exact True.intro | rfl | exact kCat_q _) ?_
      refine k_aload_n B dX10_spill_20 rfl (by first | exact kRf_r _ | exact kRf_q _ | exact kRf_n) ?_
      refine k_iload_n B dX10_spill_21 rfl ?_
      refine k_if_ne B 29 dX10_spill_22 (by decide) (fun c22 => ?_) (fun c22 => ?_)
      · refine k_aload_n B dX10_spill_29 rfl (by first | exact kRf_r _ | exact kRf_q _ | exact kRf_n) ?_
        refine k_iload_n B dX10_spill_30 rfl ?_
        refine cl_X10_113 B (c_X10_travel hl h.m h.K (fun a d ha hd => (hs.2.1 a ha).1 d hd) hi) h.o dX10_spill_31 (by first | exact Nat.le_of_ble_eq_true rfl | omega | (simp only [kR, Value.category, kCat_q, List.map, List.sum_cons, List.sum_nil]; omega)) (by first | exact Nat.le_of_ble_eq_true rfl | omega | (simp only [kR, Value.category, kCat_q, List.map, List.sum_cons, List.sum_nil]; omega)) (by first | exact Nat.le_of_ble_eq_true rfl | omega | (simp only [kR, Value.category, kCat_q, List.map, List.sum_cons, List.sum_nil]; omega)) (by first | exact Nat.le_of_ble_eq_true rfl | omega | (simp only [kR, Value.category, kCat_q, List.map, List.sum_cons, List.sum_nil]; omega)) (by first | exact Nat.le_of_ble_eq_true rfl | omega | (simp only [kR, Value.category, kCat_q, List.map, List.sum_cons, List.sum_nil]; omega)) (fun _ hx => hx.elim) (fun v31 s31 hp31 => ?_)
        obtain ⟨rfl, e31⟩ := hp31
        rw [e31]
        refine kK.rev (y := .int (nI (trvF (sK z) (i + 1) i))) rfl ?_
        refine k_iconst B (v := 5) dX10_spill_34 (by decide) ?_
        refine k_icmp_gt B 42 dX10_spill_35 (by decide) (fun c35 => ?_) (fun c35 => ?_)
        · rename_i c35
          have hn : ¬ trvI z (nI i) ≤ 5 := by rw [ht]; exact i32_lt_nle c35
          refine k_iconst B (v := 0) dX10_spill_42 (by decide) ?_
          refine cl_X10_107 B (c_X10_can hl h.m) h.o dX10_spill_43 (by first | exact Nat.le_of_ble_eq_true rfl | omega | (simp only [kR, Value.category, kCat_q, List.map, List.sum_cons, List.sum_nil]; omega)) (by first | exact Nat.le_of_ble_eq_true rfl | omega | (simp only [kR, Value.category, kCat_q, List.map, List.sum_cons, List.sum_nil]; omega)) (by first | exact Nat.le_of_ble_eq_true rfl | omega | (simp only [kR, Value.category, kCat_q, List.map, List.sum_cons, List.sum_nil]; omega)) (by first | exact Nat.le_of_ble_eq_true rfl | omega | (simp only [kR, Value.category, kCat_q, List.map, List.sum_cons, List.sum_nil]; omega)) (by first | exact Nat.le_of_ble_eq_true rfl | omega | (simp only [kR, Value.category, kCat_q, List.map, List.sum_cons, List.sum_nil]; omega)) (fun _ hx => hx.elim) (fun v43 s43 hp43 => ?_)
          obtain ⟨rfl, e43⟩ := hp43
          rw [e43]
          refine k_if_ne B 51 dX10_spill_46 (by decide) (fun _ => ?_) (fun c46 => absurd c46 (by decide))
          have h1 := h.can 0
          have fh1 : kOut (mOwn aM ma) σ (kUp σ aM (m10E ma (setT (qZ z kn t) 0))) := kOut.up mOwn.o
          refine k_aload_n B dX10_spill_51 rfl (by first | exact kRf_r _ | exact kRf_q _ | exact kRf_n) ?_
          refine gf_X10_19 B dX10_spill_52 h1.o rfl ?_
          refine k_iload_n B dX10_spill_55 rfl ?_
          refine k_dup2 B dX10_spill_56 rfl rfl ?_
          refine k_iald B dX10_spill_57 (h1.i (k := 4) rfl (by decide)) (vp_in_nI hi (by decide)) ?_
          refine k_iconst B (v := 1) dX10_spill_58 (by decide) ?_
          refine k_iload_n B dX10_spill_59 rfl ?_
          refine k_ishl B dX10_spill_60 ?_
          refine k_ior B dX10_spill_61 ?_
          refine k_iast B dX10_spill_62 (h1.i (k := 4) rfl (by decide)) (vp_in_nI hi (by decide)) ?_
          refine k_aload_n B dX10_spill_63 rfl (by first | exact kRf_r _ | exact kRf_q _ | exact kRf_n) ?_
          refine gf_X10_19 B dX10_spill_64 (h1.m.s (k := 4) rfl (by decide) (i := i) (by omega) _).o rfl ?_
          refine k_iload_n B dX10_spill_67 rfl ?_
          refine k_iald B dX10_spill_68 ((h1.m.s (k := 4) rfl (by decide) (i := i) (by omega) _).i (k := 4) rfl (by decide)) (vp_in_nI hi (by decide)) ?_
          refine k_iret B hr dX10_spill_69 ?_ (by first | exact Nat.le_of_ble_eq_true rfl | omega | (simp only [kR, Value.category, kCat_q, List.map, List.sum_cons, List.sum_nil]; omega)) (by first | exact Nat.le_of_ble_eq_true rfl | omega | (simp only [kR, Value.category, kCat_q, List.map, List.sum_cons, List.sum_nil]; omega))
          have e9 : mv 4 (nI i).toNatClampNeg ||| 1 <<< (y &&& 31) = rSpill z (nI i) y := by rw [rSpill, cN_nI (by omega), nI_clamp (by omega), k4]; rfl
          refine mPo.ok (gg.trans (gSt_t (decide_eq_true hn))) (by rw [nI_clamp (by omega), mS_eq, ← e9]; rw [nI_clamp (by omega)]) ?_ (fh1.tr (kOut.up (mOwn.a rfl)))
          rw [nSpill, cN_nI (by omega)]
          exact ⟨_, _, _, h1.cell (h1.m.s (k := 4) rfl (by decide) (i := i) (by omega) _) (mS_c (by decide)) ⟨(mS_k (by decide)).trans k1, (mS_k (by decide)).trans k2, (mS_k (by decide)).trans k3, mS_eq.trans e9, (mS_k (by decide)).trans k5, (mS_k (by decide)).trans k6⟩⟩
        · rename_i c35
          have hn : trvI z (nI i) ≤ 5 := by rw [ht]; exact i32_nlt c35
          refine k_iconst B (v := 2) dX10_spill_38 (by decide) ?_
          refine k_goto B 43 dX10_spill_39 (by decide) ?_
          refine cl_X10_107 B (c_X10_can hl h.m) h.o dX10_spill_43 (by first | exact Nat.le_of_ble_eq_true rfl | omega | (simp only [kR, Value.category, kCat_q, List.map, List.sum_cons, List.sum_nil]; omega)) (by first | exact Nat.le_of_ble_eq_true rfl | omega | (simp only [kR, Value.category, kCat_q, List.map, List.sum_cons, List.sum_nil]; omega)) (by first | exact Nat.le_of_ble_eq_true rfl | omega | (simp only [kR, Value.category, kCat_q, List.map, List.sum_cons, List.sum_nil]; omega)) (by first | exact Nat.le_of_ble_eq_true rfl | omega | (simp only [kR, Value.category, kCat_q, List.map, List.sum_cons, List.sum_nil]; omega)) (by first | exact Nat.le_of_ble_eq_true rfl | omega | (simp only [kR, Value.category, kCat_q, List.map, List.sum_cons, List.sum_nil]; omega)) (fun _ hx => hx.elim) (fun v43 s43 hp43 => ?_)
          obtain ⟨rfl, e43⟩ := hp43
          rw [e43]
          refine k_if_ne B 51 dX10_spill_46 (by decide) (fun c46 => absurd (by decide) c46) (fun _ => ?_)
          refine k_iconst B (v := 0) dX10_spill_49 (by decide) ?_
          refine k_iret B hr dX10_spill_50 ?_ (by first | exact Nat.le_of_ble_eq_true rfl | omega | (simp only [kR, Value.category, kCat_q, List.map, List.sum_cons, List.sum_nil]; omega)) (by first | exact Nat.le_of_ble_eq_true rfl | omega | (simp only [kR, Value.category, kCat_q, List.map, List.sum_cons, List.sum_nil]; omega))
          exact mPo.no h (gg.trans (gSt_f (decide_eq_false (fun q => q hn)) rfl)) tCd_S rfl
      · exact absurd c22 (by decide)
set_option maxRecDepth 100000 in
theorem c_X10_contract (hl : l.stackTraces = false) (hs : sOk z) (h : cl10 D aM ma z t σ) {c9 y w : Int32} : kMh hX10_contract l D yX10_contract 4 0 0 [.ref aM, .int c9, .int y, .int w] σ (mPo D aM ma z (gContract z c9 y w) none (nContract z c9 y w) (tCd 1 2 3) σ) (fun _ => False) := by
  refine kM_of (L := [some (.ref aM), some (.int c9), some (.int y), some (.int w), none, none]) (by decide +kernel) hl (List.forall_mem_cons.mpr ⟨rfl, (List.forall_mem_cons.mpr ⟨rfl, (List.forall_mem_cons.mpr ⟨rfl, (List.forall_mem_cons.mpr ⟨rfl, (fun _ h => absurd h List.not_mem_nil)⟩)⟩)⟩)⟩) (Nat.le_of_ble_eq_true rfl) rfl ?_
  intro p e s m args below meth c B hr hex hnm
  have B : kB p l s m args meth c D (kA σ s.heap.size) 6 cX10_contract RX10 := B
  obtain ⟨mv, kn, Lk, h⟩ := h
  refine k_iload_n B dX10_contract_0 rfl ?_
  refine cl_X10_103 B (c_X10_isCell hl) dX10_contract_1 (by first | exact Nat.le_of_ble_eq_true rfl | omega | (simp only [kR, Value.category, kCat_q, List.map, List.sum_cons, List.sum_nil]; omega)) (by first | exact Nat.le_of_ble_eq_true rfl | omega | (simp only [kR, Value.category, kCat_q, List.map, List.sum_cons, List.sum_nil]; omega)) (by first | exact Nat.le_of_ble_eq_true rfl | omega | (simp only [kR, Value.category, kCat_q, List.map, List.sum_cons, List.sum_nil]; omega)) (by first | exact Nat.le_of_ble_eq_true rfl | omega | (simp only [kR, Value.category, kCat_q, List.map, List.sum_cons, List.sum_nil]; omega)) (by first | exact Nat.le_of_ble_eq_true rfl | omega | (simp only [kR, Value.category, kCat_q, List.map, List.sum_cons, List.sum_nil]; omega)) (fun _ hx => hx.elim) (fun v1 s1 hp1 => ?_)
  obtain ⟨rfl, e1⟩ := hp1
  rw [e1]
  have tail : ∀ b : Bool, b = (decide (1 ≤ y ∧ y ≤ 30) && decide (0 ≤ w ∧ w ≤ 1000)) → kK p l e (kR 4 0 0) s m args below meth c D (kA σ s.heap.size) 6 (kQ below args s D σ (mPo D aM ma z (gContract z c9 y w) none (nContract z c9 y w) (tCd 1 2 3) σ) (fun _ => False) 0 0) σ 0 0 32 [some (.ref aM), some (.int c9), some (.int y), some (.int w), some (.int (bI (decide (0 ≤ c9 ∧ c9 ≤ 9)))), none] [.int (bI b)] := by
    intro b hb
    refine k_istore B dX10_contract_32 (by decide) ?_
    try refine kK.set1 (by first | exact True.intro | rfl | exact kCat_q _) ?_
    refine k_aload_n B dX10_contract_34 rfl (by first | exact kRf_r _ | exact kRf_q _ | exact kRf_n) ?_
    refine k_iload B dX10_contract_35 rfl ?_
    refine k_if_ne B 44 dX10_contract_37 (by decide) (fun c37 => ?_) (fun c37 => ?_)
    · rename_i c37
      obtain ⟨i, hi, rfl⟩ := i9_10 (bI_p c37)
      have g1 := nI_10 hi
      obtain ⟨k1, k2, k3, k4, k5, k6⟩ := h.K i hi
      have hk := hs.2.1 i hi
      refine k_iload B dX10_contract_44 rfl ?_
      refine k_if_ne B 53 dX10_contract_46 (by decide) (fun c46 => ?_) (fun c46 => ?_)
      · rename_i c46
        have hb2 : b = true := by cases b with
          | true => rfl
          | false => exact absurd rfl c46
        rw [hb2] at hb
        have g2 : inR y 1 30 := of_decide_eq_true (p := 1 ≤ y ∧ y ≤ 30) (Bool.and_eq_true_iff.mp hb.symm).1
        have g3 : inR w 0 1000 := of_decide_eq_true (p := 0 ≤ w ∧ w ≤ 1000) (Bool.and_eq_true_iff.mp hb.symm).2
        obtain ⟨j, hj1, hj2, ej⟩ := inR_of (a := 1) (n := 30) rfl rfl (by decide) (by decide) g2
        obtain ⟨j2, hj3, hj4, ej2⟩ := inR_of (a := 0) (n := 1000) rfl rfl (by decide) (by decide) g3
        have gg : gContract z (nI i) y w = gSt (decide ((sK z i).2.2.1 = 2) && decide ((sK z i).2.2.2.1 = 0)) := by
          rw [gContract, gCell_p g1, gRg_p g2, gRg_p g3, cN_nI (by omega)]
        refine k_aload_n B dX10_contract_53 rfl (by first | exact kRf_r _ | exact kRf_q _ | exact kRf_n) ?_
        refine gf_X10_13 B dX10_contract_54 h.o rfl ?_
        refine k_iload_n B dX10_contract_57 rfl ?_
        refine k_iald B dX10_contract_58 (h.i (k := 2) rfl (by decide)) (vp_in_nI hi (by decide)) ?_
        refine k_iconst B (v := 2) dX10_contract_59 (by decide) ?_
        refine k_icmp_ne B 72 dX10_contract_60 (by decide) (fun c60 => ?_) (fun c60 => ?_)
        · rename_i c60
          have hne : ¬ (sK z i).2.2.1 = 2 := fun q => c60 (by rw [nI_clamp (by omega), k2, q]; rfl)
          refine k_iconst B (v := 3) dX10_contract_72 (by decide) ?_
          refine k_goto B 77 dX10_contract_73 (by decide) ?_
          refine cl_X10_107 B (c_X10_can hl h.m) h.o dX10_contract_77 (by first | exact Nat.le_of_ble_eq_true rfl | omega | (simp only [kR, Value.category, kCat_q, List.map, List.sum_cons, List.sum_nil]; omega)) (by first | exact Nat.le_of_ble_eq_true rfl | omega | (simp only [kR, Value.category, kCat_q, List.map, List.sum_cons, List.sum_nil]; omega)) (by first | exact Nat.le_of_ble_eq_true rfl | omega | (simp only [kR, Value.category, kCat_q, List.map, List.sum_cons, List.sum_nil]; omega)) (by first | exact Nat.le_of_ble_eq_true rfl | omega | (simp only [kR, Value.category, kCat_q, List.map, List.sum_cons, List.sum_nil]; omega)) (by first | exact Nat.le_of_ble_eq_true rfl | omega | (simp only [kR, Value.category, kCat_q, List.map, List.sum_cons, List.sum_nil]; omega)) (fun _ hx => hx.elim) (fun v77 s77 hp77 => ?_)
          obtain ⟨rfl, e77⟩ := hp77
          rw [e77]
          refine k_if_eq B 97 dX10_contract_80 (by decide) (fun _ => ?_) (fun c80 => absurd (by decide) c80)
          refine k_vret B hr dX10_contract_97 ?_ (by first | exact Nat.le_of_ble_eq_true rfl | omega | (simp only [kR, Value.category, kCat_q, List.map, List.sum_cons, List.sum_nil]; omega)) (by first | exact Nat.le_of_ble_eq_true rfl | omega | (simp only [kR, Value.category, kCat_q, List.map, List.sum_cons, List.sum_nil]; omega))
          exact mPo.no h (gg.trans (gSt_f (by rw [decide_eq_false hne]; rfl) rfl)) tCd_S rfl
        · rename_i c60
          rw [nI_clamp (by omega), k2] at c60
          have he : (sK z i).2.2.1 = 2 := (nI_eq (by have := hk.2.2.2.1; omega) (by decide)).mp c60
          refine k_aload_n B dX10_contract_63 rfl (by first | exact kRf_r _ | exact kRf_q _ | exact kRf_n) ?_
          refine gf_X10_22 B dX10_contract_64 h.o rfl ?_
          refine k_iload_n B dX10_contract_67 rfl ?_
          refine k_iald B dX10_contract_68 (h.i (k := 5) rfl (by decide)) (vp_in_nI hi (by decide)) ?_
          refine k_if_le B 76 dX10_contract_69 (by decide) (fun c69 => ?_) (fun c69 => ?_)
          · rename_i c69
            rw [nI_clamp (by omega), k5] at c69
            have he2 : (sK z i).2.2.2.1 = 0 := nI_le0 (by have := hk.2.2.2.2.1; omega) c69
            refine k_iconst B (v := 0) dX10_contract_76 (by decide) ?_
            refine cl_X10_107 B (c_X10_can hl h.m) h.o dX10_contract_77 (by first | exact Nat.le_of_ble_eq_true rfl | omega | (simp only [kR, Value.category, kCat_q, List.map, List.sum_cons, List.sum_nil]; omega)) (by first | exact Nat.le_of_ble_eq_true rfl | omega | (simp only [kR, Value.category, kCat_q, List.map, List.sum_cons, List.sum_nil]; omega)) (by first | exact Nat.le_of_ble_eq_true rfl | omega | (simp only [kR, Value.category, kCat_q, List.map, List.sum_cons, List.sum_nil]; omega)) (by first | exact Nat.le_of_ble_eq_true rfl | omega | (simp only [kR, Value.category, kCat_q, List.map, List.sum_cons, List.sum_nil]; omega)) (by first | exact Nat.le_of_ble_eq_true rfl | omega | (simp only [kR, Value.category, kCat_q, List.map, List.sum_cons, List.sum_nil]; omega)) (fun _ hx => hx.elim) (fun v77 s77 hp77 => ?_)
            obtain ⟨rfl, e77⟩ := hp77
            rw [e77]
            refine k_if_eq B 97 dX10_contract_80 (by decide) (fun c80 => absurd c80 (by decide)) (fun _ => ?_)
            have h1 := h.can 0
            have fh1 : kOut (mOwn aM ma) σ (kUp σ aM (m10E ma (setT (qZ z kn t) 0))) := kOut.up mOwn.o
            refine k_aload_n B dX10_contract_83 rfl (by first | exact kRf_r _ | exact kRf_q _ | exact kRf_n) ?_
            refine gf_X10_22 B dX10_contract_84 h1.o rfl ?_
            refine k_iload_n B dX10_contract_87 rfl ?_
            refine k_iload_n B dX10_contract_88 rfl ?_
            refine k_iast B dX10_contract_89 (h1.i (k := 5) rfl (by decide)) (vp_in_nI hi (by decide)) ?_
            refine k_aload_n B dX10_contract_90 rfl (by first | exact kRf_r _ | exact kRf_q _ | exact kRf_n) ?_
            refine gf_X10_25 B dX10_contract_91 (h1.m.s (k := 5) rfl (by decide) (i := i) (by omega) _).o rfl ?_
            refine k_iload_n B dX10_contract_94 rfl ?_
            refine k_iload_n B dX10_contract_95 rfl ?_
            refine k_iast B dX10_contract_96 ((h1.m.s (k := 5) rfl (by decide) (i := i) (by omega) _).i (k := 6) rfl (by decide)) (vp_in_nI hi (by decide)) ?_
            refine k_vret B hr dX10_contract_97 ?_ (by first | exact Nat.le_of_ble_eq_true rfl | omega | (simp only [kR, Value.category, kCat_q, List.map, List.sum_cons, List.sum_nil]; omega)) (by first | exact Nat.le_of_ble_eq_true rfl | omega | (simp only [kR, Value.category, kCat_q, List.map, List.sum_cons, List.sum_nil]; omega))
            refine mPo.ok (gg.trans (gSt_t (by rw [decide_eq_true he, decide_eq_true he2]; rfl))) rfl ?_ ((fh1.tr (kOut.up (mOwn.a rfl))).tr (kOut.up (mOwn.a rfl)))
            rw [nContract, cN_nI (by omega), ej, ej2, cN_nI (by omega), cN_nI (by omega)]
            exact ⟨_, _, _, h1.cell ((h1.m.s (k := 5) rfl (by decide) (i := i) (by omega) _).s (k := 6) rfl (by decide) (i := i) (by omega) _) (fun a b q => (mS_c (lo := 1) (hi := 6) (by decide) a b q).trans (mS_c (by decide) a b q)) ⟨(mS_k (by decide)).trans ((mS_k (by decide)).trans k1), (mS_k (by decide)).trans ((mS_k (by decide)).trans k2), (mS_k (by decide)).trans ((mS_k (by decide)).trans k3), (mS_k (by decide)).trans ((mS_k (by decide)).trans k4), (mS_k (by decide)).trans mS_eq, mS_eq⟩⟩
          · rename_i c69
            rw [nI_clamp (by omega), k5] at c69
            have hne : ¬ (sK z i).2.2.2.1 = 0 := fun q => c69 (by rw [q, nI_0]; exact Int32.le_refl _)
            refine k_iconst B (v := 3) dX10_contract_72 (by decide) ?_
            refine k_goto B 77 dX10_contract_73 (by decide) ?_
            refine cl_X10_107 B (c_X10_can hl h.m) h.o dX10_contract_77 (by first | exact Nat.le_of_ble_eq_true rfl | omega | (simp only [kR, Value.category, kCat_q, List.map, List.sum_cons, List.sum_nil]; omega)) (by first | exact Nat.le_of_ble_eq_true rfl | omega | (simp only [kR, Value.category, kCat_q, List.map, List.sum_cons, List.sum_nil]; omega)) (by first | exact Nat.le_of_ble_eq_true rfl | omega | (simp only [kR, Value.category, kCat_q, List.map, List.sum_cons, List.sum_nil]; omega)) (by first | exact Nat.le_of_ble_eq_true rfl | omega | (simp only [kR, Value.category, kCat_q, List.map, List.sum_cons, List.sum_nil]; omega)) (by first | exact Nat.le_of_ble_eq_true rfl | omega | (simp only [kR, Value.category, kCat_q, List.map, List.sum_cons, List.sum_nil]; omega)) (fun _ hx => hx.elim) (fun v77 s77 hp77 => ?_)
            obtain ⟨rfl, e77⟩ := hp77
            rw [e77]
            refine k_if_eq B 97 dX10_contract_80 (by decide) (fun _ => ?_) (fun c80 => absurd (by decide) c80)
            refine k_vret B hr dX10_contract_97 ?_ (by first | exact Nat.le_of_ble_eq_true rfl | omega | (simp only [kR, Value.category, kCat_q, List.map, List.sum_cons, List.sum_nil]; omega)) (by first | exact Nat.le_of_ble_eq_true rfl | omega | (simp only [kR, Value.category, kCat_q, List.map, List.sum_cons, List.sum_nil]; omega))
            exact mPo.no h (gg.trans (gSt_f (by rw [decide_eq_false hne, Bool.and_false]) rfl)) tCd_S rfl
      · rename_i c46
        have hb2 : b = false := by cases b with
          | true => exact absurd c46 (by decide)
          | false => rfl
        rw [hb2] at hb
        have gg : gContract z (nI i) y w = some eA := by
          rw [gContract, gCell_p g1]
          by_cases g2 : inR y 1 30
          · have g2' : (1 : Int32) ≤ y ∧ y ≤ 30 := g2
            rw [gRg_p g2]
            refine gRg_n ⟨rfl, fun g3 => ?_⟩
            have g3' : (0 : Int32) ≤ w ∧ w ≤ 1000 := g3
            rw [decide_eq_true g2', decide_eq_true g3'] at hb
            exact absurd hb (by decide)
          · exact gRg_n ⟨rfl, g2⟩
        refine k_iconst B (v := 2) dX10_contract_49 (by decide) ?_
        refine k_goto B 77 dX10_contract_50 (by decide) ?_
        refine cl_X10_107 B (c_X10_can hl h.m) h.o dX10_contract_77 (by first | exact Nat.le_of_ble_eq_true rfl | omega | (simp only [kR, Value.category, kCat_q, List.map, List.sum_cons, List.sum_nil]; omega)) (by first | exact Nat.le_of_ble_eq_true rfl | omega | (simp only [kR, Value.category, kCat_q, List.map, List.sum_cons, List.sum_nil]; omega)) (by first | exact Nat.le_of_ble_eq_true rfl | omega | (simp only [kR, Value.category, kCat_q, List.map, List.sum_cons, List.sum_nil]; omega)) (by first | exact Nat.le_of_ble_eq_true rfl | omega | (simp only [kR, Value.category, kCat_q, List.map, List.sum_cons, List.sum_nil]; omega)) (by first | exact Nat.le_of_ble_eq_true rfl | omega | (simp only [kR, Value.category, kCat_q, List.map, List.sum_cons, List.sum_nil]; omega)) (fun _ hx => hx.elim) (fun v77 s77 hp77 => ?_)
        obtain ⟨rfl, e77⟩ := hp77
        rw [e77]
        refine k_if_eq B 97 dX10_contract_80 (by decide) (fun _ => ?_) (fun c80 => absurd (by decide) c80)
        refine k_vret B hr dX10_contract_97 ?_ (by first | exact Nat.le_of_ble_eq_true rfl | omega | (simp only [kR, Value.category, kCat_q, List.map, List.sum_cons, List.sum_nil]; omega)) (by first | exact Nat.le_of_ble_eq_true rfl | omega | (simp only [kR, Value.category, kCat_q, List.map, List.sum_cons, List.sum_nil]; omega))
        exact mPo.no h (gg) tCd_A rfl
    · rename_i c37
      refine k_iconst B (v := 1) dX10_contract_40 (by decide) ?_
      refine k_goto B 77 dX10_contract_41 (by decide) ?_
      refine cl_X10_107 B (c_X10_can hl h.m) h.o dX10_contract_77 (by first | exact Nat.le_of_ble_eq_true rfl | omega | (simp only [kR, Value.category, kCat_q, List.map, List.sum_cons, List.sum_nil]; omega)) (by first | exact Nat.le_of_ble_eq_true rfl | omega | (simp only [kR, Value.category, kCat_q, List.map, List.sum_cons, List.sum_nil]; omega)) (by first | exact Nat.le_of_ble_eq_true rfl | omega | (simp only [kR, Value.category, kCat_q, List.map, List.sum_cons, List.sum_nil]; omega)) (by first | exact Nat.le_of_ble_eq_true rfl | omega | (simp only [kR, Value.category, kCat_q, List.map, List.sum_cons, List.sum_nil]; omega)) (by first | exact Nat.le_of_ble_eq_true rfl | omega | (simp only [kR, Value.category, kCat_q, List.map, List.sum_cons, List.sum_nil]; omega)) (fun _ hx => hx.elim) (fun v77 s77 hp77 => ?_)
      obtain ⟨rfl, e77⟩ := hp77
      rw [e77]
      refine k_if_eq B 97 dX10_contract_80 (by decide) (fun _ => ?_) (fun c80 => absurd (by decide) c80)
      refine k_vret B hr dX10_contract_97 ?_ (by first | exact Nat.le_of_ble_eq_true rfl | omega | (simp only [kR, Value.category, kCat_q, List.map, List.sum_cons, List.sum_nil]; omega)) (by first | exact Nat.le_of_ble_eq_true rfl | omega | (simp only [kR, Value.category, kCat_q, List.map, List.sum_cons, List.sum_nil]; omega))
      exact mPo.no h (gCell_n ⟨rfl, no10 (bI_q c37)⟩) tCd_I rfl
  refine k_istore B dX10_contract_4 (by decide) ?_
  try refine kK.set1 (by first | exact True.intro | rfl | exact kCat_q _) ?_
  refine k_iload_n B dX10_contract_6 rfl ?_
  refine k_iconst B (v := 1) dX10_contract_7 (by decide) ?_
  refine k_bipush B (v := 30) dX10_contract_8 (by decide) ?_
  refine cl_X10_93 B (c_X10_isIn hl) dX10_contract_10 (by first | exact Nat.le_of_ble_eq_true rfl | omega | (simp only [kR, Value.category, kCat_q, List.map, List.sum_cons, List.sum_nil]; omega)) (by first | exact Nat.le_of_ble_eq_true rfl | omega | (simp only [kR, Value.category, kCat_q, List.map, List.sum_cons, List.sum_nil]; omega)) (by first | exact Nat.le_of_ble_eq_true rfl | omega | (simp only [kR, Value.category, kCat_q, List.map, List.sum_cons, List.sum_nil]; omega)) (by first | exact Nat.le_of_ble_eq_true rfl | omega | (simp only [kR, Value.category, kCat_q, List.map, List.sum_cons, List.sum_nil]; omega)) (by first | exact Nat.le_of_ble_eq_true rfl | omega | (simp only [kR, Value.category, kCat_q, List.map, List.sum_cons, List.sum_nil]; omega)) (fun _ hx => hx.elim) (fun v10 s10 hp10 => ?_)
  obtain ⟨rfl, e10⟩ := hp10
  rw [e10]
  refine k_if_eq B 31 dX10_contract_13 (by decide) (fun c13 => ?_) (fun c13 => ?_)
  · rename_i c13
    refine k_iconst B (v := 0) dX10_contract_31 (by decide) ?_
    exact tail false (by rw [decide_eq_false (bI_q c13)]; rfl)
  · rename_i c13
    refine k_iload_n B dX10_contract_16 rfl ?_
    refine k_iconst B (v := 0) dX10_contract_17 (by decide) ?_
    refine k_sipush B (v := 1000) dX10_contract_18 (by decide) ?_
    refine cl_X10_93 B (c_X10_isIn hl) dX10_contract_21 (by first | exact Nat.le_of_ble_eq_true rfl | omega | (simp only [kR, Value.category, kCat_q, List.map, List.sum_cons, List.sum_nil]; omega)) (by first | exact Nat.le_of_ble_eq_true rfl | omega | (simp only [kR, Value.category, kCat_q, List.map, List.sum_cons, List.sum_nil]; omega)) (by first | exact Nat.le_of_ble_eq_true rfl | omega | (simp only [kR, Value.category, kCat_q, List.map, List.sum_cons, List.sum_nil]; omega)) (by first | exact Nat.le_of_ble_eq_true rfl | omega | (simp only [kR, Value.category, kCat_q, List.map, List.sum_cons, List.sum_nil]; omega)) (by first | exact Nat.le_of_ble_eq_true rfl | omega | (simp only [kR, Value.category, kCat_q, List.map, List.sum_cons, List.sum_nil]; omega)) (fun _ hx => hx.elim) (fun v21 s21 hp21 => ?_)
    obtain ⟨rfl, e21⟩ := hp21
    rw [e21]
    refine k_if_eq B 31 dX10_contract_24 (by decide) (fun c24 => ?_) (fun c24 => ?_)
    · rename_i c24
      refine k_iconst B (v := 0) dX10_contract_31 (by decide) ?_
      exact tail false (by rw [decide_eq_false (bI_q c24), Bool.and_false])
    · rename_i c24
      refine k_iconst B (v := 1) dX10_contract_27 (by decide) ?_
      refine k_goto B 32 dX10_contract_28 (by decide) ?_
      exact tail true (by rw [decide_eq_true (bI_p c13), decide_eq_true (bI_p c24)]; rfl)
end Ref13
