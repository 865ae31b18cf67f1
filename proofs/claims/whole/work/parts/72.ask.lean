theorem nL_i {n : Nat} : (nL n).toInt32 = nI n := by
  apply Int32.toInt_inj.mp
  rw [Int64.toInt_toInt32]
  show (Int64.ofNat n).toInt.bmod (2 ^ 32) = (Int32.ofNat n).toInt
  rw [Int64.toInt_ofNat', Int32.toInt_ofNat', Int.bmod_bmod_of_dvd (by decide)]
section Fc
variable {p : Program} {l : Launch} {e : Env} {R : Room} {s : State} {m : MethodId} {args : Array Value} {below : List Frame} {meth : Method} {c : Code} {D : va_G} {A : Nat → Prop} {nL : Nat} {cc : ByteArray} {own : String} {Q : State → Prop} {σ : kS} {k n pc : Nat} {L : List (Option Value)} {S : List Value}
theorem k_fconst0 (B : kB p l s m args meth c D A nL cc own) (hd : decode cc pc = .ok (.fconst 0, 1)) (kk : kK p l e R s m args below meth c D A nL Q σ k n (pc + 1) L (.float FP.fconst0 :: S)) : kK p l e R s m args below meth c D A nL Q σ k n pc L S := fun H locs ls h1 h2 h3 h4 => lv_fconst0 B.1 B.2.1 hd (kk H locs ls h1 h2 h3 h4)
end Fc
section Ask
variable {l : Launch} {D : va_G} {σ : kS} {aM : Nat} {ma : Nat → Nat} {z : kSt} {t : Int32}
set_option maxRecDepth 100000 in
theorem c_X10_cellOf (hl : l.stackTraces = false) (hs : sOk z) (h : cl10 D aM ma z t σ) {c9 y : Int32} : kMh hX10_cellOf l D yX10_cellOf 4 0 0 [.ref aM, .int c9, .int y] σ (mPo D aM ma z (gCellOf c9 y) (some (.int (rCellOf z c9 y))) (z) (tCd 1 2 2) σ) (fun _ => False) := by
  refine kM_of (L := [some (.ref aM), some (.int c9), some (.int y)]) (by decide +kernel) hl (List.forall_mem_cons.mpr ⟨rfl, (List.forall_mem_cons.mpr ⟨rfl, (List.forall_mem_cons.mpr ⟨rfl, (fun _ h => absurd h List.not_mem_nil)⟩)⟩)⟩) (Nat.le_of_ble_eq_true rfl) rfl ?_
  intro p e s m args below meth c B hr hex hnm
  have B : kB p l s m args meth c D (kA σ s.heap.size) 3 cX10_cellOf RX10 := B
  obtain ⟨mv, kn, Lk, h⟩ := h
  have h40 := hs.2.2.2.1.1
  have hw6 := hs.2.2.1.1
  refine k_aload_n B dX10_cellOf_0 rfl (by first | exact kRf_r _ | exact kRf_q _ | exact kRf_n) ?_
  refine k_iload_n B dX10_cellOf_1 rfl ?_
  refine cl_X10_103 B (c_X10_isCell hl) dX10_cellOf_2 (by first | exact Nat.le_of_ble_eq_true rfl | omega | (simp only [kR, Value.category, kCat_q, List.map, List.sum_cons, List.sum_nil]; omega)) (by first | exact Nat.le_of_ble_eq_true rfl | omega | (simp only [kR, Value.category, kCat_q, List.map, List.sum_cons, List.sum_nil]; omega)) (by first | exact Nat.le_of_ble_eq_true rfl | omega | (simp only [kR, Value.category, kCat_q, List.map, List.sum_cons, List.sum_nil]; omega)) (by first | exact Nat.le_of_ble_eq_true rfl | omega | (simp only [kR, Value.category, kCat_q, List.map, List.sum_cons, List.sum_nil]; omega)) (by first | exact Nat.le_of_ble_eq_true rfl | omega | (simp only [kR, Value.category, kCat_q, List.map, List.sum_cons, List.sum_nil]; omega)) (fun _ hx => hx.elim) (fun v2 s2 hp2 => ?_)
  obtain ⟨rfl, e2⟩ := hp2
  rw [e2]
  refine k_if_ne B 12 dX10_cellOf_5 (by decide) (fun c5 => ?_) (fun c5 => ?_)
  · obtain ⟨i, hi, rfl⟩ := i9_10 (bI_p c5)
    have g1 := nI_10 hi
    have hci : cN (nI i) = i := cN_nI (by omega)
    obtain ⟨k1, k2, k3, k4, k5, k6⟩ := h.K i hi
    have hun := h.un (r := i) (by omega) (by omega)
    have hi51 : i < 51 := by omega
    refine k_iload_n B dX10_cellOf_12 rfl ?_
    refine k_iconst B (v := 0) dX10_cellOf_13 (by decide) ?_
    refine k_bipush B (v := 6) dX10_cellOf_14 (by decide) ?_
    refine cl_X10_93 B (c_X10_isIn hl) dX10_cellOf_16 (by first | exact Nat.le_of_ble_eq_true rfl | omega | (simp only [kR, Value.category, kCat_q, List.map, List.sum_cons, List.sum_nil]; omega)) (by first | exact Nat.le_of_ble_eq_true rfl | omega | (simp only [kR, Value.category, kCat_q, List.map, List.sum_cons, List.sum_nil]; omega)) (by first | exact Nat.le_of_ble_eq_true rfl | omega | (simp only [kR, Value.category, kCat_q, List.map, List.sum_cons, List.sum_nil]; omega)) (by first | exact Nat.le_of_ble_eq_true rfl | omega | (simp only [kR, Value.category, kCat_q, List.map, List.sum_cons, List.sum_nil]; omega)) (by first | exact Nat.le_of_ble_eq_true rfl | omega | (simp only [kR, Value.category, kCat_q, List.map, List.sum_cons, List.sum_nil]; omega)) (fun _ hx => hx.elim) (fun v16 s16 hp16 => ?_)
    obtain ⟨rfl, e16⟩ := hp16
    rw [e16]
    refine k_if_eq B 26 dX10_cellOf_19 (by decide) (fun c19 => ?_) (fun c19 => ?_)
    · refine k_iconst B (v := 2) dX10_cellOf_26 (by decide) ?_
      refine cl_X10_107 B (c_X10_can hl h.m) h.o dX10_cellOf_27 (by first | exact Nat.le_of_ble_eq_true rfl | omega | (simp only [kR, Value.category, kCat_q, List.map, List.sum_cons, List.sum_nil]; omega)) (by first | exact Nat.le_of_ble_eq_true rfl | omega | (simp only [kR, Value.category, kCat_q, List.map, List.sum_cons, List.sum_nil]; omega)) (by first | exact Nat.le_of_ble_eq_true rfl | omega | (simp only [kR, Value.category, kCat_q, List.map, List.sum_cons, List.sum_nil]; omega)) (by first | exact Nat.le_of_ble_eq_true rfl | omega | (simp only [kR, Value.category, kCat_q, List.map, List.sum_cons, List.sum_nil]; omega)) (by first | exact Nat.le_of_ble_eq_true rfl | omega | (simp only [kR, Value.category, kCat_q, List.map, List.sum_cons, List.sum_nil]; omega)) (fun _ hx => hx.elim) (fun v27 s27 hp27 => ?_)
      obtain ⟨rfl, e27⟩ := hp27
      rw [e27]
      refine k_if_ne B 35 dX10_cellOf_30 (by decide) (fun c30 => absurd (by decide) c30) (fun _ => ?_)
      refine k_iconst B (v := 0) dX10_cellOf_33 (by decide) ?_
      refine k_iret B hr dX10_cellOf_34 ?_ (by first | exact Nat.le_of_ble_eq_true rfl | omega | (simp only [kR, Value.category, kCat_q, List.map, List.sum_cons, List.sum_nil]; omega)) (by first | exact Nat.le_of_ble_eq_true rfl | omega | (simp only [kR, Value.category, kCat_q, List.map, List.sum_cons, List.sum_nil]; omega))
      exact mPo.no h ((gCell_p g1).trans (gRg_n ⟨rfl, rg_q c19⟩)) tCd_A rfl
    · have g2 : inR y 0 6 := rg_p c19
      have gg : gCellOf (nI i) y = none := (gCell_p g1).trans (gRg_p g2)
      obtain ⟨j, hj1, hj2, ej⟩ := inR_of (a := 0) (n := 6) rfl rfl (by decide) (by decide) g2
      subst ej
      refine k_iconst B (v := 0) dX10_cellOf_22 (by decide) ?_
      refine k_goto B 27 dX10_cellOf_23 (by decide) ?_
      refine cl_X10_107 B (c_X10_can hl h.m) h.o dX10_cellOf_27 (by first | exact Nat.le_of_ble_eq_true rfl | omega | (simp only [kR, Value.category, kCat_q, List.map, List.sum_cons, List.sum_nil]; omega)) (by first | exact Nat.le_of_ble_eq_true rfl | omega | (simp only [kR, Value.category, kCat_q, List.map, List.sum_cons, List.sum_nil]; omega)) (by first | exact Nat.le_of_ble_eq_true rfl | omega | (simp only [kR, Value.category, kCat_q, List.map, List.sum_cons, List.sum_nil]; omega)) (by first | exact Nat.le_of_ble_eq_true rfl | omega | (simp only [kR, Value.category, kCat_q, List.map, List.sum_cons, List.sum_nil]; omega)) (by first | exact Nat.le_of_ble_eq_true rfl | omega | (simp only [kR, Value.category, kCat_q, List.map, List.sum_cons, List.sum_nil]; omega)) (fun _ hx => hx.elim) (fun v27 s27 hp27 => ?_)
      obtain ⟨rfl, e27⟩ := hp27
      rw [e27]
      refine k_if_ne B 35 dX10_cellOf_30 (by decide) (fun _ => ?_) (fun c30 => absurd c30 (by decide))
      have h1 := h.can 0
      have fh1 : kOut (mOwn aM ma) σ (kUp σ aM (m10E ma (setT (qZ z kn t) 0))) := kOut.up mOwn.o
      refine k_iload_n B dX10_cellOf_35 rfl ?_
      rcases (show j = 0 ∨ j = 1 ∨ j = 2 ∨ j = 3 ∨ j = 4 ∨ j = 5 ∨ j = 6 by omega) with q | q | q | q | q | q | q
      · subst q
        refine k_tabIn B 76 dX10_cellOf_36 (by decide) (by decide) (off := 40) (by decide) (by decide) ?_
        refine k_aload_n B dX10_cellOf_76 rfl (by first | exact kRf_r _ | exact kRf_q _ | exact kRf_n) ?_
        refine gf_X10_34 B dX10_cellOf_77 h1.o rfl ?_
        refine k_iload_n B dX10_cellOf_80 rfl ?_
        refine k_iald B dX10_cellOf_81 (h1.i (k := 9) rfl (by decide)) (vp_in_nI hi51 (by decide)) ?_
        refine kK.rei (y := nI (unS (sR z i))) (by rw [nI_clamp (by omega)]; exact hun) ?_
        refine k_iret B hr dX10_cellOf_82 ?_ (by first | exact Nat.le_of_ble_eq_true rfl | omega | (simp only [kR, Value.category, kCat_q, List.map, List.sum_cons, List.sum_nil]; omega)) (by first | exact Nat.le_of_ble_eq_true rfl | omega | (simp only [kR, Value.category, kCat_q, List.map, List.sum_cons, List.sum_nil]; omega))
        exact mPo.ok gg (by rw [rCellOf, cN_nI (show 0 < 2 ^ 31 by decide), if_pos rfl, hci]) h1.cl fh1
      · subst q
        refine k_tabIn B 83 dX10_cellOf_36 (by decide) (by decide) (off := 47) (by decide) (by decide) ?_
        refine k_aload_n B dX10_cellOf_83 rfl (by first | exact kRf_r _ | exact kRf_q _ | exact kRf_n) ?_
        refine gf_X10_7 B dX10_cellOf_84 h1.o rfl ?_
        refine k_iload_n B dX10_cellOf_87 rfl ?_
        refine k_iald B dX10_cellOf_88 (h1.i (k := 1) rfl (by decide)) (vp_in_nI hi (by decide)) ?_
        refine kK.rei (y := nI (sK z i).2.1) (by rw [nI_clamp (by omega)]; exact k1) ?_
        refine k_iret B hr dX10_cellOf_89 ?_ (by first | exact Nat.le_of_ble_eq_true rfl | omega | (simp only [kR, Value.category, kCat_q, List.map, List.sum_cons, List.sum_nil]; omega)) (by first | exact Nat.le_of_ble_eq_true rfl | omega | (simp only [kR, Value.category, kCat_q, List.map, List.sum_cons, List.sum_nil]; omega))
        exact mPo.ok gg (by rw [rCellOf, cN_nI (show 1 < 2 ^ 31 by decide), if_neg (by decide), if_pos rfl, hci]) h1.cl fh1
      · subst q
        refine k_tabIn B 90 dX10_cellOf_36 (by decide) (by decide) (off := 54) (by decide) (by decide) ?_
        refine k_aload_n B dX10_cellOf_90 rfl (by first | exact kRf_r _ | exact kRf_q _ | exact kRf_n) ?_
        refine gf_X10_13 B dX10_cellOf_91 h1.o rfl ?_
        refine k_iload_n B dX10_cellOf_94 rfl ?_
        refine k_iald B dX10_cellOf_95 (h1.i (k := 2) rfl (by decide)) (vp_in_nI hi (by decide)) ?_
        refine kK.rei (y := nI (sK z i).2.2.1) (by rw [nI_clamp (by omega)]; exact k2) ?_
        refine k_iret B hr dX10_cellOf_96 ?_ (by first | exact Nat.le_of_ble_eq_true rfl | omega | (simp only [kR, Value.category, kCat_q, List.map, List.sum_cons, List.sum_nil]; omega)) (by first | exact Nat.le_of_ble_eq_true rfl | omega | (simp only [kR, Value.category, kCat_q, List.map, List.sum_cons, List.sum_nil]; omega))
        exact mPo.ok gg (by rw [rCellOf, cN_nI (show 2 < 2 ^ 31 by decide), if_neg (by decide), if_neg (by decide), if_pos rfl, hci]) h1.cl fh1
      · subst q
        refine k_tabIn B 97 dX10_cellOf_36 (by decide) (by decide) (off := 61) (by decide) (by decide) ?_
        refine k_aload_n B dX10_cellOf_97 rfl (by first | exact kRf_r _ | exact kRf_q _ | exact kRf_n) ?_
        refine gf_X10_16 B dX10_cellOf_98 h1.o rfl ?_
        refine k_iload_n B dX10_cellOf_101 rfl ?_
        refine k_iald B dX10_cellOf_102 (h1.i (k := 3) rfl (by decide)) (vp_in_nI hi (by decide)) ?_
        refine kK.rei (y := ldI (sK z i).1) (by rw [nI_clamp (by omega)]; exact k3) ?_
        refine k_iret B hr dX10_cellOf_103 ?_ (by first | exact Nat.le_of_ble_eq_true rfl | omega | (simp only [kR, Value.category, kCat_q, List.map, List.sum_cons, List.sum_nil]; omega)) (by first | exact Nat.le_of_ble_eq_true rfl | omega | (simp only [kR, Value.category, kCat_q, List.map, List.sum_cons, List.sum_nil]; omega))
        exact mPo.ok gg (by rw [rCellOf, cN_nI (show 3 < 2 ^ 31 by decide), if_neg (by decide), if_neg (by decide), if_neg (by decide), if_pos rfl, hci]) h1.cl fh1
      · subst q
        refine k_tabIn B 104 dX10_cellOf_36 (by decide) (by decide) (off := 68) (by decide) (by decide) ?_
        refine k_aload_n B dX10_cellOf_104 rfl (by first | exact kRf_r _ | exact kRf_q _ | exact kRf_n) ?_
        refine k_iload_n B dX10_cellOf_105 rfl ?_
        refine cl_X10_113 B (c_X10_travel hl h1.m h.K (fun a d ha hd => (hs.2.1 a ha).1 d hd) hi) h1.o dX10_cellOf_106 (by first | exact Nat.le_of_ble_eq_true rfl | omega | (simp only [kR, Value.category, kCat_q, List.map, List.sum_cons, List.sum_nil]; omega)) (by first | exact Nat.le_of_ble_eq_true rfl | omega | (simp only [kR, Value.category, kCat_q, List.map, List.sum_cons, List.sum_nil]; omega)) (by first | exact Nat.le_of_ble_eq_true rfl | omega | (simp only [kR, Value.category, kCat_q, List.map, List.sum_cons, List.sum_nil]; omega)) (by first | exact Nat.le_of_ble_eq_true rfl | omega | (simp only [kR, Value.category, kCat_q, List.map, List.sum_cons, List.sum_nil]; omega)) (by first | exact Nat.le_of_ble_eq_true rfl | omega | (simp only [kR, Value.category, kCat_q, List.map, List.sum_cons, List.sum_nil]; omega)) (fun _ hx => hx.elim) (fun v106 s106 hp106 => ?_)
        obtain ⟨rfl, e106⟩ := hp106
        rw [e106]
        refine kK.rev (y := .int (trvI z (nI i))) (by rw [trvI, hci] <;> rfl) ?_
        refine k_iret B hr dX10_cellOf_109 ?_ (by first | exact Nat.le_of_ble_eq_true rfl | omega | (simp only [kR, Value.category, kCat_q, List.map, List.sum_cons, List.sum_nil]; omega)) (by first | exact Nat.le_of_ble_eq_true rfl | omega | (simp only [kR, Value.category, kCat_q, List.map, List.sum_cons, List.sum_nil]; omega))
        exact mPo.ok gg (by rw [rCellOf, cN_nI (show 4 < 2 ^ 31 by decide), if_neg (by decide), if_neg (by decide), if_neg (by decide), if_neg (by decide), if_pos rfl]) h1.cl fh1
      · subst q
        refine k_tabIn B 110 dX10_cellOf_36 (by decide) (by decide) (off := 74) (by decide) (by decide) ?_
        refine k_aload_n B dX10_cellOf_110 rfl (by first | exact kRf_r _ | exact kRf_q _ | exact kRf_n) ?_
        refine gf_X10_22 B dX10_cellOf_111 h1.o rfl ?_
        refine k_iload_n B dX10_cellOf_114 rfl ?_
        refine k_iald B dX10_cellOf_115 (h1.i (k := 5) rfl (by decide)) (vp_in_nI hi (by decide)) ?_
        refine kK.rei (y := nI (sK z i).2.2.2.1) (by rw [nI_clamp (by omega)]; exact k5) ?_
        refine k_iret B hr dX10_cellOf_116 ?_ (by first | exact Nat.le_of_ble_eq_true rfl | omega | (simp only [kR, Value.category, kCat_q, List.map, List.sum_cons, List.sum_nil]; omega)) (by first | exact Nat.le_of_ble_eq_true rfl | omega | (simp only [kR, Value.category, kCat_q, List.map, List.sum_cons, List.sum_nil]; omega))
        exact mPo.ok gg (by rw [rCellOf, cN_nI (show 5 < 2 ^ 31 by decide), if_neg (by decide), if_neg (by decide), if_neg (by decide), if_neg (by decide), if_neg (by decide), if_pos rfl, hci]) h1.cl fh1
      · subst q
        refine k_tabOut B 117 dX10_cellOf_36 (by decide) (by decide) ?_
        have hr7 := h.L.1 i hi51
        have hcc := h.C.1 i (by omega)
        refine k_aload_n B dX10_cellOf_117 rfl (by first | exact kRf_r _ | exact kRf_q _ | exact kRf_n) ?_
        refine gf_X10_28 B dX10_cellOf_118 h1.o rfl ?_
        refine k_iload_n B dX10_cellOf_121 rfl ?_
        refine k_iald B dX10_cellOf_122 (h1.i (k := 7) rfl (by decide)) (vp_in_nI hi51 (by decide)) ?_
        refine kK.rei (y := ldI (hdA (Lk i))) (by rw [nI_clamp (by omega)]; exact hr7.1) ?_
        cases hLi : Lk i with
        | nil =>
          rw [hLi] at hcc
          refine k_iconst B (v := (-1)) dX10_cellOf_123 (by decide) ?_
          refine k_icmp_ne B 131 dX10_cellOf_124 (by decide) (fun c124 => ?_) (fun c124 => ?_)
          · exact absurd rfl c124
          · refine k_iconst B (v := (-1)) dX10_cellOf_127 (by decide) ?_
            refine k_goto B 142 dX10_cellOf_128 (by decide) ?_
            refine k_iret B hr dX10_cellOf_142 ?_ (by first | exact Nat.le_of_ble_eq_true rfl | omega | (simp only [kR, Value.category, kCat_q, List.map, List.sum_cons, List.sum_nil]; omega)) (by first | exact Nat.le_of_ble_eq_true rfl | omega | (simp only [kR, Value.category, kCat_q, List.map, List.sum_cons, List.sum_nil]; omega))
            exact mPo.ok gg (by rw [rCellOf, cN_nI (show 6 < 2 ^ 31 by decide), if_neg (by decide), if_neg (by decide), if_neg (by decide), if_neg (by decide), if_neg (by decide), if_neg (by decide), hci, ← hcc]; rfl) h1.cl fh1
        | cons b T =>
          obtain ⟨a, pp⟩ := b
          have hlt := h.L.2.1 i hi51 a (by rw [hLi]; simp [adr])
          have hnb := h.nb
          have hn3 := hs.1.1
          have ha : a < 6200 := by omega
          rw [hLi] at hcc hr7
          refine k_iconst B (v := (-1)) dX10_cellOf_123 (by decide) ?_
          refine k_icmp_ne B 131 dX10_cellOf_124 (by decide) (fun c124 => ?_) (fun c124 => ?_)
          · refine k_aload_n B dX10_cellOf_131 rfl (by first | exact kRf_r _ | exact kRf_q _ | exact kRf_n) ?_
            refine gf_X10_46 B dX10_cellOf_132 h1.o rfl ?_
            refine k_aload_n B dX10_cellOf_135 rfl (by first | exact kRf_r _ | exact kRf_q _ | exact kRf_n) ?_
            refine gf_X10_28 B dX10_cellOf_136 h1.o rfl ?_
            refine k_iload_n B dX10_cellOf_139 rfl ?_
            refine k_iald B dX10_cellOf_140 (h1.i (k := 7) rfl (by decide)) (vp_in_nI hi51 (by decide)) ?_
            refine kK.rei (y := nI a) (by rw [nI_clamp (by omega)]; exact hr7.1) ?_
            refine k_iald B dX10_cellOf_141 (h1.i (k := 14) rfl (by decide)) (vp_in_nI ha (by decide)) ?_
            refine kK.rei (y := nI pp.2.1) (by rw [nI_clamp (by omega)]; exact hr7.2.2.2.2.1.2.1) ?_
            refine k_iret B hr dX10_cellOf_142 ?_ (by first | exact Nat.le_of_ble_eq_true rfl | omega | (simp only [kR, Value.category, kCat_q, List.map, List.sum_cons, List.sum_nil]; omega)) (by first | exact Nat.le_of_ble_eq_true rfl | omega | (simp only [kR, Value.category, kCat_q, List.map, List.sum_cons, List.sum_nil]; omega))
            exact mPo.ok gg (by rw [rCellOf, cN_nI (show 6 < 2 ^ 31 by decide), if_neg (by decide), if_neg (by decide), if_neg (by decide), if_neg (by decide), if_neg (by decide), if_neg (by decide), hci, ← hcc]; rfl) h1.cl fh1
          · exact absurd c124 (ldI_no (j := a) (by omega))
  · refine k_iconst B (v := 1) dX10_cellOf_8 (by decide) ?_
    refine k_goto B 27 dX10_cellOf_9 (by decide) ?_
    refine cl_X10_107 B (c_X10_can hl h.m) h.o dX10_cellOf_27 (by first | exact Nat.le_of_ble_eq_true rfl | omega | (simp only [kR, Value.category, kCat_q, List.map, List.sum_cons, List.sum_nil]; omega)) (by first | exact Nat.le_of_ble_eq_true rfl | omega | (simp only [kR, Value.category, kCat_q, List.map, List.sum_cons, List.sum_nil]; omega)) (by first | exact Nat.le_of_ble_eq_true rfl | omega | (simp only [kR, Value.category, kCat_q, List.map, List.sum_cons, List.sum_nil]; omega)) (by first | exact Nat.le_of_ble_eq_true rfl | omega | (simp only [kR, Value.category, kCat_q, List.map, List.sum_cons, List.sum_nil]; omega)) (by first | exact Nat.le_of_ble_eq_true rfl | omega | (simp only [kR, Value.category, kCat_q, List.map, List.sum_cons, List.sum_nil]; omega)) (fun _ hx => hx.elim) (fun v27 s27 hp27 => ?_)
    obtain ⟨rfl, e27⟩ := hp27
    rw [e27]
    refine k_if_ne B 35 dX10_cellOf_30 (by decide) (fun c30 => absurd (by decide) c30) (fun _ => ?_)
    refine k_iconst B (v := 0) dX10_cellOf_33 (by decide) ?_
    refine k_iret B hr dX10_cellOf_34 ?_ (by first | exact Nat.le_of_ble_eq_true rfl | omega | (simp only [kR, Value.category, kCat_q, List.map, List.sum_cons, List.sum_nil]; omega)) (by first | exact Nat.le_of_ble_eq_true rfl | omega | (simp only [kR, Value.category, kCat_q, List.map, List.sum_cons, List.sum_nil]; omega))
    exact mPo.no h (gCell_n ⟨rfl, no10 (bI_q c5)⟩) tCd_I rfl
set_option maxRecDepth 100000 in
theorem c_X10_flow (hl : l.stackTraces = false) (hs : sOk z) (h : cl10 D aM ma z t σ) {y : Int32} : kMh hX10_flow l D yX10_flow 4 0 0 [.ref aM, .int y] σ (mPo D aM ma z (gFlow y) (some (.int (rFlow z y))) (z) (tCd 1 1 1) σ) (fun _ => False) := by
  refine kM_of (L := [some (.ref aM), some (.int y)]) (by decide +kernel) hl (List.forall_mem_cons.mpr ⟨rfl, (List.forall_mem_cons.mpr ⟨rfl, (fun _ h => absurd h List.not_mem_nil)⟩)⟩) (Nat.le_of_ble_eq_true rfl) rfl ?_
  intro p e s m args below meth c B hr hex hnm
  have B : kB p l s m args meth c D (kA σ s.heap.size) 2 cX10_flow RX10 := B
  obtain ⟨mv, kn, Lk, h⟩ := h
  have h40 := hs.2.2.2.1.1
  have hw6 := hs.2.2.1.1
  obtain ⟨r51, hL, hcon, hpk⟩ := h.row hs (i := 10) (by omega)
  have hun : mv 9 10 = nI (unS (sR z 10)) := by rw [← hcon]; exact hL.2.2.1
  refine k_aload_n B dX10_flow_0 rfl (by first | exact kRf_r _ | exact kRf_q _ | exact kRf_n) ?_
  refine k_iload_n B dX10_flow_1 rfl ?_
  refine k_iconst B (v := 0) dX10_flow_2 (by decide) ?_
  refine k_iconst B (v := 3) dX10_flow_3 (by decide) ?_
  refine cl_X10_93 B (c_X10_isIn hl) dX10_flow_4 (by first | exact Nat.le_of_ble_eq_true rfl | omega | (simp only [kR, Value.category, kCat_q, List.map, List.sum_cons, List.sum_nil]; omega)) (by first | exact Nat.le_of_ble_eq_true rfl | omega | (simp only [kR, Value.category, kCat_q, List.map, List.sum_cons, List.sum_nil]; omega)) (by first | exact Nat.le_of_ble_eq_true rfl | omega | (simp only [kR, Value.category, kCat_q, List.map, List.sum_cons, List.sum_nil]; omega)) (by first | exact Nat.le_of_ble_eq_true rfl | omega | (simp only [kR, Value.category, kCat_q, List.map, List.sum_cons, List.sum_nil]; omega)) (by first | exact Nat.le_of_ble_eq_true rfl | omega | (simp only [kR, Value.category, kCat_q, List.map, List.sum_cons, List.sum_nil]; omega)) (fun _ hx => hx.elim) (fun v4 s4 hp4 => ?_)
  obtain ⟨rfl, e4⟩ := hp4
  rw [e4]
  refine k_if_eq B 14 dX10_flow_7 (by decide) (fun c7 => ?_) (fun c7 => ?_)
  · refine k_iconst B (v := 1) dX10_flow_14 (by decide) ?_
    refine cl_X10_107 B (c_X10_can hl h.m) h.o dX10_flow_15 (by first | exact Nat.le_of_ble_eq_true rfl | omega | (simp only [kR, Value.category, kCat_q, List.map, List.sum_cons, List.sum_nil]; omega)) (by first | exact Nat.le_of_ble_eq_true rfl | omega | (simp only [kR, Value.category, kCat_q, List.map, List.sum_cons, List.sum_nil]; omega)) (by first | exact Nat.le_of_ble_eq_true rfl | omega | (simp only [kR, Value.category, kCat_q, List.map, List.sum_cons, List.sum_nil]; omega)) (by first | exact Nat.le_of_ble_eq_true rfl | omega | (simp only [kR, Value.category, kCat_q, List.map, List.sum_cons, List.sum_nil]; omega)) (by first | exact Nat.le_of_ble_eq_true rfl | omega | (simp only [kR, Value.category, kCat_q, List.map, List.sum_cons, List.sum_nil]; omega)) (fun _ hx => hx.elim) (fun v15 s15 hp15 => ?_)
    obtain ⟨rfl, e15⟩ := hp15
    rw [e15]
    refine k_if_ne B 23 dX10_flow_18 (by decide) (fun c18 => absurd (by decide) c18) (fun _ => ?_)
    refine k_iconst B (v := 0) dX10_flow_21 (by decide) ?_
    refine k_iret B hr dX10_flow_22 ?_ (by first | exact Nat.le_of_ble_eq_true rfl | omega | (simp only [kR, Value.category, kCat_q, List.map, List.sum_cons, List.sum_nil]; omega)) (by first | exact Nat.le_of_ble_eq_true rfl | omega | (simp only [kR, Value.category, kCat_q, List.map, List.sum_cons, List.sum_nil]; omega))
    exact mPo.no h (gRg_n ⟨rfl, rg_q c7⟩) tCd_A rfl
  · have g2 : inR y 0 3 := rg_p c7
    have gg : gFlow y = none := gRg_p g2
    obtain ⟨j, hj1, hj2, ej⟩ := inR_of (a := 0) (n := 3) rfl rfl (by decide) (by decide) g2
    subst ej
    refine k_iconst B (v := 0) dX10_flow_10 (by decide) ?_
    refine k_goto B 15 dX10_flow_11 (by decide) ?_
    refine cl_X10_107 B (c_X10_can hl h.m) h.o dX10_flow_15 (by first | exact Nat.le_of_ble_eq_true rfl | omega | (simp only [kR, Value.category, kCat_q, List.map, List.sum_cons, List.sum_nil]; omega)) (by first | exact Nat.le_of_ble_eq_true rfl | omega | (simp only [kR, Value.category, kCat_q, List.map, List.sum_cons, List.sum_nil]; omega)) (by first | exact Nat.le_of_ble_eq_true rfl | omega | (simp only [kR, Value.category, kCat_q, List.map, List.sum_cons, List.sum_nil]; omega)) (by first | exact Nat.le_of_ble_eq_true rfl | omega | (simp only [kR, Value.category, kCat_q, List.map, List.sum_cons, List.sum_nil]; omega)) (by first | exact Nat.le_of_ble_eq_true rfl | omega | (simp only [kR, Value.category, kCat_q, List.map, List.sum_cons, List.sum_nil]; omega)) (fun _ hx => hx.elim) (fun v15 s15 hp15 => ?_)
    obtain ⟨rfl, e15⟩ := hp15
    rw [e15]
    refine k_if_ne B 23 dX10_flow_18 (by decide) (fun _ => ?_) (fun c18 => absurd c18 (by decide))
    have h1 := h.can 0
    have fh1 : kOut (mOwn aM ma) σ (kUp σ aM (m10E ma (setT (qZ z kn t) 0))) := kOut.up mOwn.o
    rcases (show j = 0 ∨ j = 1 ∨ j = 2 ∨ j = 3 by omega) with q | q | q | q
    · subst q
      refine k_iload_n B dX10_flow_23 rfl ?_
      refine k_if_ne B 37 dX10_flow_24 (by decide) (fun c24 => ?_) (fun c24 => ?_)
      · exact absurd rfl c24
      · refine k_aload_n B dX10_flow_27 rfl (by first | exact kRf_r _ | exact kRf_q _ | exact kRf_n) ?_
        refine gf_X10_34 B dX10_flow_28 h1.o rfl ?_
        refine k_bipush B (v := 10) dX10_flow_31 (by decide) ?_
        refine k_iald B dX10_flow_33 (h1.i (k := 9) rfl (by decide)) (vp_in_nI r51 (by decide)) ?_
        refine kK.rei (y := nI (unS (sR z 10))) hun ?_
        refine k_goto B 73 dX10_flow_34 (by decide) ?_
        refine k_iret B hr dX10_flow_73 ?_ (by first | exact Nat.le_of_ble_eq_true rfl | omega | (simp only [kR, Value.category, kCat_q, List.map, List.sum_cons, List.sum_nil]; omega)) (by first | exact Nat.le_of_ble_eq_true rfl | omega | (simp only [kR, Value.category, kCat_q, List.map, List.sum_cons, List.sum_nil]; omega))
        exact mPo.ok gg (by rw [rFlow, cN_nI (show 0 < 2 ^ 31 by decide), if_pos rfl]) h1.cl fh1
    · subst q
      refine k_iload_n B dX10_flow_23 rfl ?_
      refine k_if_ne B 37 dX10_flow_24 (by decide) (fun c24 => ?_) (fun c24 => ?_)
      · refine k_iload_n B dX10_flow_37 rfl ?_
        refine k_iconst B (v := 1) dX10_flow_38 (by decide) ?_
        refine k_icmp_ne B 52 dX10_flow_39 (by decide) (fun c39 => ?_) (fun c39 => ?_)
        · exact absurd rfl c39
        · refine k_aload_n B dX10_flow_42 rfl (by first | exact kRf_r _ | exact kRf_q _ | exact kRf_n) ?_
          refine k_bipush B (v := 10) dX10_flow_43 (by decide) ?_
          refine cl_X10_193 B (c_X10_nitrateOf hl h1.m r51 hL (fun a ha => ⟨(hpk a ha).1, by have := (hpk a ha).2.1.2.2.1; omega, by have := (hpk a ha).2.2; omega⟩)) h1.o dX10_flow_45 (by first | exact Nat.le_of_ble_eq_true rfl | omega | (simp only [kR, Value.category, kCat_q, List.map, List.sum_cons, List.sum_nil]; omega)) (by first | exact Nat.le_of_ble_eq_true rfl | omega | (simp only [kR, Value.category, kCat_q, List.map, List.sum_cons, List.sum_nil]; omega)) (by first | exact Nat.le_of_ble_eq_true rfl | omega | (simp only [kR, Value.category, kCat_q, List.map, List.sum_cons, List.sum_nil]; omega)) (by first | exact Nat.le_of_ble_eq_true rfl | omega | (simp only [kR, Value.category, kCat_q, List.map, List.sum_cons, List.sum_nil]; omega)) (by first | exact Nat.le_of_ble_eq_true rfl | omega | (simp only [kR, Value.category, kCat_q, List.map, List.sum_cons, List.sum_nil]; omega)) (fun _ hx => hx.elim) (fun v45 s45 hp45 => ?_)
          obtain ⟨rfl, e45⟩ := hp45
          rw [e45]
          refine kK.rev (y := .long (nL (niS (sR z 10)))) (by rw [← hcon] <;> rfl) ?_
          refine k_l2i B dX10_flow_48 ?_
          refine kK.rei (y := nI (niS (sR z 10))) nL_i ?_
          refine k_goto B 73 dX10_flow_49 (by decide) ?_
          refine k_iret B hr dX10_flow_73 ?_ (by first | exact Nat.le_of_ble_eq_true rfl | omega | (simp only [kR, Value.category, kCat_q, List.map, List.sum_cons, List.sum_nil]; omega)) (by first | exact Nat.le_of_ble_eq_true rfl | omega | (simp only [kR, Value.category, kCat_q, List.map, List.sum_cons, List.sum_nil]; omega))
          exact mPo.ok gg (by rw [rFlow, cN_nI (show 1 < 2 ^ 31 by decide), if_neg (by decide), if_pos rfl]) h1.cl fh1
      · exact absurd c24 (by decide)
    · subst q
      refine k_iload_n B dX10_flow_23 rfl ?_
      refine k_if_ne B 37 dX10_flow_24 (by decide) (fun c24 => ?_) (fun c24 => ?_)
      · refine k_iload_n B dX10_flow_37 rfl ?_
        refine k_iconst B (v := 1) dX10_flow_38 (by decide) ?_
        refine k_icmp_ne B 52 dX10_flow_39 (by decide) (fun c39 => ?_) (fun c39 => ?_)
        · refine k_iload_n B dX10_flow_52 rfl ?_
          refine k_iconst B (v := 2) dX10_flow_53 (by decide) ?_
          refine k_icmp_ne B 66 dX10_flow_54 (by decide) (fun c54 => ?_) (fun c54 => ?_)
          · exact absurd rfl c54
          · refine k_aload_n B dX10_flow_57 rfl (by first | exact kRf_r _ | exact kRf_q _ | exact kRf_n) ?_
            refine k_bipush B (v := 10) dX10_flow_58 (by decide) ?_
            refine cl_X10_190 B (c_X10_compoundsOf hl h1.m r51 hL (fun a ha => by
              obtain ⟨x, hx, rfl⟩ := List.mem_map.mp ha
              exact (hpk x hx).1)) h1.o dX10_flow_60 (by first | exact Nat.le_of_ble_eq_true rfl | omega | (simp only [kR, Value.category, kCat_q, List.map, List.sum_cons, List.sum_nil]; omega)) (by first | exact Nat.le_of_ble_eq_true rfl | omega | (simp only [kR, Value.category, kCat_q, List.map, List.sum_cons, List.sum_nil]; omega)) (by first | exact Nat.le_of_ble_eq_true rfl | omega | (simp only [kR, Value.category, kCat_q, List.map, List.sum_cons, List.sum_nil]; omega)) (by first | exact Nat.le_of_ble_eq_true rfl | omega | (simp only [kR, Value.category, kCat_q, List.map, List.sum_cons, List.sum_nil]; omega)) (by first | exact Nat.le_of_ble_eq_true rfl | omega | (simp only [kR, Value.category, kCat_q, List.map, List.sum_cons, List.sum_nil]; omega)) (fun _ hx => hx.elim) (fun v60 s60 hp60 => ?_)
            obtain ⟨rfl, e60⟩ := hp60
            rw [e60]
            refine kK.rev (y := .int (coS (sR z 10) 0)) (by rw [← hcon] <;> rfl) ?_
            refine k_goto B 73 dX10_flow_63 (by decide) ?_
            refine k_iret B hr dX10_flow_73 ?_ (by first | exact Nat.le_of_ble_eq_true rfl | omega | (simp only [kR, Value.category, kCat_q, List.map, List.sum_cons, List.sum_nil]; omega)) (by first | exact Nat.le_of_ble_eq_true rfl | omega | (simp only [kR, Value.category, kCat_q, List.map, List.sum_cons, List.sum_nil]; omega))
            exact mPo.ok gg (by rw [rFlow, cN_nI (show 2 < 2 ^ 31 by decide), if_neg (by decide), if_neg (by decide), if_pos rfl]) h1.cl fh1
        · exact absurd c39 (by decide)
      · exact absurd c24 (by decide)
    · subst q
      refine k_iload_n B dX10_flow_23 rfl ?_
      refine k_if_ne B 37 dX10_flow_24 (by decide) (fun c24 => ?_) (fun c24 => ?_)
      · refine k_iload_n B dX10_flow_37 rfl ?_
        refine k_iconst B (v := 1) dX10_flow_38 (by decide) ?_
        refine k_icmp_ne B 52 dX10_flow_39 (by decide) (fun c39 => ?_) (fun c39 => ?_)
        · refine k_iload_n B dX10_flow_52 rfl ?_
          refine k_iconst B (v := 2) dX10_flow_53 (by decide) ?_
          refine k_icmp_ne B 66 dX10_flow_54 (by decide) (fun c54 => ?_) (fun c54 => ?_)
          · refine k_aload_n B dX10_flow_66 rfl (by first | exact kRf_r _ | exact kRf_q _ | exact kRf_n) ?_
            refine k_bipush B (v := 10) dX10_flow_67 (by decide) ?_
            refine k_iconst B (v := 0) dX10_flow_69 (by decide) ?_
            refine cl_X10_186 B (c_X10_fallOf hl h1.m (b := false) r51 hL (fun a ha => ⟨(hpk a ha).1, by have := (hpk a ha).2.1.2.1; have := hs.1.1; omega⟩)) h1.o dX10_flow_70 (by first | exact Nat.le_of_ble_eq_true rfl | omega | (simp only [kR, Value.category, kCat_q, List.map, List.sum_cons, List.sum_nil]; omega)) (by first | exact Nat.le_of_ble_eq_true rfl | omega | (simp only [kR, Value.category, kCat_q, List.map, List.sum_cons, List.sum_nil]; omega)) (by first | exact Nat.le_of_ble_eq_true rfl | omega | (simp only [kR, Value.category, kCat_q, List.map, List.sum_cons, List.sum_nil]; omega)) (by first | exact Nat.le_of_ble_eq_true rfl | omega | (simp only [kR, Value.category, kCat_q, List.map, List.sum_cons, List.sum_nil]; omega)) (by first | exact Nat.le_of_ble_eq_true rfl | omega | (simp only [kR, Value.category, kCat_q, List.map, List.sum_cons, List.sum_nil]; omega)) (fun _ hx => hx.elim) (fun v70 s70 hp70 => ?_)
            obtain ⟨rfl, e70⟩ := hp70
            rw [e70]
            refine kK.rev (y := .int (olI (sR z 10))) (by rw [← hcon] <;> rfl) ?_
            refine k_iret B hr dX10_flow_73 ?_ (by first | exact Nat.le_of_ble_eq_true rfl | omega | (simp only [kR, Value.category, kCat_q, List.map, List.sum_cons, List.sum_nil]; omega)) (by first | exact Nat.le_of_ble_eq_true rfl | omega | (simp only [kR, Value.category, kCat_q, List.map, List.sum_cons, List.sum_nil]; omega))
            exact mPo.ok gg (by rw [rFlow, cN_nI (show 3 < 2 ^ 31 by decide), if_neg (by decide), if_neg (by decide), if_neg (by decide)]) h1.cl fh1
          · exact absurd c54 (by decide)
        · exact absurd c39 (by decide)
      · exact absurd c24 (by decide)
set_option maxRecDepth 100000 in
theorem c_X10_wellOf (hl : l.stackTraces = false) (hs : sOk z) (h : cl10 D aM ma z t σ) {c9 y : Int32} : kMh hX10_wellOf l D yX10_wellOf 4 0 0 [.ref aM, .int c9, .int y] σ (mPo D aM ma z (gWellOf z c9 y) (some (.int (rWellOf z c9 y))) (z) (tCd 1 2 2) σ) (fun _ => False) := by
  refine kM_of (L := [some (.ref aM), some (.int c9), some (.int y)]) (by decide +kernel) hl (List.forall_mem_cons.mpr ⟨rfl, (List.forall_mem_cons.mpr ⟨rfl, (List.forall_mem_cons.mpr ⟨rfl, (fun _ h => absurd h List.not_mem_nil)⟩)⟩)⟩) (Nat.le_of_ble_eq_true rfl) rfl ?_
  intro p e s m args below meth c B hr hex hnm
  have B : kB p l s m args meth c D (kA σ s.heap.size) 3 cX10_wellOf RX10 := B
  obtain ⟨mv, kn, Lk, h⟩ := h
  have h40 := hs.2.2.2.1.1
  have hw6 := hs.2.2.1.1
  refine k_aload_n B dX10_wellOf_0 rfl (by first | exact kRf_r _ | exact kRf_q _ | exact kRf_n) ?_
  refine k_aload_n B dX10_wellOf_1 rfl (by first | exact kRf_r _ | exact kRf_q _ | exact kRf_n) ?_
  refine k_iload_n B dX10_wellOf_2 rfl ?_
  refine cl_X10_165 B (c_X10_isWell hl h.m) h.o dX10_wellOf_3 (by first | exact Nat.le_of_ble_eq_true rfl | omega | (simp only [kR, Value.category, kCat_q, List.map, List.sum_cons, List.sum_nil]; omega)) (by first | exact Nat.le_of_ble_eq_true rfl | omega | (simp only [kR, Value.category, kCat_q, List.map, List.sum_cons, List.sum_nil]; omega)) (by first | exact Nat.le_of_ble_eq_true rfl | omega | (simp only [kR, Value.category, kCat_q, List.map, List.sum_cons, List.sum_nil]; omega)) (by first | exact Nat.le_of_ble_eq_true rfl | omega | (simp only [kR, Value.category, kCat_q, List.map, List.sum_cons, List.sum_nil]; omega)) (by first | exact Nat.le_of_ble_eq_true rfl | omega | (simp only [kR, Value.category, kCat_q, List.map, List.sum_cons, List.sum_nil]; omega)) (fun _ hx => hx.elim) (fun v3 s3 hp3 => ?_)
  obtain ⟨rfl, e3⟩ := hp3
  rw [e3]
  refine k_if_ne B 13 dX10_wellOf_6 (by decide) (fun c6 => ?_) (fun c6 => ?_)
  · obtain ⟨i, hi, rfl, g1⟩ := in_p (n := sWn z) (by omega) rfl (bI_p c6)
    have hci : cN (nI i) = i := cN_nI (by omega)
    have hi6 : i < 6 := by omega
    obtain ⟨w1, w2, w3⟩ := h.W i hi
    refine k_iload_n B dX10_wellOf_13 rfl ?_
    refine k_iconst B (v := 0) dX10_wellOf_14 (by decide) ?_
    refine k_iconst B (v := 3) dX10_wellOf_15 (by decide) ?_
    refine cl_X10_93 B (c_X10_isIn hl) dX10_wellOf_16 (by first | exact Nat.le_of_ble_eq_true rfl | omega | (simp only [kR, Value.category, kCat_q, List.map, List.sum_cons, List.sum_nil]; omega)) (by first | exact Nat.le_of_ble_eq_true rfl | omega | (simp only [kR, Value.category, kCat_q, List.map, List.sum_cons, List.sum_nil]; omega)) (by first | exact Nat.le_of_ble_eq_true rfl | omega | (simp only [kR, Value.category, kCat_q, List.map, List.sum_cons, List.sum_nil]; omega)) (by first | exact Nat.le_of_ble_eq_true rfl | omega | (simp only [kR, Value.category, kCat_q, List.map, List.sum_cons, List.sum_nil]; omega)) (by first | exact Nat.le_of_ble_eq_true rfl | omega | (simp only [kR, Value.category, kCat_q, List.map, List.sum_cons, List.sum_nil]; omega)) (fun _ hx => hx.elim) (fun v16 s16 hp16 => ?_)
    obtain ⟨rfl, e16⟩ := hp16
    rw [e16]
    refine k_if_eq B 26 dX10_wellOf_19 (by decide) (fun c19 => ?_) (fun c19 => ?_)
    · refine k_iconst B (v := 2) dX10_wellOf_26 (by decide) ?_
      refine cl_X10_107 B (c_X10_can hl h.m) h.o dX10_wellOf_27 (by first | exact Nat.le_of_ble_eq_true rfl | omega | (simp only [kR, Value.category, kCat_q, List.map, List.sum_cons, List.sum_nil]; omega)) (by first | exact Nat.le_of_ble_eq_true rfl | omega | (simp only [kR, Value.category, kCat_q, List.map, List.sum_cons, List.sum_nil]; omega)) (by first | exact Nat.le_of_ble_eq_true rfl | omega | (simp only [kR, Value.category, kCat_q, List.map, List.sum_cons, List.sum_nil]; omega)) (by first | exact Nat.le_of_ble_eq_true rfl | omega | (simp only [kR, Value.category, kCat_q, List.map, List.sum_cons, List.sum_nil]; omega)) (by first | exact Nat.le_of_ble_eq_true rfl | omega | (simp only [kR, Value.category, kCat_q, List.map, List.sum_cons, List.sum_nil]; omega)) (fun _ hx => hx.elim) (fun v27 s27 hp27 => ?_)
      obtain ⟨rfl, e27⟩ := hp27
      rw [e27]
      refine k_if_ne B 35 dX10_wellOf_30 (by decide) (fun c30 => absurd (by decide) c30) (fun _ => ?_)
      refine k_iconst B (v := 0) dX10_wellOf_33 (by decide) ?_
      refine k_iret B hr dX10_wellOf_34 ?_ (by first | exact Nat.le_of_ble_eq_true rfl | omega | (simp only [kR, Value.category, kCat_q, List.map, List.sum_cons, List.sum_nil]; omega)) (by first | exact Nat.le_of_ble_eq_true rfl | omega | (simp only [kR, Value.category, kCat_q, List.map, List.sum_cons, List.sum_nil]; omega))
      exact mPo.no h ((gIx_p g1).trans (gRg_n ⟨rfl, rg_q c19⟩)) tCd_A rfl
    · have g2 : inR y 0 3 := rg_p c19
      have gg : gWellOf z (nI i) y = none := (gIx_p g1).trans (gRg_p g2)
      obtain ⟨j, hj1, hj2, ej⟩ := inR_of (a := 0) (n := 3) rfl rfl (by decide) (by decide) g2
      subst ej
      refine k_iconst B (v := 0) dX10_wellOf_22 (by decide) ?_
      refine k_goto B 27 dX10_wellOf_23 (by decide) ?_
      refine cl_X10_107 B (c_X10_can hl h.m) h.o dX10_wellOf_27 (by first | exact Nat.le_of_ble_eq_true rfl | omega | (simp only [kR, Value.category, kCat_q, List.map, List.sum_cons, List.sum_nil]; omega)) (by first | exact Nat.le_of_ble_eq_true rfl | omega | (simp only [kR, Value.category, kCat_q, List.map, List.sum_cons, List.sum_nil]; omega)) (by first | exact Nat.le_of_ble_eq_true rfl | omega | (simp only [kR, Value.category, kCat_q, List.map, List.sum_cons, List.sum_nil]; omega)) (by first | exact Nat.le_of_ble_eq_true rfl | omega | (simp only [kR, Value.category, kCat_q, List.map, List.sum_cons, List.sum_nil]; omega)) (by first | exact Nat.le_of_ble_eq_true rfl | omega | (simp only [kR, Value.category, kCat_q, List.map, List.sum_cons, List.sum_nil]; omega)) (fun _ hx => hx.elim) (fun v27 s27 hp27 => ?_)
      obtain ⟨rfl, e27⟩ := hp27
      rw [e27]
      refine k_if_ne B 35 dX10_wellOf_30 (by decide) (fun _ => ?_) (fun c30 => absurd c30 (by decide))
      have h1 := h.can 0
      have fh1 : kOut (mOwn aM ma) σ (kUp σ aM (m10E ma (setT (qZ z kn t) 0))) := kOut.up mOwn.o
      rcases (show j = 0 ∨ j = 1 ∨ j = 2 ∨ j = 3 by omega) with q | q | q | q
      · subst q
        refine k_iload_n B dX10_wellOf_35 rfl ?_
        refine k_if_ne B 48 dX10_wellOf_36 (by decide) (fun c36 => ?_) (fun c36 => ?_)
        · exact absurd rfl c36
        · skip
          refine k_aload_n B dX10_wellOf_39 rfl (by first | exact kRf_r _ | exact kRf_q _ | exact kRf_n) ?_
          refine gf_X10_58 B dX10_wellOf_40 h1.o rfl ?_
          refine k_iload_n B dX10_wellOf_43 rfl ?_
          refine k_iald B dX10_wellOf_44 (h1.i (k := 19) rfl (by decide)) (vp_in_nI hi6 (by decide)) ?_
          refine kK.rei (y := nI (sW z i).1) (by rw [nI_clamp (by omega)]; exact w1) ?_
          refine k_goto B 81 dX10_wellOf_45 (by decide) ?_
          refine k_iret B hr dX10_wellOf_81 ?_ (by first | exact Nat.le_of_ble_eq_true rfl | omega | (simp only [kR, Value.category, kCat_q, List.map, List.sum_cons, List.sum_nil]; omega)) (by first | exact Nat.le_of_ble_eq_true rfl | omega | (simp only [kR, Value.category, kCat_q, List.map, List.sum_cons, List.sum_nil]; omega))
          exact mPo.ok gg (by rw [rWellOf, cN_nI (show 0 < 2 ^ 31 by decide), if_pos rfl, hci]) h1.cl fh1
      · subst q
        refine k_iload_n B dX10_wellOf_35 rfl ?_
        refine k_if_ne B 48 dX10_wellOf_36 (by decide) (fun c36 => ?_) (fun c36 => ?_)
        · refine k_iload_n B dX10_wellOf_48 rfl ?_
          refine k_iconst B (v := 1) dX10_wellOf_49 (by decide) ?_
          refine k_icmp_ne B 62 dX10_wellOf_50 (by decide) (fun c50 => ?_) (fun c50 => ?_)
          · exact absurd rfl c50
          · skip
            refine k_aload_n B dX10_wellOf_53 rfl (by first | exact kRf_r _ | exact kRf_q _ | exact kRf_n) ?_
            refine gf_X10_61 B dX10_wellOf_54 h1.o rfl ?_
            refine k_iload_n B dX10_wellOf_57 rfl ?_
            refine k_iald B dX10_wellOf_58 (h1.i (k := 20) rfl (by decide)) (vp_in_nI hi6 (by decide)) ?_
            refine kK.rei (y := nI (sW z i).2.1) (by rw [nI_clamp (by omega)]; exact w2) ?_
            refine k_goto B 81 dX10_wellOf_59 (by decide) ?_
            refine k_iret B hr dX10_wellOf_81 ?_ (by first | exact Nat.le_of_ble_eq_true rfl | omega | (simp only [kR, Value.category, kCat_q, List.map, List.sum_cons, List.sum_nil]; omega)) (by first | exact Nat.le_of_ble_eq_true rfl | omega | (simp only [kR, Value.category, kCat_q, List.map, List.sum_cons, List.sum_nil]; omega))
            exact mPo.ok gg (by rw [rWellOf, cN_nI (show 1 < 2 ^ 31 by decide), if_neg (by decide), if_pos rfl, hci]) h1.cl fh1
        · exact absurd c36 (by decide)
      · subst q
        refine k_iload_n B dX10_wellOf_35 rfl ?_
        refine k_if_ne B 48 dX10_wellOf_36 (by decide) (fun c36 => ?_) (fun c36 => ?_)
        · refine k_iload_n B dX10_wellOf_48 rfl ?_
          refine k_iconst B (v := 1) dX10_wellOf_49 (by decide) ?_
          refine k_icmp_ne B 62 dX10_wellOf_50 (by decide) (fun c50 => ?_) (fun c50 => ?_)
          · refine k_iload_n B dX10_wellOf_62 rfl ?_
            refine k_iconst B (v := 2) dX10_wellOf_63 (by decide) ?_
            refine k_icmp_ne B 76 dX10_wellOf_64 (by decide) (fun c64 => ?_) (fun c64 => ?_)
            · exact absurd rfl c64
            · skip
              refine k_aload_n B dX10_wellOf_67 rfl (by first | exact kRf_r _ | exact kRf_q _ | exact kRf_n) ?_
              refine gf_X10_64 B dX10_wellOf_68 h1.o rfl ?_
              refine k_iload_n B dX10_wellOf_71 rfl ?_
              refine k_iald B dX10_wellOf_72 (h1.i (k := 21) rfl (by decide)) (vp_in_nI hi6 (by decide)) ?_
              refine kK.rei (y := nI (sW z i).2.2) (by rw [nI_clamp (by omega)]; exact w3) ?_
              refine k_goto B 81 dX10_wellOf_73 (by decide) ?_
              refine k_iret B hr dX10_wellOf_81 ?_ (by first | exact Nat.le_of_ble_eq_true rfl | omega | (simp only [kR, Value.category, kCat_q, List.map, List.sum_cons, List.sum_nil]; omega)) (by first | exact Nat.le_of_ble_eq_true rfl | omega | (simp only [kR, Value.category, kCat_q, List.map, List.sum_cons, List.sum_nil]; omega))
              exact mPo.ok gg (by rw [rWellOf, cN_nI (show 2 < 2 ^ 31 by decide), if_neg (by decide), if_neg (by decide), if_pos rfl, hci]) h1.cl fh1
          · exact absurd c50 (by decide)
        · exact absurd c36 (by decide)
      · subst q
        refine k_iload_n B dX10_wellOf_35 rfl ?_
        refine k_if_ne B 48 dX10_wellOf_36 (by decide) (fun c36 => ?_) (fun c36 => ?_)
        · refine k_iload_n B dX10_wellOf_48 rfl ?_
          refine k_iconst B (v := 1) dX10_wellOf_49 (by decide) ?_
          refine k_icmp_ne B 62 dX10_wellOf_50 (by decide) (fun c50 => ?_) (fun c50 => ?_)
          · refine k_iload_n B dX10_wellOf_62 rfl ?_
            refine k_iconst B (v := 2) dX10_wellOf_63 (by decide) ?_
            refine k_icmp_ne B 76 dX10_wellOf_64 (by decide) (fun c64 => ?_) (fun c64 => ?_)
            · refine k_aload_n B dX10_wellOf_76 rfl (by first | exact kRf_r _ | exact kRf_q _ | exact kRf_n) ?_
              refine k_iload_n B dX10_wellOf_77 rfl ?_
              refine cl_X10_168 B (c_X10_may hl hs h1 hi) h1.o dX10_wellOf_78 (by first | exact Nat.le_of_ble_eq_true rfl | omega | (simp only [kR, Value.category, kCat_q, List.map, List.sum_cons, List.sum_nil]; omega)) (by first | exact Nat.le_of_ble_eq_true rfl | omega | (simp only [kR, Value.category, kCat_q, List.map, List.sum_cons, List.sum_nil]; omega)) (by first | exact Nat.le_of_ble_eq_true rfl | omega | (simp only [kR, Value.category, kCat_q, List.map, List.sum_cons, List.sum_nil]; omega)) (by first | exact Nat.le_of_ble_eq_true rfl | omega | (simp only [kR, Value.category, kCat_q, List.map, List.sum_cons, List.sum_nil]; omega)) (by first | exact Nat.le_of_ble_eq_true rfl | omega | (simp only [kR, Value.category, kCat_q, List.map, List.sum_cons, List.sum_nil]; omega)) (fun _ hx => hx.elim) (fun v78 s78 hp78 => ?_)
              obtain ⟨rfl, e78⟩ := hp78
              rw [e78]
              refine kK.rev (y := .int (nI (rMay z i))) rfl ?_
              refine k_iret B hr dX10_wellOf_81 ?_ (by first | exact Nat.le_of_ble_eq_true rfl | omega | (simp only [kR, Value.category, kCat_q, List.map, List.sum_cons, List.sum_nil]; omega)) (by first | exact Nat.le_of_ble_eq_true rfl | omega | (simp only [kR, Value.category, kCat_q, List.map, List.sum_cons, List.sum_nil]; omega))
              exact mPo.ok gg (by rw [rWellOf, cN_nI (show 3 < 2 ^ 31 by decide), if_neg (by decide), if_neg (by decide), if_neg (by decide), hci]) h1.cl fh1
            · exact absurd c64 (by decide)
          · exact absurd c50 (by decide)
        · exact absurd c36 (by decide)
  · refine k_iconst B (v := 1) dX10_wellOf_9 (by decide) ?_
    refine k_goto B 27 dX10_wellOf_10 (by decide) ?_
    refine cl_X10_107 B (c_X10_can hl h.m) h.o dX10_wellOf_27 (by first | exact Nat.le_of_ble_eq_true rfl | omega | (simp only [kR, Value.category, kCat_q, List.map, List.sum_cons, List.sum_nil]; omega)) (by first | exact Nat.le_of_ble_eq_true rfl | omega | (simp only [kR, Value.category, kCat_q, List.map, List.sum_cons, List.sum_nil]; omega)) (by first | exact Nat.le_of_ble_eq_true rfl | omega | (simp only [kR, Value.category, kCat_q, List.map, List.sum_cons, List.sum_nil]; omega)) (by first | exact Nat.le_of_ble_eq_true rfl | omega | (simp only [kR, Value.category, kCat_q, List.map, List.sum_cons, List.sum_nil]; omega)) (by first | exact Nat.le_of_ble_eq_true rfl | omega | (simp only [kR, Value.category, kCat_q, List.map, List.sum_cons, List.sum_nil]; omega)) (fun _ hx => hx.elim) (fun v27 s27 hp27 => ?_)
    obtain ⟨rfl, e27⟩ := hp27
    rw [e27]
    refine k_if_ne B 35 dX10_wellOf_30 (by decide) (fun c30 => absurd (by decide) c30) (fun _ => ?_)
    refine k_iconst B (v := 0) dX10_wellOf_33 (by decide) ?_
    refine k_iret B hr dX10_wellOf_34 ?_ (by first | exact Nat.le_of_ble_eq_true rfl | omega | (simp only [kR, Value.category, kCat_q, List.map, List.sum_cons, List.sum_nil]; omega)) (by first | exact Nat.le_of_ble_eq_true rfl | omega | (simp only [kR, Value.category, kCat_q, List.map, List.sum_cons, List.sum_nil]; omega))
    exact mPo.no h (gIx_n ⟨rfl, in_n (n := sWn z) (by omega) rfl (bI_q c6)⟩) tCd_I rfl
set_option maxRecDepth 100000 in
theorem c_X10_lotOf (hl : l.stackTraces = false) (hs : sOk z) (h : cl10 D aM ma z t σ) {c9 y : Int32} : kMh hX10_lotOf l D yX10_lotOf 4 0 0 [.ref aM, .int c9, .int y] σ (mPo D aM ma z (gLotOf z c9 y) (some (.int (rLotOf z c9 y))) (z) (tCd 1 2 2) σ) (fun _ => False) := by
  refine kM_of (L := [some (.ref aM), some (.int c9), some (.int y), none]) (by decide +kernel) hl (List.forall_mem_cons.mpr ⟨rfl, (List.forall_mem_cons.mpr ⟨rfl, (List.forall_mem_cons.mpr ⟨rfl, (fun _ h => absurd h List.not_mem_nil)⟩)⟩)⟩) (Nat.le_of_ble_eq_true rfl) rfl ?_
  intro p e s m args below meth c B hr hex hnm
  have B : kB p l s m args meth c D (kA σ s.heap.size) 4 cX10_lotOf RX10 := B
  obtain ⟨mv, kn, Lk, h⟩ := h
  have h40 := hs.2.2.2.1.1
  have hw6 := hs.2.2.1.1
  refine k_aload_n B dX10_lotOf_0 rfl (by first | exact kRf_r _ | exact kRf_q _ | exact kRf_n) ?_
  refine k_aload_n B dX10_lotOf_1 rfl (by first | exact kRf_r _ | exact kRf_q _ | exact kRf_n) ?_
  refine k_iload_n B dX10_lotOf_2 rfl ?_
  refine cl_X10_180 B (c_X10_isLot hl h.m) h.o dX10_lotOf_3 (by first | exact Nat.le_of_ble_eq_true rfl | omega | (simp only [kR, Value.category, kCat_q, List.map, List.sum_cons, List.sum_nil]; omega)) (by first | exact Nat.le_of_ble_eq_true rfl | omega | (simp only [kR, Value.category, kCat_q, List.map, List.sum_cons, List.sum_nil]; omega)) (by first | exact Nat.le_of_ble_eq_true rfl | omega | (simp only [kR, Value.category, kCat_q, List.map, List.sum_cons, List.sum_nil]; omega)) (by first | exact Nat.le_of_ble_eq_true rfl | omega | (simp only [kR, Value.category, kCat_q, List.map, List.sum_cons, List.sum_nil]; omega)) (by first | exact Nat.le_of_ble_eq_true rfl | omega | (simp only [kR, Value.category, kCat_q, List.map, List.sum_cons, List.sum_nil]; omega)) (fun _ hx => hx.elim) (fun v3 s3 hp3 => ?_)
  obtain ⟨rfl, e3⟩ := hp3
  rw [e3]
  refine k_if_ne B 13 dX10_lotOf_6 (by decide) (fun c6 => ?_) (fun c6 => ?_)
  · obtain ⟨i, hi, rfl, g1⟩ := in_p (n := sLn z) (by omega) rfl (bI_p c6)
    have hci : cN (nI i) = i := cN_nI (by omega)
    have hi40 : i < 40 := by omega
    obtain ⟨t1, t2, t3, t4, t5, t6⟩ := h.T.1 i hi
    obtain ⟨r51, hL, hcon, hpk⟩ := h.row hs (i := 11 + i) (by omega)
    have hun : mv 9 (11 + i) = nI (unS (sR z (11 + i))) := by rw [← hcon]; exact hL.2.2.1
    refine k_iload_n B dX10_lotOf_13 rfl ?_
    refine k_iconst B (v := 0) dX10_lotOf_14 (by decide) ?_
    refine k_bipush B (v := 10) dX10_lotOf_15 (by decide) ?_
    refine cl_X10_93 B (c_X10_isIn hl) dX10_lotOf_17 (by first | exact Nat.le_of_ble_eq_true rfl | omega | (simp only [kR, Value.category, kCat_q, List.map, List.sum_cons, List.sum_nil]; omega)) (by first | exact Nat.le_of_ble_eq_true rfl | omega | (simp only [kR, Value.category, kCat_q, List.map, List.sum_cons, List.sum_nil]; omega)) (by first | exact Nat.le_of_ble_eq_true rfl | omega | (simp only [kR, Value.category, kCat_q, List.map, List.sum_cons, List.sum_nil]; omega)) (by first | exact Nat.le_of_ble_eq_true rfl | omega | (simp only [kR, Value.category, kCat_q, List.map, List.sum_cons, List.sum_nil]; omega)) (by first | exact Nat.le_of_ble_eq_true rfl | omega | (simp only [kR, Value.category, kCat_q, List.map, List.sum_cons, List.sum_nil]; omega)) (fun _ hx => hx.elim) (fun v17 s17 hp17 => ?_)
    obtain ⟨rfl, e17⟩ := hp17
    rw [e17]
    refine k_if_eq B 27 dX10_lotOf_20 (by decide) (fun c20 => ?_) (fun c20 => ?_)
    · refine k_iconst B (v := 2) dX10_lotOf_27 (by decide) ?_
      refine cl_X10_107 B (c_X10_can hl h.m) h.o dX10_lotOf_28 (by first | exact Nat.le_of_ble_eq_true rfl | omega | (simp only [kR, Value.category, kCat_q, List.map, List.sum_cons, List.sum_nil]; omega)) (by first | exact Nat.le_of_ble_eq_true rfl | omega | (simp only [kR, Value.category, kCat_q, List.map, List.sum_cons, List.sum_nil]; omega)) (by first | exact Nat.le_of_ble_eq_true rfl | omega | (simp only [kR, Value.category, kCat_q, List.map, List.sum_cons, List.sum_nil]; omega)) (by first | exact Nat.le_of_ble_eq_true rfl | omega | (simp only [kR, Value.category, kCat_q, List.map, List.sum_cons, List.sum_nil]; omega)) (by first | exact Nat.le_of_ble_eq_true rfl | omega | (simp only [kR, Value.category, kCat_q, List.map, List.sum_cons, List.sum_nil]; omega)) (fun _ hx => hx.elim) (fun v28 s28 hp28 => ?_)
      obtain ⟨rfl, e28⟩ := hp28
      rw [e28]
      refine k_if_ne B 36 dX10_lotOf_31 (by decide) (fun c31 => absurd (by decide) c31) (fun _ => ?_)
      refine k_iconst B (v := 0) dX10_lotOf_34 (by decide) ?_
      refine k_iret B hr dX10_lotOf_35 ?_ (by first | exact Nat.le_of_ble_eq_true rfl | omega | (simp only [kR, Value.category, kCat_q, List.map, List.sum_cons, List.sum_nil]; omega)) (by first | exact Nat.le_of_ble_eq_true rfl | omega | (simp only [kR, Value.category, kCat_q, List.map, List.sum_cons, List.sum_nil]; omega))
      exact mPo.no h ((gIx_p g1).trans (gRg_n ⟨rfl, rg_q c20⟩)) tCd_A rfl
    · have g2 : inR y 0 10 := rg_p c20
      have gg : gLotOf z (nI i) y = none := (gIx_p g1).trans (gRg_p g2)
      obtain ⟨j, hj1, hj2, ej⟩ := inR_of (a := 0) (n := 10) rfl rfl (by decide) (by decide) g2
      subst ej
      refine k_iconst B (v := 0) dX10_lotOf_23 (by decide) ?_
      refine k_goto B 28 dX10_lotOf_24 (by decide) ?_
      refine cl_X10_107 B (c_X10_can hl h.m) h.o dX10_lotOf_28 (by first | exact Nat.le_of_ble_eq_true rfl | omega | (simp only [kR, Value.category, kCat_q, List.map, List.sum_cons, List.sum_nil]; omega)) (by first | exact Nat.le_of_ble_eq_true rfl | omega | (simp only [kR, Value.category, kCat_q, List.map, List.sum_cons, List.sum_nil]; omega)) (by first | exact Nat.le_of_ble_eq_true rfl | omega | (simp only [kR, Value.category, kCat_q, List.map, List.sum_cons, List.sum_nil]; omega)) (by first | exact Nat.le_of_ble_eq_true rfl | omega | (simp only [kR, Value.category, kCat_q, List.map, List.sum_cons, List.sum_nil]; omega)) (by first | exact Nat.le_of_ble_eq_true rfl | omega | (simp only [kR, Value.category, kCat_q, List.map, List.sum_cons, List.sum_nil]; omega)) (fun _ hx => hx.elim) (fun v28 s28 hp28 => ?_)
      obtain ⟨rfl, e28⟩ := hp28
      rw [e28]
      refine k_if_ne B 36 dX10_lotOf_31 (by decide) (fun _ => ?_) (fun c31 => absurd c31 (by decide))
      have h1 := h.can 0
      have fh1 : kOut (mOwn aM ma) σ (kUp σ aM (m10E ma (setT (qZ z kn t) 0))) := kOut.up mOwn.o
      refine k_iload_n B dX10_lotOf_36 rfl ?_
      refine cl_X10_171 B (c_X10_lotRow hl) dX10_lotOf_37 (by first | exact Nat.le_of_ble_eq_true rfl | omega | (simp only [kR, Value.category, kCat_q, List.map, List.sum_cons, List.sum_nil]; omega)) (by first | exact Nat.le_of_ble_eq_true rfl | omega | (simp only [kR, Value.category, kCat_q, List.map, List.sum_cons, List.sum_nil]; omega)) (by first | exact Nat.le_of_ble_eq_true rfl | omega | (simp only [kR, Value.category, kCat_q, List.map, List.sum_cons, List.sum_nil]; omega)) (by first | exact Nat.le_of_ble_eq_true rfl | omega | (simp only [kR, Value.category, kCat_q, List.map, List.sum_cons, List.sum_nil]; omega)) (by first | exact Nat.le_of_ble_eq_true rfl | omega | (simp only [kR, Value.category, kCat_q, List.map, List.sum_cons, List.sum_nil]; omega)) (fun _ hx => hx.elim) (fun v37 s37 hp37 => ?_)
      obtain ⟨rfl, e37⟩ := hp37
      rw [e37]
      refine kK.rev (y := .int (nI (11 + i))) rfl ?_
      refine k_istore_n B dX10_lotOf_40 (by decide) ?_
      try refine kK.set1 (by first | exact True.intro | rfl | exact kCat_q _) ?_
      refine k_iload_n B dX10_lotOf_41 rfl ?_
      rcases (show j = 0 ∨ j = 1 ∨ j = 2 ∨ j = 3 ∨ j = 4 ∨ j = 5 ∨ j = 6 ∨ j = 7 ∨ j = 8 ∨ j = 9 ∨ j = 10 by omega) with q | q | q | q | q | q | q | q | q | q | q
      · subst q
        refine k_tabIn B 96 dX10_lotOf_42 (by decide) (by decide) (off := 54) (by decide) (by decide) ?_
        refine k_aload_n B dX10_lotOf_96 rfl (by first | exact kRf_r _ | exact kRf_q _ | exact kRf_n) ?_
        refine gf_X10_71 B dX10_lotOf_97 h1.o rfl ?_
        refine k_iload_n B dX10_lotOf_100 rfl ?_
        refine k_iald B dX10_lotOf_101 (h1.i (k := 27) rfl (by decide)) (vp_in_nI hi40 (by decide)) ?_
        refine kK.rei (y := nI (sLo z i).1) (by rw [nI_clamp (by omega)]; exact t1) ?_
        refine k_iret B hr dX10_lotOf_102 ?_ (by first | exact Nat.le_of_ble_eq_true rfl | omega | (simp only [kR, Value.category, kCat_q, List.map, List.sum_cons, List.sum_nil]; omega)) (by first | exact Nat.le_of_ble_eq_true rfl | omega | (simp only [kR, Value.category, kCat_q, List.map, List.sum_cons, List.sum_nil]; omega))
        exact mPo.ok gg (by rw [rLotOf, cN_nI (show 0 < 2 ^ 31 by decide), if_pos rfl, hci]) h1.cl fh1
      · subst q
        refine k_tabIn B 103 dX10_lotOf_42 (by decide) (by decide) (off := 61) (by decide) (by decide) ?_
        refine k_aload_n B dX10_lotOf_103 rfl (by first | exact kRf_r _ | exact kRf_q _ | exact kRf_n) ?_
        refine gf_X10_34 B dX10_lotOf_104 h1.o rfl ?_
        refine k_iload_n B dX10_lotOf_107 rfl ?_
        refine k_iald B dX10_lotOf_108 (h1.i (k := 9) rfl (by decide)) (vp_in_nI r51 (by decide)) ?_
        refine kK.rei (y := nI (unS (sR z (11 + i)))) (by rw [nI_clamp (by omega)]; exact hun) ?_
        refine k_iret B hr dX10_lotOf_109 ?_ (by first | exact Nat.le_of_ble_eq_true rfl | omega | (simp only [kR, Value.category, kCat_q, List.map, List.sum_cons, List.sum_nil]; omega)) (by first | exact Nat.le_of_ble_eq_true rfl | omega | (simp only [kR, Value.category, kCat_q, List.map, List.sum_cons, List.sum_nil]; omega))
        exact mPo.ok gg (by rw [rLotOf, cN_nI (show 1 < 2 ^ 31 by decide), if_neg (by decide), if_pos rfl, hci]) h1.cl fh1
      · subst q
        refine k_tabIn B 110 dX10_lotOf_42 (by decide) (by decide) (off := 68) (by decide) (by decide) ?_
        refine k_aload_n B dX10_lotOf_110 rfl (by first | exact kRf_r _ | exact kRf_q _ | exact kRf_n) ?_
        refine k_iload_n B dX10_lotOf_111 rfl ?_
        refine cl_X10_193 B (c_X10_nitrateOf hl h1.m r51 hL (fun a ha => ⟨(hpk a ha).1, by have := (hpk a ha).2.1.2.2.1; omega, by have := (hpk a ha).2.2; omega⟩)) h1.o dX10_lotOf_112 (by first | exact Nat.le_of_ble_eq_true rfl | omega | (simp only [kR, Value.category, kCat_q, List.map, List.sum_cons, List.sum_nil]; omega)) (by first | exact Nat.le_of_ble_eq_true rfl | omega | (simp only [kR, Value.category, kCat_q, List.map, List.sum_cons, List.sum_nil]; omega)) (by first | exact Nat.le_of_ble_eq_true rfl | omega | (simp only [kR, Value.category, kCat_q, List.map, List.sum_cons, List.sum_nil]; omega)) (by first | exact Nat.le_of_ble_eq_true rfl | omega | (simp only [kR, Value.category, kCat_q, List.map, List.sum_cons, List.sum_nil]; omega)) (by first | exact Nat.le_of_ble_eq_true rfl | omega | (simp only [kR, Value.category, kCat_q, List.map, List.sum_cons, List.sum_nil]; omega)) (fun _ hx => hx.elim) (fun v112 s112 hp112 => ?_)
        obtain ⟨rfl, e112⟩ := hp112
        rw [e112]
        refine kK.rev (y := .long (nL (niS (sR z (11 + i))))) (by rw [← hcon] <;> rfl) ?_
        refine k_l2i B dX10_lotOf_115 ?_
        refine kK.rei (y := nI (niS (sR z (11 + i)))) nL_i ?_
        refine k_iret B hr dX10_lotOf_116 ?_ (by first | exact Nat.le_of_ble_eq_true rfl | omega | (simp only [kR, Value.category, kCat_q, List.map, List.sum_cons, List.sum_nil]; omega)) (by first | exact Nat.le_of_ble_eq_true rfl | omega | (simp only [kR, Value.category, kCat_q, List.map, List.sum_cons, List.sum_nil]; omega))
        exact mPo.ok gg (by rw [rLotOf, cN_nI (show 2 < 2 ^ 31 by decide), if_neg (by decide), if_neg (by decide), if_pos rfl, hci]) h1.cl fh1
      · subst q
        refine k_tabIn B 117 dX10_lotOf_42 (by decide) (by decide) (off := 75) (by decide) (by decide) ?_
        refine k_aload_n B dX10_lotOf_117 rfl (by first | exact kRf_r _ | exact kRf_q _ | exact kRf_n) ?_
        refine gf_X10_74 B dX10_lotOf_118 h1.o rfl ?_
        refine k_iload_n B dX10_lotOf_121 rfl ?_
        refine k_iald B dX10_lotOf_122 (h1.i (k := 28) rfl (by decide)) (vp_in_nI hi40 (by decide)) ?_
        refine kK.rei (y := nI (sLo z i).2.1) (by rw [nI_clamp (by omega)]; exact t2) ?_
        refine k_iret B hr dX10_lotOf_123 ?_ (by first | exact Nat.le_of_ble_eq_true rfl | omega | (simp only [kR, Value.category, kCat_q, List.map, List.sum_cons, List.sum_nil]; omega)) (by first | exact Nat.le_of_ble_eq_true rfl | omega | (simp only [kR, Value.category, kCat_q, List.map, List.sum_cons, List.sum_nil]; omega))
        exact mPo.ok gg (by rw [rLotOf, cN_nI (show 3 < 2 ^ 31 by decide), if_neg (by decide), if_neg (by decide), if_neg (by decide), if_pos rfl, hci]) h1.cl fh1
      · subst q
        refine k_tabIn B 124 dX10_lotOf_42 (by decide) (by decide) (off := 82) (by decide) (by decide) ?_
        refine k_aload_n B dX10_lotOf_124 rfl (by first | exact kRf_r _ | exact kRf_q _ | exact kRf_n) ?_
        refine k_iload_n B dX10_lotOf_125 rfl ?_
        refine cl_X10_190 B (c_X10_compoundsOf hl h1.m r51 hL (fun a ha => by
          obtain ⟨x, hx, rfl⟩ := List.mem_map.mp ha
          exact (hpk x hx).1)) h1.o dX10_lotOf_126 (by first | exact Nat.le_of_ble_eq_true rfl | omega | (simp only [kR, Value.category, kCat_q, List.map, List.sum_cons, List.sum_nil]; omega)) (by first | exact Nat.le_of_ble_eq_true rfl | omega | (simp only [kR, Value.category, kCat_q, List.map, List.sum_cons, List.sum_nil]; omega)) (by first | exact Nat.le_of_ble_eq_true rfl | omega | (simp only [kR, Value.category, kCat_q, List.map, List.sum_cons, List.sum_nil]; omega)) (by first | exact Nat.le_of_ble_eq_true rfl | omega | (simp only [kR, Value.category, kCat_q, List.map, List.sum_cons, List.sum_nil]; omega)) (by first | exact Nat.le_of_ble_eq_true rfl | omega | (simp only [kR, Value.category, kCat_q, List.map, List.sum_cons, List.sum_nil]; omega)) (fun _ hx => hx.elim) (fun v126 s126 hp126 => ?_)
        obtain ⟨rfl, e126⟩ := hp126
        rw [e126]
        refine kK.rev (y := .int (coS (sR z (11 + i)) 0)) (by rw [← hcon] <;> rfl) ?_
        refine k_iret B hr dX10_lotOf_129 ?_ (by first | exact Nat.le_of_ble_eq_true rfl | omega | (simp only [kR, Value.category, kCat_q, List.map, List.sum_cons, List.sum_nil]; omega)) (by first | exact Nat.le_of_ble_eq_true rfl | omega | (simp only [kR, Value.category, kCat_q, List.map, List.sum_cons, List.sum_nil]; omega))
        exact mPo.ok gg (by rw [rLotOf, cN_nI (show 4 < 2 ^ 31 by decide), if_neg (by decide), if_neg (by decide), if_neg (by decide), if_neg (by decide), if_pos rfl, hci]) h1.cl fh1
      · subst q
        refine k_tabIn B 130 dX10_lotOf_42 (by decide) (by decide) (off := 88) (by decide) (by decide) ?_
        refine k_aload_n B dX10_lotOf_130 rfl (by first | exact kRf_r _ | exact kRf_q _ | exact kRf_n) ?_
        refine gf_X10_74 B dX10_lotOf_131 h1.o rfl ?_
        refine k_iload_n B dX10_lotOf_134 rfl ?_
        refine k_iald B dX10_lotOf_135 (h1.i (k := 28) rfl (by decide)) (vp_in_nI hi40 (by decide)) ?_
        refine kK.rei (y := nI (sLo z i).2.1) (by rw [nI_clamp (by omega)]; exact t2) ?_
        refine k_aload_n B dX10_lotOf_136 rfl (by first | exact kRf_r _ | exact kRf_q _ | exact kRf_n) ?_
        refine k_iload_n B dX10_lotOf_137 rfl ?_
        refine k_iconst B (v := 1) dX10_lotOf_138 (by decide) ?_
        refine cl_X10_186 B (c_X10_fallOf hl h1.m (b := true) r51 hL (fun a ha => ⟨(hpk a ha).1, by have := (hpk a ha).2.1.2.1; have := hs.1.1; omega⟩)) h1.o dX10_lotOf_139 (by first | exact Nat.le_of_ble_eq_true rfl | omega | (simp only [kR, Value.category, kCat_q, List.map, List.sum_cons, List.sum_nil]; omega)) (by first | exact Nat.le_of_ble_eq_true rfl | omega | (simp only [kR, Value.category, kCat_q, List.map, List.sum_cons, List.sum_nil]; omega)) (by first | exact Nat.le_of_ble_eq_true rfl | omega | (simp only [kR, Value.category, kCat_q, List.map, List.sum_cons, List.sum_nil]; omega)) (by first | exact Nat.le_of_ble_eq_true rfl | omega | (simp only [kR, Value.category, kCat_q, List.map, List.sum_cons, List.sum_nil]; omega)) (by first | exact Nat.le_of_ble_eq_true rfl | omega | (simp only [kR, Value.category, kCat_q, List.map, List.sum_cons, List.sum_nil]; omega)) (fun _ hx => hx.elim) (fun v139 s139 hp139 => ?_)
        obtain ⟨rfl, e139⟩ := hp139
        rw [e139]
        refine kK.rev (y := .int (yoI (sR z (11 + i)))) (by rw [← hcon] <;> rfl) ?_
        refine k_isub B dX10_lotOf_142 ?_
        refine k_iret B hr dX10_lotOf_143 ?_ (by first | exact Nat.le_of_ble_eq_true rfl | omega | (simp only [kR, Value.category, kCat_q, List.map, List.sum_cons, List.sum_nil]; omega)) (by first | exact Nat.le_of_ble_eq_true rfl | omega | (simp only [kR, Value.category, kCat_q, List.map, List.sum_cons, List.sum_nil]; omega))
        exact mPo.ok gg (by rw [rLotOf, cN_nI (show 5 < 2 ^ 31 by decide), if_neg (by decide), if_neg (by decide), if_neg (by decide), if_neg (by decide), if_neg (by decide), if_pos rfl, hci]) h1.cl fh1
      · subst q
        refine k_tabIn B 144 dX10_lotOf_42 (by decide) (by decide) (off := 102) (by decide) (by decide) ?_
        refine k_aload_n B dX10_lotOf_144 rfl (by first | exact kRf_r _ | exact kRf_q _ | exact kRf_n) ?_
        refine gf_X10_74 B dX10_lotOf_145 h1.o rfl ?_
        refine k_iload_n B dX10_lotOf_148 rfl ?_
        refine k_iald B dX10_lotOf_149 (h1.i (k := 28) rfl (by decide)) (vp_in_nI hi40 (by decide)) ?_
        refine kK.rei (y := nI (sLo z i).2.1) (by rw [nI_clamp (by omega)]; exact t2) ?_
        refine k_aload_n B dX10_lotOf_150 rfl (by first | exact kRf_r _ | exact kRf_q _ | exact kRf_n) ?_
        refine k_iload_n B dX10_lotOf_151 rfl ?_
        refine k_iconst B (v := 0) dX10_lotOf_152 (by decide) ?_
        refine cl_X10_186 B (c_X10_fallOf hl h1.m (b := false) r51 hL (fun a ha => ⟨(hpk a ha).1, by have := (hpk a ha).2.1.2.1; have := hs.1.1; omega⟩)) h1.o dX10_lotOf_153 (by first | exact Nat.le_of_ble_eq_true rfl | omega | (simp only [kR, Value.category, kCat_q, List.map, List.sum_cons, List.sum_nil]; omega)) (by first | exact Nat.le_of_ble_eq_true rfl | omega | (simp only [kR, Value.category, kCat_q, List.map, List.sum_cons, List.sum_nil]; omega)) (by first | exact Nat.le_of_ble_eq_true rfl | omega | (simp only [kR, Value.category, kCat_q, List.map, List.sum_cons, List.sum_nil]; omega)) (by first | exact Nat.le_of_ble_eq_true rfl | omega | (simp only [kR, Value.category, kCat_q, List.map, List.sum_cons, List.sum_nil]; omega)) (by first | exact Nat.le_of_ble_eq_true rfl | omega | (simp only [kR, Value.category, kCat_q, List.map, List.sum_cons, List.sum_nil]; omega)) (fun _ hx => hx.elim) (fun v153 s153 hp153 => ?_)
        obtain ⟨rfl, e153⟩ := hp153
        rw [e153]
        refine kK.rev (y := .int (olI (sR z (11 + i)))) (by rw [← hcon] <;> rfl) ?_
        refine k_isub B dX10_lotOf_156 ?_
        refine k_iret B hr dX10_lotOf_157 ?_ (by first | exact Nat.le_of_ble_eq_true rfl | omega | (simp only [kR, Value.category, kCat_q, List.map, List.sum_cons, List.sum_nil]; omega)) (by first | exact Nat.le_of_ble_eq_true rfl | omega | (simp only [kR, Value.category, kCat_q, List.map, List.sum_cons, List.sum_nil]; omega))
        exact mPo.ok gg (by rw [rLotOf, cN_nI (show 6 < 2 ^ 31 by decide), if_neg (by decide), if_neg (by decide), if_neg (by decide), if_neg (by decide), if_neg (by decide), if_neg (by decide), if_pos rfl, hci]) h1.cl fh1
      · subst q
        refine k_tabIn B 158 dX10_lotOf_42 (by decide) (by decide) (off := 116) (by decide) (by decide) ?_
        refine k_aload_n B dX10_lotOf_158 rfl (by first | exact kRf_r _ | exact kRf_q _ | exact kRf_n) ?_
        refine gf_X10_77 B dX10_lotOf_159 h1.o rfl ?_
        refine k_iload_n B dX10_lotOf_162 rfl ?_
        refine k_iald B dX10_lotOf_163 (h1.i (k := 29) rfl (by decide)) (vp_in_nI hi40 (by decide)) ?_
        refine kK.rei (y := (sLo z i).2.2.1) (by rw [nI_clamp (by omega)]; exact t3) ?_
        refine k_iret B hr dX10_lotOf_164 ?_ (by first | exact Nat.le_of_ble_eq_true rfl | omega | (simp only [kR, Value.category, kCat_q, List.map, List.sum_cons, List.sum_nil]; omega)) (by first | exact Nat.le_of_ble_eq_true rfl | omega | (simp only [kR, Value.category, kCat_q, List.map, List.sum_cons, List.sum_nil]; omega))
        exact mPo.ok gg (by rw [rLotOf, cN_nI (show 7 < 2 ^ 31 by decide), if_neg (by decide), if_neg (by decide), if_neg (by decide), if_neg (by decide), if_neg (by decide), if_neg (by decide), if_neg (by decide), if_pos rfl, hci]) h1.cl fh1
      · subst q
        refine k_tabIn B 165 dX10_lotOf_42 (by decide) (by decide) (off := 123) (by decide) (by decide) ?_
        refine k_aload_n B dX10_lotOf_165 rfl (by first | exact kRf_r _ | exact kRf_q _ | exact kRf_n) ?_
        refine gf_X10_80 B dX10_lotOf_166 h1.o rfl ?_
        refine k_iload_n B dX10_lotOf_169 rfl ?_
        refine k_iald B dX10_lotOf_170 (h1.i (k := 30) rfl (by decide)) (vp_in_nI hi40 (by decide)) ?_
        refine kK.rei (y := (sLo z i).2.2.2.1) (by rw [nI_clamp (by omega)]; exact t4) ?_
        refine k_iret B hr dX10_lotOf_171 ?_ (by first | exact Nat.le_of_ble_eq_true rfl | omega | (simp only [kR, Value.category, kCat_q, List.map, List.sum_cons, List.sum_nil]; omega)) (by first | exact Nat.le_of_ble_eq_true rfl | omega | (simp only [kR, Value.category, kCat_q, List.map, List.sum_cons, List.sum_nil]; omega))
        exact mPo.ok gg (by rw [rLotOf, cN_nI (show 8 < 2 ^ 31 by decide), if_neg (by decide), if_neg (by decide), if_neg (by decide), if_neg (by decide), if_neg (by decide), if_neg (by decide), if_neg (by decide), if_neg (by decide), if_pos rfl, hci]) h1.cl fh1
      · subst q
        refine k_tabIn B 172 dX10_lotOf_42 (by decide) (by decide) (off := 130) (by decide) (by decide) ?_
        refine k_aload_n B dX10_lotOf_172 rfl (by first | exact kRf_r _ | exact kRf_q _ | exact kRf_n) ?_
        refine gf_X10_80 B dX10_lotOf_173 h1.o rfl ?_
        refine k_iload_n B dX10_lotOf_176 rfl ?_
        refine k_iald B dX10_lotOf_177 (h1.i (k := 30) rfl (by decide)) (vp_in_nI hi40 (by decide)) ?_
        refine kK.rei (y := (sLo z i).2.2.2.1) (by rw [nI_clamp (by omega)]; exact t4) ?_
        refine k_iconst B (v := (-1)) dX10_lotOf_178 (by decide) ?_
        refine k_icmp_ne B 186 dX10_lotOf_179 (by decide) (fun c179 => ?_) (fun c179 => ?_)
        · refine k_aload_n B dX10_lotOf_186 rfl (by first | exact kRf_r _ | exact kRf_q _ | exact kRf_n) ?_
          refine gf_X10_83 B dX10_lotOf_187 h1.o rfl ?_
          refine k_iload_n B dX10_lotOf_190 rfl ?_
          refine k_zald B dX10_lotOf_191 (h1.zb (k := 31) rfl (by decide)) (vp_in_nI hi40 (by decide)) ?_
          refine kK.rei (y := (sLo z i).2.2.2.2.1) (by rw [nI_clamp (by omega)]; exact t5) ?_
          refine k_if_eq B 199 dX10_lotOf_192 (by decide) (fun c192 => ?_) (fun c192 => ?_)
          · refine k_iconst B (v := 0) dX10_lotOf_199 (by decide) ?_
            refine k_iret B hr dX10_lotOf_200 ?_ (by first | exact Nat.le_of_ble_eq_true rfl | omega | (simp only [kR, Value.category, kCat_q, List.map, List.sum_cons, List.sum_nil]; omega)) (by first | exact Nat.le_of_ble_eq_true rfl | omega | (simp only [kR, Value.category, kCat_q, List.map, List.sum_cons, List.sum_nil]; omega))
            exact mPo.ok gg (by rw [rLotOf, cN_nI (show 9 < 2 ^ 31 by decide), if_neg (by decide), if_neg (by decide), if_neg (by decide), if_neg (by decide), if_neg (by decide), if_neg (by decide), if_neg (by decide), if_neg (by decide), if_neg (by decide), if_pos rfl, hci, truI, if_neg c179, if_pos c192]) h1.cl fh1
          · refine k_iconst B (v := 1) dX10_lotOf_195 (by decide) ?_
            refine k_goto B 200 dX10_lotOf_196 (by decide) ?_
            refine k_iret B hr dX10_lotOf_200 ?_ (by first | exact Nat.le_of_ble_eq_true rfl | omega | (simp only [kR, Value.category, kCat_q, List.map, List.sum_cons, List.sum_nil]; omega)) (by first | exact Nat.le_of_ble_eq_true rfl | omega | (simp only [kR, Value.category, kCat_q, List.map, List.sum_cons, List.sum_nil]; omega))
            exact mPo.ok gg (by rw [rLotOf, cN_nI (show 9 < 2 ^ 31 by decide), if_neg (by decide), if_neg (by decide), if_neg (by decide), if_neg (by decide), if_neg (by decide), if_neg (by decide), if_neg (by decide), if_neg (by decide), if_neg (by decide), if_pos rfl, hci, truI, if_neg c179, if_neg c192]) h1.cl fh1
        · refine k_iconst B (v := (-1)) dX10_lotOf_182 (by decide) ?_
          refine k_goto B 200 dX10_lotOf_183 (by decide) ?_
          refine k_iret B hr dX10_lotOf_200 ?_ (by first | exact Nat.le_of_ble_eq_true rfl | omega | (simp only [kR, Value.category, kCat_q, List.map, List.sum_cons, List.sum_nil]; omega)) (by first | exact Nat.le_of_ble_eq_true rfl | omega | (simp only [kR, Value.category, kCat_q, List.map, List.sum_cons, List.sum_nil]; omega))
          exact mPo.ok gg (by rw [rLotOf, cN_nI (show 9 < 2 ^ 31 by decide), if_neg (by decide), if_neg (by decide), if_neg (by decide), if_neg (by decide), if_neg (by decide), if_neg (by decide), if_neg (by decide), if_neg (by decide), if_neg (by decide), if_pos rfl, hci, truI, if_pos c179]) h1.cl fh1
      · subst q
        refine k_tabOut B 201 dX10_lotOf_42 (by decide) (by decide) ?_
        refine k_aload_n B dX10_lotOf_201 rfl (by first | exact kRf_r _ | exact kRf_q _ | exact kRf_n) ?_
        refine gf_X10_87 B dX10_lotOf_202 h1.o rfl ?_
        refine k_iload_n B dX10_lotOf_205 rfl ?_
        refine k_zald B dX10_lotOf_206 (h1.zb (k := 32) rfl (by decide)) (vp_in_nI hi40 (by decide)) ?_
        refine kK.rei (y := (sLo z i).2.2.2.2.2) (by rw [nI_clamp (by omega)]; exact t6) ?_
        refine k_if_eq B 214 dX10_lotOf_207 (by decide) (fun c207 => ?_) (fun c207 => ?_)
        · refine k_iconst B (v := 0) dX10_lotOf_214 (by decide) ?_
          refine k_iret B hr dX10_lotOf_215 ?_ (by first | exact Nat.le_of_ble_eq_true rfl | omega | (simp only [kR, Value.category, kCat_q, List.map, List.sum_cons, List.sum_nil]; omega)) (by first | exact Nat.le_of_ble_eq_true rfl | omega | (simp only [kR, Value.category, kCat_q, List.map, List.sum_cons, List.sum_nil]; omega))
          exact mPo.ok gg (by rw [rLotOf, cN_nI (show 10 < 2 ^ 31 by decide), if_neg (by decide), if_neg (by decide), if_neg (by decide), if_neg (by decide), if_neg (by decide), if_neg (by decide), if_neg (by decide), if_neg (by decide), if_neg (by decide), if_neg (by decide), hci, if_pos c207]) h1.cl fh1
        · refine k_iconst B (v := 1) dX10_lotOf_210 (by decide) ?_
          refine k_goto B 215 dX10_lotOf_211 (by decide) ?_
          refine k_iret B hr dX10_lotOf_215 ?_ (by first | exact Nat.le_of_ble_eq_true rfl | omega | (simp only [kR, Value.category, kCat_q, List.map, List.sum_cons, List.sum_nil]; omega)) (by first | exact Nat.le_of_ble_eq_true rfl | omega | (simp only [kR, Value.category, kCat_q, List.map, List.sum_cons, List.sum_nil]; omega))
          exact mPo.ok gg (by rw [rLotOf, cN_nI (show 10 < 2 ^ 31 by decide), if_neg (by decide), if_neg (by decide), if_neg (by decide), if_neg (by decide), if_neg (by decide), if_neg (by decide), if_neg (by decide), if_neg (by decide), if_neg (by decide), if_neg (by decide), hci, if_neg c207]) h1.cl fh1
  · refine k_iconst B (v := 1) dX10_lotOf_9 (by decide) ?_
    refine k_goto B 28 dX10_lotOf_10 (by decide) ?_
    refine cl_X10_107 B (c_X10_can hl h.m) h.o dX10_lotOf_28 (by first | exact Nat.le_of_ble_eq_true rfl | omega | (simp only [kR, Value.category, kCat_q, List.map, List.sum_cons, List.sum_nil]; omega)) (by first | exact Nat.le_of_ble_eq_true rfl | omega | (simp only [kR, Value.category, kCat_q, List.map, List.sum_cons, List.sum_nil]; omega)) (by first | exact Nat.le_of_ble_eq_true rfl | omega | (simp only [kR, Value.category, kCat_q, List.map, List.sum_cons, List.sum_nil]; omega)) (by first | exact Nat.le_of_ble_eq_true rfl | omega | (simp only [kR, Value.category, kCat_q, List.map, List.sum_cons, List.sum_nil]; omega)) (by first | exact Nat.le_of_ble_eq_true rfl | omega | (simp only [kR, Value.category, kCat_q, List.map, List.sum_cons, List.sum_nil]; omega)) (fun _ hx => hx.elim) (fun v28 s28 hp28 => ?_)
    obtain ⟨rfl, e28⟩ := hp28
    rw [e28]
    refine k_if_ne B 36 dX10_lotOf_31 (by decide) (fun c31 => absurd (by decide) c31) (fun _ => ?_)
    refine k_iconst B (v := 0) dX10_lotOf_34 (by decide) ?_
    refine k_iret B hr dX10_lotOf_35 ?_ (by first | exact Nat.le_of_ble_eq_true rfl | omega | (simp only [kR, Value.category, kCat_q, List.map, List.sum_cons, List.sum_nil]; omega)) (by first | exact Nat.le_of_ble_eq_true rfl | omega | (simp only [kR, Value.category, kCat_q, List.map, List.sum_cons, List.sum_nil]; omega))
    exact mPo.no h (gIx_n ⟨rfl, in_n (n := sLn z) (by omega) rfl (bI_q c6)⟩) tCd_I rfl
set_option maxRecDepth 100000 in
theorem c_X10_sum (hl : l.stackTraces = false) (hs : sOk z) (h : cl10 D aM ma z t σ) {y : Int32} : kMh hX10_sum l D yX10_sum 4 0 0 [.ref aM, .int y] σ (mPo D aM ma z (gSum y) (some (.long (rSum z y))) (z) (tCd 1 1 1) σ) (fun _ => False) := by
  refine kM_of (L := [some (.ref aM), some (.int y)]) (by decide +kernel) hl (List.forall_mem_cons.mpr ⟨rfl, (List.forall_mem_cons.mpr ⟨rfl, (fun _ h => absurd h List.not_mem_nil)⟩)⟩) (Nat.le_of_ble_eq_true rfl) rfl ?_
  intro p e s m args below meth c B hr hex hnm
  have B : kB p l s m args meth c D (kA σ s.heap.size) 2 cX10_sum RX10 := B
  obtain ⟨mv, kn, Lk, h⟩ := h
  have h40 := hs.2.2.2.1.1
  have hw6 := hs.2.2.1.1
  refine k_aload_n B dX10_sum_0 rfl (by first | exact kRf_r _ | exact kRf_q _ | exact kRf_n) ?_
  refine k_iload_n B dX10_sum_1 rfl ?_
  refine k_iconst B (v := 0) dX10_sum_2 (by decide) ?_
  refine k_bipush B (v := 6) dX10_sum_3 (by decide) ?_
  refine cl_X10_93 B (c_X10_isIn hl) dX10_sum_5 (by first | exact Nat.le_of_ble_eq_true rfl | omega | (simp only [kR, Value.category, kCat_q, List.map, List.sum_cons, List.sum_nil]; omega)) (by first | exact Nat.le_of_ble_eq_true rfl | omega | (simp only [kR, Value.category, kCat_q, List.map, List.sum_cons, List.sum_nil]; omega)) (by first | exact Nat.le_of_ble_eq_true rfl | omega | (simp only [kR, Value.category, kCat_q, List.map, List.sum_cons, List.sum_nil]; omega)) (by first | exact Nat.le_of_ble_eq_true rfl | omega | (simp only [kR, Value.category, kCat_q, List.map, List.sum_cons, List.sum_nil]; omega)) (by first | exact Nat.le_of_ble_eq_true rfl | omega | (simp only [kR, Value.category, kCat_q, List.map, List.sum_cons, List.sum_nil]; omega)) (fun _ hx => hx.elim) (fun v5 s5 hp5 => ?_)
  obtain ⟨rfl, e5⟩ := hp5
  rw [e5]
  refine k_if_eq B 15 dX10_sum_8 (by decide) (fun c8 => ?_) (fun c8 => ?_)
  · refine k_iconst B (v := 1) dX10_sum_15 (by decide) ?_
    refine cl_X10_107 B (c_X10_can hl h.m) h.o dX10_sum_16 (by first | exact Nat.le_of_ble_eq_true rfl | omega | (simp only [kR, Value.category, kCat_q, List.map, List.sum_cons, List.sum_nil]; omega)) (by first | exact Nat.le_of_ble_eq_true rfl | omega | (simp only [kR, Value.category, kCat_q, List.map, List.sum_cons, List.sum_nil]; omega)) (by first | exact Nat.le_of_ble_eq_true rfl | omega | (simp only [kR, Value.category, kCat_q, List.map, List.sum_cons, List.sum_nil]; omega)) (by first | exact Nat.le_of_ble_eq_true rfl | omega | (simp only [kR, Value.category, kCat_q, List.map, List.sum_cons, List.sum_nil]; omega)) (by first | exact Nat.le_of_ble_eq_true rfl | omega | (simp only [kR, Value.category, kCat_q, List.map, List.sum_cons, List.sum_nil]; omega)) (fun _ hx => hx.elim) (fun v16 s16 hp16 => ?_)
    obtain ⟨rfl, e16⟩ := hp16
    rw [e16]
    refine k_if_ne B 24 dX10_sum_19 (by decide) (fun c19 => absurd (by decide) c19) (fun _ => ?_)
    refine k_lconst B (v := 0) dX10_sum_22 (by decide) ?_
    refine k_lret B hr dX10_sum_23 ?_ (by first | exact Nat.le_of_ble_eq_true rfl | omega | (simp only [kR, Value.category, kCat_q, List.map, List.sum_cons, List.sum_nil]; omega)) (by first | exact Nat.le_of_ble_eq_true rfl | omega | (simp only [kR, Value.category, kCat_q, List.map, List.sum_cons, List.sum_nil]; omega))
    exact mPo.no h (gRg_n ⟨rfl, rg_q c8⟩) tCd_A rfl
  · have g2 : inR y 0 6 := rg_p c8
    have gg : gSum y = none := gRg_p g2
    obtain ⟨j, hj1, hj2, ej⟩ := inR_of (a := 0) (n := 6) rfl rfl (by decide) (by decide) g2
    subst ej
    refine k_iconst B (v := 0) dX10_sum_11 (by decide) ?_
    refine k_goto B 16 dX10_sum_12 (by decide) ?_
    refine cl_X10_107 B (c_X10_can hl h.m) h.o dX10_sum_16 (by first | exact Nat.le_of_ble_eq_true rfl | omega | (simp only [kR, Value.category, kCat_q, List.map, List.sum_cons, List.sum_nil]; omega)) (by first | exact Nat.le_of_ble_eq_true rfl | omega | (simp only [kR, Value.category, kCat_q, List.map, List.sum_cons, List.sum_nil]; omega)) (by first | exact Nat.le_of_ble_eq_true rfl | omega | (simp only [kR, Value.category, kCat_q, List.map, List.sum_cons, List.sum_nil]; omega)) (by first | exact Nat.le_of_ble_eq_true rfl | omega | (simp only [kR, Value.category, kCat_q, List.map, List.sum_cons, List.sum_nil]; omega)) (by first | exact Nat.le_of_ble_eq_true rfl | omega | (simp only [kR, Value.category, kCat_q, List.map, List.sum_cons, List.sum_nil]; omega)) (fun _ hx => hx.elim) (fun v16 s16 hp16 => ?_)
    obtain ⟨rfl, e16⟩ := hp16
    rw [e16]
    refine k_if_ne B 24 dX10_sum_19 (by decide) (fun _ => ?_) (fun c19 => absurd c19 (by decide))
    have h1 := h.can 0
    have fh1 : kOut (mOwn aM ma) σ (kUp σ aM (m10E ma (setT (qZ z kn t) 0))) := kOut.up mOwn.o
    refine k_iload_n B dX10_sum_24 rfl ?_
    rcases (show j = 0 ∨ j = 1 ∨ j = 2 ∨ j = 3 ∨ j = 4 ∨ j = 5 ∨ j = 6 by omega) with q | q | q | q | q | q | q
    · subst q
      refine k_tabIn B 64 dX10_sum_25 (by decide) (by decide) (off := 39) (by decide) (by decide) ?_
      refine k_aload_n B dX10_sum_64 rfl (by first | exact kRf_r _ | exact kRf_q _ | exact kRf_n) ?_
      refine gf_X10_134 B dX10_sum_65 h1.o rfl ?_
      refine k_lret B hr dX10_sum_68 ?_ (by first | exact Nat.le_of_ble_eq_true rfl | omega | (simp only [kR, Value.category, kCat_q, List.map, List.sum_cons, List.sum_nil]; omega)) (by first | exact Nat.le_of_ble_eq_true rfl | omega | (simp only [kR, Value.category, kCat_q, List.map, List.sum_cons, List.sum_nil]; omega))
      exact mPo.ok gg (by rw [rSum, cN_nI (show 0 < 2 ^ 31 by decide), if_pos rfl]; rfl) h1.cl fh1
    · subst q
      refine k_tabIn B 69 dX10_sum_25 (by decide) (by decide) (off := 44) (by decide) (by decide) ?_
      refine k_aload_n B dX10_sum_69 rfl (by first | exact kRf_r _ | exact kRf_q _ | exact kRf_n) ?_
      refine cl_X10_219 B (c_X10_held hl hs h1) h1.o dX10_sum_70 (by first | exact Nat.le_of_ble_eq_true rfl | omega | (simp only [kR, Value.category, kCat_q, List.map, List.sum_cons, List.sum_nil]; omega)) (by first | exact Nat.le_of_ble_eq_true rfl | omega | (simp only [kR, Value.category, kCat_q, List.map, List.sum_cons, List.sum_nil]; omega)) (by first | exact Nat.le_of_ble_eq_true rfl | omega | (simp only [kR, Value.category, kCat_q, List.map, List.sum_cons, List.sum_nil]; omega)) (by first | exact Nat.le_of_ble_eq_true rfl | omega | (simp only [kR, Value.category, kCat_q, List.map, List.sum_cons, List.sum_nil]; omega)) (by first | exact Nat.le_of_ble_eq_true rfl | omega | (simp only [kR, Value.category, kCat_q, List.map, List.sum_cons, List.sum_nil]; omega)) (fun _ hx => hx.elim) (fun v70 s70 hp70 => ?_)
      obtain ⟨rfl, e70⟩ := hp70
      rw [e70]
      refine kK.rev (y := .long (nL (fIn z))) rfl ?_
      refine k_lret B hr dX10_sum_73 ?_ (by first | exact Nat.le_of_ble_eq_true rfl | omega | (simp only [kR, Value.category, kCat_q, List.map, List.sum_cons, List.sum_nil]; omega)) (by first | exact Nat.le_of_ble_eq_true rfl | omega | (simp only [kR, Value.category, kCat_q, List.map, List.sum_cons, List.sum_nil]; omega))
      exact mPo.ok gg (by rw [rSum, cN_nI (show 1 < 2 ^ 31 by decide), if_neg (by decide), if_pos rfl]) h1.cl fh1
    · subst q
      refine k_tabIn B 74 dX10_sum_25 (by decide) (by decide) (off := 49) (by decide) (by decide) ?_
      refine k_aload_n B dX10_sum_74 rfl (by first | exact kRf_r _ | exact kRf_q _ | exact kRf_n) ?_
      refine gf_X10_142 B dX10_sum_75 h1.o rfl ?_
      refine k_lret B hr dX10_sum_78 ?_ (by first | exact Nat.le_of_ble_eq_true rfl | omega | (simp only [kR, Value.category, kCat_q, List.map, List.sum_cons, List.sum_nil]; omega)) (by first | exact Nat.le_of_ble_eq_true rfl | omega | (simp only [kR, Value.category, kCat_q, List.map, List.sum_cons, List.sum_nil]; omega))
      exact mPo.ok gg (by rw [rSum, cN_nI (show 2 < 2 ^ 31 by decide), if_neg (by decide), if_neg (by decide), if_pos rfl]; rfl) h1.cl fh1
    · subst q
      refine k_tabIn B 79 dX10_sum_25 (by decide) (by decide) (off := 54) (by decide) (by decide) ?_
      refine k_aload_n B dX10_sum_79 rfl (by first | exact kRf_r _ | exact kRf_q _ | exact kRf_n) ?_
      refine gf_X10_174 B dX10_sum_80 h1.o rfl ?_
      refine k_lret B hr dX10_sum_83 ?_ (by first | exact Nat.le_of_ble_eq_true rfl | omega | (simp only [kR, Value.category, kCat_q, List.map, List.sum_cons, List.sum_nil]; omega)) (by first | exact Nat.le_of_ble_eq_true rfl | omega | (simp only [kR, Value.category, kCat_q, List.map, List.sum_cons, List.sum_nil]; omega))
      exact mPo.ok gg (by rw [rSum, cN_nI (show 3 < 2 ^ 31 by decide), if_neg (by decide), if_neg (by decide), if_neg (by decide), if_pos rfl]; rfl) h1.cl fh1
    · subst q
      refine k_tabIn B 84 dX10_sum_25 (by decide) (by decide) (off := 59) (by decide) (by decide) ?_
      refine k_aload_n B dX10_sum_84 rfl (by first | exact kRf_r _ | exact kRf_q _ | exact kRf_n) ?_
      refine gf_X10_148 B dX10_sum_85 h1.o rfl ?_
      refine k_lret B hr dX10_sum_88 ?_ (by first | exact Nat.le_of_ble_eq_true rfl | omega | (simp only [kR, Value.category, kCat_q, List.map, List.sum_cons, List.sum_nil]; omega)) (by first | exact Nat.le_of_ble_eq_true rfl | omega | (simp only [kR, Value.category, kCat_q, List.map, List.sum_cons, List.sum_nil]; omega))
      exact mPo.ok gg (by rw [rSum, cN_nI (show 4 < 2 ^ 31 by decide), if_neg (by decide), if_neg (by decide), if_neg (by decide), if_neg (by decide), if_pos rfl]; rfl) h1.cl fh1
    · subst q
      refine k_tabIn B 89 dX10_sum_25 (by decide) (by decide) (off := 64) (by decide) (by decide) ?_
      refine k_aload_n B dX10_sum_89 rfl (by first | exact kRf_r _ | exact kRf_q _ | exact kRf_n) ?_
      refine gf_X10_177 B dX10_sum_90 h1.o rfl ?_
      refine k_lret B hr dX10_sum_93 ?_ (by first | exact Nat.le_of_ble_eq_true rfl | omega | (simp only [kR, Value.category, kCat_q, List.map, List.sum_cons, List.sum_nil]; omega)) (by first | exact Nat.le_of_ble_eq_true rfl | omega | (simp only [kR, Value.category, kCat_q, List.map, List.sum_cons, List.sum_nil]; omega))
      exact mPo.ok gg (by rw [rSum, cN_nI (show 5 < 2 ^ 31 by decide), if_neg (by decide), if_neg (by decide), if_neg (by decide), if_neg (by decide), if_neg (by decide), if_pos rfl]; rfl) h1.cl fh1
    · subst q
      refine k_tabOut B 94 dX10_sum_25 (by decide) (by decide) ?_
      refine k_aload_n B dX10_sum_94 rfl (by first | exact kRf_r _ | exact kRf_q _ | exact kRf_n) ?_
      refine cl_X10_223 B (c_X10_falseOnes hl hs h1) h1.o dX10_sum_95 (by first | exact Nat.le_of_ble_eq_true rfl | omega | (simp only [kR, Value.category, kCat_q, List.map, List.sum_cons, List.sum_nil]; omega)) (by first | exact Nat.le_of_ble_eq_true rfl | omega | (simp only [kR, Value.category, kCat_q, List.map, List.sum_cons, List.sum_nil]; omega)) (by first | exact Nat.le_of_ble_eq_true rfl | omega | (simp only [kR, Value.category, kCat_q, List.map, List.sum_cons, List.sum_nil]; omega)) (by first | exact Nat.le_of_ble_eq_true rfl | omega | (simp only [kR, Value.category, kCat_q, List.map, List.sum_cons, List.sum_nil]; omega)) (by first | exact Nat.le_of_ble_eq_true rfl | omega | (simp only [kR, Value.category, kCat_q, List.map, List.sum_cons, List.sum_nil]; omega)) (fun _ hx => hx.elim) (fun v95 s95 hp95 => ?_)
      obtain ⟨rfl, e95⟩ := hp95
      rw [e95]
      refine kK.rev (y := .long (nL (fFal z))) rfl ?_
      refine k_lret B hr dX10_sum_98 ?_ (by first | exact Nat.le_of_ble_eq_true rfl | omega | (simp only [kR, Value.category, kCat_q, List.map, List.sum_cons, List.sum_nil]; omega)) (by first | exact Nat.le_of_ble_eq_true rfl | omega | (simp only [kR, Value.category, kCat_q, List.map, List.sum_cons, List.sum_nil]; omega))
      exact mPo.ok gg (by rw [rSum, cN_nI (show 6 < 2 ^ 31 by decide), if_neg (by decide), if_neg (by decide), if_neg (by decide), if_neg (by decide), if_neg (by decide), if_neg (by decide)]) h1.cl fh1
set_option maxRecDepth 100000 in
theorem c_X10_best (hl : l.stackTraces = false) (hs : sOk z) (h : cl10 D aM ma z t σ) {c9 : Int32} : kMh hX10_best l D yX10_best 5 0 0 [.ref aM, .int c9] σ (mPo D aM ma z (gBest z c9) (some (.int (rBest z c9))) (z) (tCd 1 1 1) σ) (fun _ => False) := by
  refine kM_of (L := [some (.ref aM), some (.int c9)]) (by decide +kernel) hl (List.forall_mem_cons.mpr ⟨rfl, (List.forall_mem_cons.mpr ⟨rfl, (fun _ h => absurd h List.not_mem_nil)⟩)⟩) (Nat.le_of_ble_eq_true rfl) rfl ?_
  intro p e s m args below meth c B hr hex hnm
  have B : kB p l s m args meth c D (kA σ s.heap.size) 2 cX10_best RX10 := B
  obtain ⟨mv, kn, Lk, h⟩ := h
  have h40 := hs.2.2.2.1.1
  have hw6 := hs.2.2.1.1
  refine k_aload_n B dX10_best_0 rfl (by first | exact kRf_r _ | exact kRf_q _ | exact kRf_n) ?_
  refine k_aload_n B dX10_best_1 rfl (by first | exact kRf_r _ | exact kRf_q _ | exact kRf_n) ?_
  refine k_iload_n B dX10_best_2 rfl ?_
  refine cl_X10_180 B (c_X10_isLot hl h.m) h.o dX10_best_3 (by first | exact Nat.le_of_ble_eq_true rfl | omega | (simp only [kR, Value.category, kCat_q, List.map, List.sum_cons, List.sum_nil]; omega)) (by first | exact Nat.le_of_ble_eq_true rfl | omega | (simp only [kR, Value.category, kCat_q, List.map, List.sum_cons, List.sum_nil]; omega)) (by first | exact Nat.le_of_ble_eq_true rfl | omega | (simp only [kR, Value.category, kCat_q, List.map, List.sum_cons, List.sum_nil]; omega)) (by first | exact Nat.le_of_ble_eq_true rfl | omega | (simp only [kR, Value.category, kCat_q, List.map, List.sum_cons, List.sum_nil]; omega)) (by first | exact Nat.le_of_ble_eq_true rfl | omega | (simp only [kR, Value.category, kCat_q, List.map, List.sum_cons, List.sum_nil]; omega)) (fun _ hx => hx.elim) (fun v3 s3 hp3 => ?_)
  obtain ⟨rfl, e3⟩ := hp3
  rw [e3]
  refine k_if_eq B 13 dX10_best_6 (by decide) (fun c6 => ?_) (fun c6 => ?_)
  · refine k_iconst B (v := 1) dX10_best_13 (by decide) ?_
    refine cl_X10_107 B (c_X10_can hl h.m) h.o dX10_best_14 (by first | exact Nat.le_of_ble_eq_true rfl | omega | (simp only [kR, Value.category, kCat_q, List.map, List.sum_cons, List.sum_nil]; omega)) (by first | exact Nat.le_of_ble_eq_true rfl | omega | (simp only [kR, Value.category, kCat_q, List.map, List.sum_cons, List.sum_nil]; omega)) (by first | exact Nat.le_of_ble_eq_true rfl | omega | (simp only [kR, Value.category, kCat_q, List.map, List.sum_cons, List.sum_nil]; omega)) (by first | exact Nat.le_of_ble_eq_true rfl | omega | (simp only [kR, Value.category, kCat_q, List.map, List.sum_cons, List.sum_nil]; omega)) (by first | exact Nat.le_of_ble_eq_true rfl | omega | (simp only [kR, Value.category, kCat_q, List.map, List.sum_cons, List.sum_nil]; omega)) (fun _ hx => hx.elim) (fun v14 s14 hp14 => ?_)
    obtain ⟨rfl, e14⟩ := hp14
    rw [e14]
    refine k_if_eq B 28 dX10_best_17 (by decide) (fun _ => ?_) (fun c17 => absurd (by decide) c17)
    refine k_iconst B (v := 0) dX10_best_28 (by decide) ?_
    refine k_iret B hr dX10_best_29 ?_ (by first | exact Nat.le_of_ble_eq_true rfl | omega | (simp only [kR, Value.category, kCat_q, List.map, List.sum_cons, List.sum_nil]; omega)) (by first | exact Nat.le_of_ble_eq_true rfl | omega | (simp only [kR, Value.category, kCat_q, List.map, List.sum_cons, List.sum_nil]; omega))
    exact mPo.no h (gIx_n ⟨rfl, in_n (n := sLn z) (by omega) rfl (bI_q c6)⟩) tCd_I rfl
  · obtain ⟨i, hi, rfl, g1⟩ := in_p (n := sLn z) (by omega) rfl (bI_p c6)
    refine k_iconst B (v := 0) dX10_best_9 (by decide) ?_
    refine k_goto B 14 dX10_best_10 (by decide) ?_
    refine cl_X10_107 B (c_X10_can hl h.m) h.o dX10_best_14 (by first | exact Nat.le_of_ble_eq_true rfl | omega | (simp only [kR, Value.category, kCat_q, List.map, List.sum_cons, List.sum_nil]; omega)) (by first | exact Nat.le_of_ble_eq_true rfl | omega | (simp only [kR, Value.category, kCat_q, List.map, List.sum_cons, List.sum_nil]; omega)) (by first | exact Nat.le_of_ble_eq_true rfl | omega | (simp only [kR, Value.category, kCat_q, List.map, List.sum_cons, List.sum_nil]; omega)) (by first | exact Nat.le_of_ble_eq_true rfl | omega | (simp only [kR, Value.category, kCat_q, List.map, List.sum_cons, List.sum_nil]; omega)) (by first | exact Nat.le_of_ble_eq_true rfl | omega | (simp only [kR, Value.category, kCat_q, List.map, List.sum_cons, List.sum_nil]; omega)) (fun _ hx => hx.elim) (fun v14 s14 hp14 => ?_)
    obtain ⟨rfl, e14⟩ := hp14
    rw [e14]
    refine k_if_eq B 28 dX10_best_17 (by decide) (fun c17 => absurd c17 (by decide)) (fun _ => ?_)
    have h1 := h.can 0
    have fh1 : kOut (mOwn aM ma) σ (kUp σ aM (m10E ma (setT (qZ z kn t) 0))) := kOut.up mOwn.o
    refine k_aload_n B dX10_best_20 rfl (by first | exact kRf_r _ | exact kRf_q _ | exact kRf_n) ?_
    refine k_iload_n B dX10_best_21 rfl ?_
    refine cl_X10_209 B (c_X10_bestOf hl hs h1 hi) h1.o dX10_best_22 (by first | exact Nat.le_of_ble_eq_true rfl | omega | (simp only [kR, Value.category, kCat_q, List.map, List.sum_cons, List.sum_nil]; omega)) (by first | exact Nat.le_of_ble_eq_true rfl | omega | (simp only [kR, Value.category, kCat_q, List.map, List.sum_cons, List.sum_nil]; omega)) (by first | exact Nat.le_of_ble_eq_true rfl | omega | (simp only [kR, Value.category, kCat_q, List.map, List.sum_cons, List.sum_nil]; omega)) (by first | exact Nat.le_of_ble_eq_true rfl | omega | (simp only [kR, Value.category, kCat_q, List.map, List.sum_cons, List.sum_nil]; omega)) (by first | exact Nat.le_of_ble_eq_true rfl | omega | (simp only [kR, Value.category, kCat_q, List.map, List.sum_cons, List.sum_nil]; omega)) (fun _ hx => hx.elim) (fun v22 s22 hp22 => ?_)
    obtain ⟨rfl, e22⟩ := hp22
    rw [e22]
    refine kK.rev (y := .int (rBest z (nI i))) rfl ?_
    refine k_goto B 29 dX10_best_25 (by decide) ?_
    refine k_iret B hr dX10_best_29 ?_ (by first | exact Nat.le_of_ble_eq_true rfl | omega | (simp only [kR, Value.category, kCat_q, List.map, List.sum_cons, List.sum_nil]; omega)) (by first | exact Nat.le_of_ble_eq_true rfl | omega | (simp only [kR, Value.category, kCat_q, List.map, List.sum_cons, List.sum_nil]; omega))
    exact mPo.ok (gIx_p g1) rfl h1.cl fh1
set_option maxRecDepth 100000 in
theorem c_X10_from (hl : l.stackTraces = false) (hs : sOk z) (h : cl10 D aM ma z t σ) {l9 c9 y : Int32} : kMh hX10_from l D yX10_from 4 0 0 [.ref aM, .int l9, .int c9, .int y] σ (mPo D aM ma z (gFrom z l9 c9) (some (.int (rFrom z l9 c9 y))) (z) (tCd 1 1 1) σ) (fun _ => False) := by
  refine kM_of (L := [some (.ref aM), some (.int l9), some (.int c9), some (.int y)]) (by decide +kernel) hl (List.forall_mem_cons.mpr ⟨rfl, (List.forall_mem_cons.mpr ⟨rfl, (List.forall_mem_cons.mpr ⟨rfl, (List.forall_mem_cons.mpr ⟨rfl, (fun _ h => absurd h List.not_mem_nil)⟩)⟩)⟩)⟩) (Nat.le_of_ble_eq_true rfl) rfl ?_
  intro p e s m args below meth c B hr hex hnm
  have B : kB p l s m args meth c D (kA σ s.heap.size) 4 cX10_from RX10 := B
  obtain ⟨mv, kn, Lk, h⟩ := h
  have h40 := hs.2.2.2.1.1
  have hw6 := hs.2.2.1.1
  have bad : gFrom z l9 c9 = some eI → kK p l e (kR 4 0 0) s m args below meth c D (kA σ s.heap.size) 4 (kQ below args s D σ (mPo D aM ma z (gFrom z l9 c9) (some (.int (rFrom z l9 c9 y))) z (tCd 1 1 1) σ) (fun _ => False) 0 0) σ 0 0 20 [some (.ref aM), some (.int l9), some (.int c9), some (.int y)] [.ref aM] := by
    intro gg
    refine k_iconst B (v := 1) dX10_from_20 (by decide) ?_
    refine cl_X10_107 B (c_X10_can hl h.m) h.o dX10_from_21 (by first | exact Nat.le_of_ble_eq_true rfl | omega | (simp only [kR, Value.category, kCat_q, List.map, List.sum_cons, List.sum_nil]; omega)) (by first | exact Nat.le_of_ble_eq_true rfl | omega | (simp only [kR, Value.category, kCat_q, List.map, List.sum_cons, List.sum_nil]; omega)) (by first | exact Nat.le_of_ble_eq_true rfl | omega | (simp only [kR, Value.category, kCat_q, List.map, List.sum_cons, List.sum_nil]; omega)) (by first | exact Nat.le_of_ble_eq_true rfl | omega | (simp only [kR, Value.category, kCat_q, List.map, List.sum_cons, List.sum_nil]; omega)) (by first | exact Nat.le_of_ble_eq_true rfl | omega | (simp only [kR, Value.category, kCat_q, List.map, List.sum_cons, List.sum_nil]; omega)) (fun _ hx => hx.elim) (fun v21 s21 hp21 => ?_)
    obtain ⟨rfl, e21⟩ := hp21
    rw [e21]
    refine k_if_eq B 37 dX10_from_24 (by decide) (fun _ => ?_) (fun c24 => absurd (by decide) c24)
    refine k_iconst B (v := 0) dX10_from_37 (by decide) ?_
    refine k_iret B hr dX10_from_38 ?_ (by first | exact Nat.le_of_ble_eq_true rfl | omega | (simp only [kR, Value.category, kCat_q, List.map, List.sum_cons, List.sum_nil]; omega)) (by first | exact Nat.le_of_ble_eq_true rfl | omega | (simp only [kR, Value.category, kCat_q, List.map, List.sum_cons, List.sum_nil]; omega))
    exact mPo.no h (gg) tCd_I rfl
  refine k_aload_n B dX10_from_0 rfl (by first | exact kRf_r _ | exact kRf_q _ | exact kRf_n) ?_
  refine k_aload_n B dX10_from_1 rfl (by first | exact kRf_r _ | exact kRf_q _ | exact kRf_n) ?_
  refine k_iload_n B dX10_from_2 rfl ?_
  refine cl_X10_180 B (c_X10_isLot hl h.m) h.o dX10_from_3 (by first | exact Nat.le_of_ble_eq_true rfl | omega | (simp only [kR, Value.category, kCat_q, List.map, List.sum_cons, List.sum_nil]; omega)) (by first | exact Nat.le_of_ble_eq_true rfl | omega | (simp only [kR, Value.category, kCat_q, List.map, List.sum_cons, List.sum_nil]; omega)) (by first | exact Nat.le_of_ble_eq_true rfl | omega | (simp only [kR, Value.category, kCat_q, List.map, List.sum_cons, List.sum_nil]; omega)) (by first | exact Nat.le_of_ble_eq_true rfl | omega | (simp only [kR, Value.category, kCat_q, List.map, List.sum_cons, List.sum_nil]; omega)) (by first | exact Nat.le_of_ble_eq_true rfl | omega | (simp only [kR, Value.category, kCat_q, List.map, List.sum_cons, List.sum_nil]; omega)) (fun _ hx => hx.elim) (fun v3 s3 hp3 => ?_)
  obtain ⟨rfl, e3⟩ := hp3
  rw [e3]
  refine k_if_eq B 20 dX10_from_6 (by decide) (fun c6 => ?_) (fun c6 => ?_)
  · exact bad (gIx_n ⟨rfl, in_n (n := sLn z) (by omega) rfl (bI_q c6)⟩)
  · obtain ⟨i, hi, el, g1⟩ := in_p (n := sLn z) (by omega) rfl (bI_p c6)
    refine k_iload_n B dX10_from_9 rfl ?_
    refine cl_X10_103 B (c_X10_isCell hl) dX10_from_10 (by first | exact Nat.le_of_ble_eq_true rfl | omega | (simp only [kR, Value.category, kCat_q, List.map, List.sum_cons, List.sum_nil]; omega)) (by first | exact Nat.le_of_ble_eq_true rfl | omega | (simp only [kR, Value.category, kCat_q, List.map, List.sum_cons, List.sum_nil]; omega)) (by first | exact Nat.le_of_ble_eq_true rfl | omega | (simp only [kR, Value.category, kCat_q, List.map, List.sum_cons, List.sum_nil]; omega)) (by first | exact Nat.le_of_ble_eq_true rfl | omega | (simp only [kR, Value.category, kCat_q, List.map, List.sum_cons, List.sum_nil]; omega)) (by first | exact Nat.le_of_ble_eq_true rfl | omega | (simp only [kR, Value.category, kCat_q, List.map, List.sum_cons, List.sum_nil]; omega)) (fun _ hx => hx.elim) (fun v10 s10 hp10 => ?_)
    obtain ⟨rfl, e10⟩ := hp10
    rw [e10]
    refine k_if_eq B 20 dX10_from_13 (by decide) (fun c13 => ?_) (fun c13 => ?_)
    · exact bad ((gIx_p g1).trans (gIx_n ⟨rfl, no10 (bI_q c13)⟩))
    · obtain ⟨j, hj, ej⟩ := i9_10 (bI_p c13)
      obtain ⟨r51, hL, hcon, hpk⟩ := h.row hs (i := 11 + i) (by omega)
      have gg : gFrom z l9 c9 = none := (gIx_p g1).trans (gIx_p (by rw [ej]; exact nI_10 hj))
      refine k_iconst B (v := 0) dX10_from_16 (by decide) ?_
      refine k_goto B 21 dX10_from_17 (by decide) ?_
      refine cl_X10_107 B (c_X10_can hl h.m) h.o dX10_from_21 (by first | exact Nat.le_of_ble_eq_true rfl | omega | (simp only [kR, Value.category, kCat_q, List.map, List.sum_cons, List.sum_nil]; omega)) (by first | exact Nat.le_of_ble_eq_true rfl | omega | (simp only [kR, Value.category, kCat_q, List.map, List.sum_cons, List.sum_nil]; omega)) (by first | exact Nat.le_of_ble_eq_true rfl | omega | (simp only [kR, Value.category, kCat_q, List.map, List.sum_cons, List.sum_nil]; omega)) (by first | exact Nat.le_of_ble_eq_true rfl | omega | (simp only [kR, Value.category, kCat_q, List.map, List.sum_cons, List.sum_nil]; omega)) (by first | exact Nat.le_of_ble_eq_true rfl | omega | (simp only [kR, Value.category, kCat_q, List.map, List.sum_cons, List.sum_nil]; omega)) (fun _ hx => hx.elim) (fun v21 s21 hp21 => ?_)
      obtain ⟨rfl, e21⟩ := hp21
      rw [e21]
      refine k_if_eq B 37 dX10_from_24 (by decide) (fun c24 => absurd c24 (by decide)) (fun _ => ?_)
      have h1 := h.can 0
      have fh1 : kOut (mOwn aM ma) σ (kUp σ aM (m10E ma (setT (qZ z kn t) 0))) := kOut.up mOwn.o
      rw [el]
      refine k_aload_n B dX10_from_27 rfl (by first | exact kRf_r _ | exact kRf_q _ | exact kRf_n) ?_
      refine k_iload_n B dX10_from_28 rfl ?_
      refine k_iload_n B dX10_from_29 rfl ?_
      refine k_iload_n B dX10_from_30 rfl ?_
      refine cl_X10_212 B (c_X10_fromOf hl h1.m (by omega) hL (fun a ha => (hpk a ha).1)) h1.o dX10_from_31 (by first | exact Nat.le_of_ble_eq_true rfl | omega | (simp only [kR, Value.category, kCat_q, List.map, List.sum_cons, List.sum_nil]; omega)) (by first | exact Nat.le_of_ble_eq_true rfl | omega | (simp only [kR, Value.category, kCat_q, List.map, List.sum_cons, List.sum_nil]; omega)) (by first | exact Nat.le_of_ble_eq_true rfl | omega | (simp only [kR, Value.category, kCat_q, List.map, List.sum_cons, List.sum_nil]; omega)) (by first | exact Nat.le_of_ble_eq_true rfl | omega | (simp only [kR, Value.category, kCat_q, List.map, List.sum_cons, List.sum_nil]; omega)) (by first | exact Nat.le_of_ble_eq_true rfl | omega | (simp only [kR, Value.category, kCat_q, List.map, List.sum_cons, List.sum_nil]; omega)) (fun _ hx => hx.elim) (fun v31 s31 hp31 => ?_)
      obtain ⟨rfl, e31⟩ := hp31
      rw [e31]
      refine kK.rev (y := .int (rFrom z l9 c9 y)) (by rw [rFrom, el, cN_nI (by omega), ← hcon] <;> rfl) ?_
      refine k_goto B 38 dX10_from_34 (by decide) ?_
      refine k_iret B hr dX10_from_38 ?_ (by first | exact Nat.le_of_ble_eq_true rfl | omega | (simp only [kR, Value.category, kCat_q, List.map, List.sum_cons, List.sum_nil]; omega)) (by first | exact Nat.le_of_ble_eq_true rfl | omega | (simp only [kR, Value.category, kCat_q, List.map, List.sum_cons, List.sum_nil]; omega))
      exact mPo.ok (by rw [← el]; exact gg) (by rw [← el]) h1.cl fh1
set_option maxRecDepth 100000 in
theorem c_X10_fromAnew (hl : l.stackTraces = false) (hs : sOk z) (h : cl10 D aM ma z t σ) {l9 c9 y : Int32} : kMh hX10_fromAnew l D yX10_fromAnew 4 0 0 [.ref aM, .int l9, .int c9, .int y] σ (mPo D aM ma z (gFrom z l9 c9) (some (.int (rFrom z l9 c9 y))) (z) (tCd 1 1 1) σ) (fun _ => False) := by
  refine kM_of (L := [some (.ref aM), some (.int l9), some (.int c9), some (.int y)]) (by decide +kernel) hl (List.forall_mem_cons.mpr ⟨rfl, (List.forall_mem_cons.mpr ⟨rfl, (List.forall_mem_cons.mpr ⟨rfl, (List.forall_mem_cons.mpr ⟨rfl, (fun _ h => absurd h List.not_mem_nil)⟩)⟩)⟩)⟩) (Nat.le_of_ble_eq_true rfl) rfl ?_
  intro p e s m args below meth c B hr hex hnm
  have B : kB p l s m args meth c D (kA σ s.heap.size) 4 cX10_fromAnew RX10 := B
  obtain ⟨mv, kn, Lk, h⟩ := h
  have h40 := hs.2.2.2.1.1
  have hw6 := hs.2.2.1.1
  have bad : gFrom z l9 c9 = some eI → kK p l e (kR 4 0 0) s m args below meth c D (kA σ s.heap.size) 4 (kQ below args s D σ (mPo D aM ma z (gFrom z l9 c9) (some (.int (rFrom z l9 c9 y))) z (tCd 1 1 1) σ) (fun _ => False) 0 0) σ 0 0 20 [some (.ref aM), some (.int l9), some (.int c9), some (.int y)] [.ref aM] := by
    intro gg
    refine k_iconst B (v := 1) dX10_fromAnew_20 (by decide) ?_
    refine cl_X10_107 B (c_X10_can hl h.m) h.o dX10_fromAnew_21 (by first | exact Nat.le_of_ble_eq_true rfl | omega | (simp only [kR, Value.category, kCat_q, List.map, List.sum_cons, List.sum_nil]; omega)) (by first | exact Nat.le_of_ble_eq_true rfl | omega | (simp only [kR, Value.category, kCat_q, List.map, List.sum_cons, List.sum_nil]; omega)) (by first | exact Nat.le_of_ble_eq_true rfl | omega | (simp only [kR, Value.category, kCat_q, List.map, List.sum_cons, List.sum_nil]; omega)) (by first | exact Nat.le_of_ble_eq_true rfl | omega | (simp only [kR, Value.category, kCat_q, List.map, List.sum_cons, List.sum_nil]; omega)) (by first | exact Nat.le_of_ble_eq_true rfl | omega | (simp only [kR, Value.category, kCat_q, List.map, List.sum_cons, List.sum_nil]; omega)) (fun _ hx => hx.elim) (fun v21 s21 hp21 => ?_)
    obtain ⟨rfl, e21⟩ := hp21
    rw [e21]
    refine k_if_eq B 37 dX10_fromAnew_24 (by decide) (fun _ => ?_) (fun c24 => absurd (by decide) c24)
    refine k_iconst B (v := 0) dX10_fromAnew_37 (by decide) ?_
    refine k_iret B hr dX10_fromAnew_38 ?_ (by first | exact Nat.le_of_ble_eq_true rfl | omega | (simp only [kR, Value.category, kCat_q, List.map, List.sum_cons, List.sum_nil]; omega)) (by first | exact Nat.le_of_ble_eq_true rfl | omega | (simp only [kR, Value.category, kCat_q, List.map, List.sum_cons, List.sum_nil]; omega))
    exact mPo.no h (gg) tCd_I rfl
  refine k_aload_n B dX10_fromAnew_0 rfl (by first | exact kRf_r _ | exact kRf_q _ | exact kRf_n) ?_
  refine k_aload_n B dX10_fromAnew_1 rfl (by first | exact kRf_r _ | exact kRf_q _ | exact kRf_n) ?_
  refine k_iload_n B dX10_fromAnew_2 rfl ?_
  refine cl_X10_180 B (c_X10_isLot hl h.m) h.o dX10_fromAnew_3 (by first | exact Nat.le_of_ble_eq_true rfl | omega | (simp only [kR, Value.category, kCat_q, List.map, List.sum_cons, List.sum_nil]; omega)) (by first | exact Nat.le_of_ble_eq_true rfl | omega | (simp only [kR, Value.category, kCat_q, List.map, List.sum_cons, List.sum_nil]; omega)) (by first | exact Nat.le_of_ble_eq_true rfl | omega | (simp only [kR, Value.category, kCat_q, List.map, List.sum_cons, List.sum_nil]; omega)) (by first | exact Nat.le_of_ble_eq_true rfl | omega | (simp only [kR, Value.category, kCat_q, List.map, List.sum_cons, List.sum_nil]; omega)) (by first | exact Nat.le_of_ble_eq_true rfl | omega | (simp only [kR, Value.category, kCat_q, List.map, List.sum_cons, List.sum_nil]; omega)) (fun _ hx => hx.elim) (fun v3 s3 hp3 => ?_)
  obtain ⟨rfl, e3⟩ := hp3
  rw [e3]
  refine k_if_eq B 20 dX10_fromAnew_6 (by decide) (fun c6 => ?_) (fun c6 => ?_)
  · exact bad (gIx_n ⟨rfl, in_n (n := sLn z) (by omega) rfl (bI_q c6)⟩)
  · obtain ⟨i, hi, el, g1⟩ := in_p (n := sLn z) (by omega) rfl (bI_p c6)
    refine k_iload_n B dX10_fromAnew_9 rfl ?_
    refine cl_X10_103 B (c_X10_isCell hl) dX10_fromAnew_10 (by first | exact Nat.le_of_ble_eq_true rfl | omega | (simp only [kR, Value.category, kCat_q, List.map, List.sum_cons, List.sum_nil]; omega)) (by first | exact Nat.le_of_ble_eq_true rfl | omega | (simp only [kR, Value.category, kCat_q, List.map, List.sum_cons, List.sum_nil]; omega)) (by first | exact Nat.le_of_ble_eq_true rfl | omega | (simp only [kR, Value.category, kCat_q, List.map, List.sum_cons, List.sum_nil]; omega)) (by first | exact Nat.le_of_ble_eq_true rfl | omega | (simp only [kR, Value.category, kCat_q, List.map, List.sum_cons, List.sum_nil]; omega)) (by first | exact Nat.le_of_ble_eq_true rfl | omega | (simp only [kR, Value.category, kCat_q, List.map, List.sum_cons, List.sum_nil]; omega)) (fun _ hx => hx.elim) (fun v10 s10 hp10 => ?_)
    obtain ⟨rfl, e10⟩ := hp10
    rw [e10]
    refine k_if_eq B 20 dX10_fromAnew_13 (by decide) (fun c13 => ?_) (fun c13 => ?_)
    · exact bad ((gIx_p g1).trans (gIx_n ⟨rfl, no10 (bI_q c13)⟩))
    · obtain ⟨j, hj, ej⟩ := i9_10 (bI_p c13)
      obtain ⟨r51, hL, hcon, hpk⟩ := h.row hs (i := 11 + i) (by omega)
      have gg : gFrom z l9 c9 = none := (gIx_p g1).trans (gIx_p (by rw [ej]; exact nI_10 hj))
      refine k_iconst B (v := 0) dX10_fromAnew_16 (by decide) ?_
      refine k_goto B 21 dX10_fromAnew_17 (by decide) ?_
      refine cl_X10_107 B (c_X10_can hl h.m) h.o dX10_fromAnew_21 (by first | exact Nat.le_of_ble_eq_true rfl | omega | (simp only [kR, Value.category, kCat_q, List.map, List.sum_cons, List.sum_nil]; omega)) (by first | exact Nat.le_of_ble_eq_true rfl | omega | (simp only [kR, Value.category, kCat_q, List.map, List.sum_cons, List.sum_nil]; omega)) (by first | exact Nat.le_of_ble_eq_true rfl | omega | (simp only [kR, Value.category, kCat_q, List.map, List.sum_cons, List.sum_nil]; omega)) (by first | exact Nat.le_of_ble_eq_true rfl | omega | (simp only [kR, Value.category, kCat_q, List.map, List.sum_cons, List.sum_nil]; omega)) (by first | exact Nat.le_of_ble_eq_true rfl | omega | (simp only [kR, Value.category, kCat_q, List.map, List.sum_cons, List.sum_nil]; omega)) (fun _ hx => hx.elim) (fun v21 s21 hp21 => ?_)
      obtain ⟨rfl, e21⟩ := hp21
      rw [e21]
      refine k_if_eq B 37 dX10_fromAnew_24 (by decide) (fun c24 => absurd c24 (by decide)) (fun _ => ?_)
      have h1 := h.can 0
      have fh1 : kOut (mOwn aM ma) σ (kUp σ aM (m10E ma (setT (qZ z kn t) 0))) := kOut.up mOwn.o
      rw [el]
      refine k_aload_n B dX10_fromAnew_27 rfl (by first | exact kRf_r _ | exact kRf_q _ | exact kRf_n) ?_
      refine k_iload_n B dX10_fromAnew_28 rfl ?_
      refine k_iload_n B dX10_fromAnew_29 rfl ?_
      refine k_iload_n B dX10_fromAnew_30 rfl ?_
      refine cl_X10_212 B (c_X10_fromOf hl h1.m (by omega) hL (fun a ha => (hpk a ha).1)) h1.o dX10_fromAnew_31 (by first | exact Nat.le_of_ble_eq_true rfl | omega | (simp only [kR, Value.category, kCat_q, List.map, List.sum_cons, List.sum_nil]; omega)) (by first | exact Nat.le_of_ble_eq_true rfl | omega | (simp only [kR, Value.category, kCat_q, List.map, List.sum_cons, List.sum_nil]; omega)) (by first | exact Nat.le_of_ble_eq_true rfl | omega | (simp only [kR, Value.category, kCat_q, List.map, List.sum_cons, List.sum_nil]; omega)) (by first | exact Nat.le_of_ble_eq_true rfl | omega | (simp only [kR, Value.category, kCat_q, List.map, List.sum_cons, List.sum_nil]; omega)) (by first | exact Nat.le_of_ble_eq_true rfl | omega | (simp only [kR, Value.category, kCat_q, List.map, List.sum_cons, List.sum_nil]; omega)) (fun _ hx => hx.elim) (fun v31 s31 hp31 => ?_)
      obtain ⟨rfl, e31⟩ := hp31
      rw [e31]
      refine kK.rev (y := .int (rFrom z l9 c9 y)) (by rw [rFrom, el, cN_nI (by omega), ← hcon] <;> rfl) ?_
      refine k_goto B 38 dX10_fromAnew_34 (by decide) ?_
      refine k_iret B hr dX10_fromAnew_38 ?_ (by first | exact Nat.le_of_ble_eq_true rfl | omega | (simp only [kR, Value.category, kCat_q, List.map, List.sum_cons, List.sum_nil]; omega)) (by first | exact Nat.le_of_ble_eq_true rfl | omega | (simp only [kR, Value.category, kCat_q, List.map, List.sum_cons, List.sum_nil]; omega))
      exact mPo.ok (by rw [← el]; exact gg) (by rw [← el]) h1.cl fh1
set_option maxRecDepth 100000 in
theorem c_X10_whence (hl : l.stackTraces = false) (hs : sOk z) (h : cl10 D aM ma z t σ) {l9 c9 : Int32} : kMh hX10_whence l D yX10_whence 4 0 0 [.ref aM, .int l9, .int c9] σ (mPo D aM ma z (gWhence z l9 c9) (some (.int (rWhence z l9 c9))) (z) (tCd 1 1 1) σ) (fun _ => False) := by
  refine kM_of (L := [some (.ref aM), some (.int l9), some (.int c9)]) (by decide +kernel) hl (List.forall_mem_cons.mpr ⟨rfl, (List.forall_mem_cons.mpr ⟨rfl, (List.forall_mem_cons.mpr ⟨rfl, (fun _ h => absurd h List.not_mem_nil)⟩)⟩)⟩) (Nat.le_of_ble_eq_true rfl) rfl ?_
  intro p e s m args below meth c B hr hex hnm
  have B : kB p l s m args meth c D (kA σ s.heap.size) 3 cX10_whence RX10 := B
  obtain ⟨mv, kn, Lk, h⟩ := h
  have h40 := hs.2.2.2.1.1
  have hw6 := hs.2.2.1.1
  have bad : gWhence z l9 c9 = some eI → kK p l e (kR 4 0 0) s m args below meth c D (kA σ s.heap.size) 3 (kQ below args s D σ (mPo D aM ma z (gWhence z l9 c9) (some (.int (rWhence z l9 c9))) z (tCd 1 1 1) σ) (fun _ => False) 0 0) σ 0 0 20 [some (.ref aM), some (.int l9), some (.int c9)] [.ref aM] := by
    intro gg
    refine k_iconst B (v := 1) dX10_whence_20 (by decide) ?_
    refine cl_X10_107 B (c_X10_can hl h.m) h.o dX10_whence_21 (by first | exact Nat.le_of_ble_eq_true rfl | omega | (simp only [kR, Value.category, kCat_q, List.map, List.sum_cons, List.sum_nil]; omega)) (by first | exact Nat.le_of_ble_eq_true rfl | omega | (simp only [kR, Value.category, kCat_q, List.map, List.sum_cons, List.sum_nil]; omega)) (by first | exact Nat.le_of_ble_eq_true rfl | omega | (simp only [kR, Value.category, kCat_q, List.map, List.sum_cons, List.sum_nil]; omega)) (by first | exact Nat.le_of_ble_eq_true rfl | omega | (simp only [kR, Value.category, kCat_q, List.map, List.sum_cons, List.sum_nil]; omega)) (by first | exact Nat.le_of_ble_eq_true rfl | omega | (simp only [kR, Value.category, kCat_q, List.map, List.sum_cons, List.sum_nil]; omega)) (fun _ hx => hx.elim) (fun v21 s21 hp21 => ?_)
    obtain ⟨rfl, e21⟩ := hp21
    rw [e21]
    refine k_if_eq B 36 dX10_whence_24 (by decide) (fun _ => ?_) (fun c24 => absurd (by decide) c24)
    refine k_iconst B (v := 0) dX10_whence_36 (by decide) ?_
    refine k_iret B hr dX10_whence_37 ?_ (by first | exact Nat.le_of_ble_eq_true rfl | omega | (simp only [kR, Value.category, kCat_q, List.map, List.sum_cons, List.sum_nil]; omega)) (by first | exact Nat.le_of_ble_eq_true rfl | omega | (simp only [kR, Value.category, kCat_q, List.map, List.sum_cons, List.sum_nil]; omega))
    exact mPo.no h (gg) tCd_I rfl
  refine k_aload_n B dX10_whence_0 rfl (by first | exact kRf_r _ | exact kRf_q _ | exact kRf_n) ?_
  refine k_aload_n B dX10_whence_1 rfl (by first | exact kRf_r _ | exact kRf_q _ | exact kRf_n) ?_
  refine k_iload_n B dX10_whence_2 rfl ?_
  refine cl_X10_180 B (c_X10_isLot hl h.m) h.o dX10_whence_3 (by first | exact Nat.le_of_ble_eq_true rfl | omega | (simp only [kR, Value.category, kCat_q, List.map, List.sum_cons, List.sum_nil]; omega)) (by first | exact Nat.le_of_ble_eq_true rfl | omega | (simp only [kR, Value.category, kCat_q, List.map, List.sum_cons, List.sum_nil]; omega)) (by first | exact Nat.le_of_ble_eq_true rfl | omega | (simp only [kR, Value.category, kCat_q, List.map, List.sum_cons, List.sum_nil]; omega)) (by first | exact Nat.le_of_ble_eq_true rfl | omega | (simp only [kR, Value.category, kCat_q, List.map, List.sum_cons, List.sum_nil]; omega)) (by first | exact Nat.le_of_ble_eq_true rfl | omega | (simp only [kR, Value.category, kCat_q, List.map, List.sum_cons, List.sum_nil]; omega)) (fun _ hx => hx.elim) (fun v3 s3 hp3 => ?_)
  obtain ⟨rfl, e3⟩ := hp3
  rw [e3]
  refine k_if_eq B 20 dX10_whence_6 (by decide) (fun c6 => ?_) (fun c6 => ?_)
  · exact bad (gIx_n ⟨rfl, in_n (n := sLn z) (by omega) rfl (bI_q c6)⟩)
  · obtain ⟨i, hi, el, g1⟩ := in_p (n := sLn z) (by omega) rfl (bI_p c6)
    refine k_iload_n B dX10_whence_9 rfl ?_
    refine cl_X10_110 B (c_X10_isCompound hl) dX10_whence_10 (by first | exact Nat.le_of_ble_eq_true rfl | omega | (simp only [kR, Value.category, kCat_q, List.map, List.sum_cons, List.sum_nil]; omega)) (by first | exact Nat.le_of_ble_eq_true rfl | omega | (simp only [kR, Value.category, kCat_q, List.map, List.sum_cons, List.sum_nil]; omega)) (by first | exact Nat.le_of_ble_eq_true rfl | omega | (simp only [kR, Value.category, kCat_q, List.map, List.sum_cons, List.sum_nil]; omega)) (by first | exact Nat.le_of_ble_eq_true rfl | omega | (simp only [kR, Value.category, kCat_q, List.map, List.sum_cons, List.sum_nil]; omega)) (by first | exact Nat.le_of_ble_eq_true rfl | omega | (simp only [kR, Value.category, kCat_q, List.map, List.sum_cons, List.sum_nil]; omega)) (fun _ hx => hx.elim) (fun v10 s10 hp10 => ?_)
    obtain ⟨rfl, e10⟩ := hp10
    rw [e10]
    refine k_if_eq B 20 dX10_whence_13 (by decide) (fun c13 => ?_) (fun c13 => ?_)
    · exact bad ((gIx_p g1).trans (gIx_n ⟨rfl, in_n (n := 8) (by decide) rfl (bI_q c13)⟩))
    · obtain ⟨j, hj, ej, g2⟩ := in_p (n := 8) (by decide) rfl (bI_p c13)
      obtain ⟨r51, hL, hcon, hpk⟩ := h.row hs (i := 11 + i) (by omega)
      have gg : gWhence z l9 c9 = none := (gIx_p g1).trans (gIx_p g2)
      refine k_iconst B (v := 0) dX10_whence_16 (by decide) ?_
      refine k_goto B 21 dX10_whence_17 (by decide) ?_
      refine cl_X10_107 B (c_X10_can hl h.m) h.o dX10_whence_21 (by first | exact Nat.le_of_ble_eq_true rfl | omega | (simp only [kR, Value.category, kCat_q, List.map, List.sum_cons, List.sum_nil]; omega)) (by first | exact Nat.le_of_ble_eq_true rfl | omega | (simp only [kR, Value.category, kCat_q, List.map, List.sum_cons, List.sum_nil]; omega)) (by first | exact Nat.le_of_ble_eq_true rfl | omega | (simp only [kR, Value.category, kCat_q, List.map, List.sum_cons, List.sum_nil]; omega)) (by first | exact Nat.le_of_ble_eq_true rfl | omega | (simp only [kR, Value.category, kCat_q, List.map, List.sum_cons, List.sum_nil]; omega)) (by first | exact Nat.le_of_ble_eq_true rfl | omega | (simp only [kR, Value.category, kCat_q, List.map, List.sum_cons, List.sum_nil]; omega)) (fun _ hx => hx.elim) (fun v21 s21 hp21 => ?_)
      obtain ⟨rfl, e21⟩ := hp21
      rw [e21]
      refine k_if_eq B 36 dX10_whence_24 (by decide) (fun c24 => absurd c24 (by decide)) (fun _ => ?_)
      have h1 := h.can 0
      have fh1 : kOut (mOwn aM ma) σ (kUp σ aM (m10E ma (setT (qZ z kn t) 0))) := kOut.up mOwn.o
      have hr9 : rWhence z l9 c9 = whI (eaC (bitI (nI j)) (kCon (Lk (11 + i))) none) := by rw [rWhence, el, ej, cN_nI (by omega), hcon]
      rw [hr9, gg]
      rw [el, ej]
      refine k_aload_n B dX10_whence_27 rfl (by first | exact kRf_r _ | exact kRf_q _ | exact kRf_n) ?_
      refine k_iload_n B dX10_whence_28 rfl ?_
      refine k_iload_n B dX10_whence_29 rfl ?_
      refine cl_X10_216 B (c_X10_whenceOf hl h1.m (by omega) hj hL (fun a ha => ⟨(hpk a ha).1, by have := (hpk a ha).2.1.1; omega, by have := (hpk a ha).2.1.2.1; have := hs.1.1; omega⟩)) h1.o dX10_whence_30 (by first | exact Nat.le_of_ble_eq_true rfl | omega | (simp only [kR, Value.category, kCat_q, List.map, List.sum_cons, List.sum_nil]; omega)) (by first | exact Nat.le_of_ble_eq_true rfl | omega | (simp only [kR, Value.category, kCat_q, List.map, List.sum_cons, List.sum_nil]; omega)) (by first | exact Nat.le_of_ble_eq_true rfl | omega | (simp only [kR, Value.category, kCat_q, List.map, List.sum_cons, List.sum_nil]; omega)) (by first | exact Nat.le_of_ble_eq_true rfl | omega | (simp only [kR, Value.category, kCat_q, List.map, List.sum_cons, List.sum_nil]; omega)) (by first | exact Nat.le_of_ble_eq_true rfl | omega | (simp only [kR, Value.category, kCat_q, List.map, List.sum_cons, List.sum_nil]; omega)) (fun _ hx => hx.elim) (fun v30 s30 hp30 => ?_)
      obtain ⟨rfl, e30⟩ := hp30
      rw [e30]
      refine kK.rev (y := .int (whI (eaC (bitI (nI j)) (kCon (Lk (11 + i))) none))) rfl ?_
      refine k_goto B 37 dX10_whence_33 (by decide) ?_
      refine k_iret B hr dX10_whence_37 ?_ (by first | exact Nat.le_of_ble_eq_true rfl | omega | (simp only [kR, Value.category, kCat_q, List.map, List.sum_cons, List.sum_nil]; omega)) (by first | exact Nat.le_of_ble_eq_true rfl | omega | (simp only [kR, Value.category, kCat_q, List.map, List.sum_cons, List.sum_nil]; omega))
      exact mPo.ok rfl rfl h1.cl fh1
set_option maxRecDepth 100000 in
theorem c_X10_age (hl : l.stackTraces = false) (hs : sOk z) (h : cl10 D aM ma z t σ) {c9 : Int32} : kMh hX10_age l D yX10_age 4 0 0 [.ref aM, .int c9] σ (mPo D aM ma z (gAge z c9) (some (.float (ageF z (cN c9)))) (z) (tCd 1 1 1) σ) (fun _ => False) := by
  refine kM_of (L := [some (.ref aM), some (.int c9)]) (by decide +kernel) hl (List.forall_mem_cons.mpr ⟨rfl, (List.forall_mem_cons.mpr ⟨rfl, (fun _ h => absurd h List.not_mem_nil)⟩)⟩) (Nat.le_of_ble_eq_true rfl) rfl ?_
  intro p e s m args below meth c B hr hex hnm
  have B : kB p l s m args meth c D (kA σ s.heap.size) 2 cX10_age RX10 := B
  obtain ⟨mv, kn, Lk, h⟩ := h
  have h40 := hs.2.2.2.1.1
  have hw6 := hs.2.2.1.1
  refine k_aload_n B dX10_age_0 rfl (by first | exact kRf_r _ | exact kRf_q _ | exact kRf_n) ?_
  refine k_aload_n B dX10_age_1 rfl (by first | exact kRf_r _ | exact kRf_q _ | exact kRf_n) ?_
  refine k_iload_n B dX10_age_2 rfl ?_
  refine cl_X10_180 B (c_X10_isLot hl h.m) h.o dX10_age_3 (by first | exact Nat.le_of_ble_eq_true rfl | omega | (simp only [kR, Value.category, kCat_q, List.map, List.sum_cons, List.sum_nil]; omega)) (by first | exact Nat.le_of_ble_eq_true rfl | omega | (simp only [kR, Value.category, kCat_q, List.map, List.sum_cons, List.sum_nil]; omega)) (by first | exact Nat.le_of_ble_eq_true rfl | omega | (simp only [kR, Value.category, kCat_q, List.map, List.sum_cons, List.sum_nil]; omega)) (by first | exact Nat.le_of_ble_eq_true rfl | omega | (simp only [kR, Value.category, kCat_q, List.map, List.sum_cons, List.sum_nil]; omega)) (by first | exact Nat.le_of_ble_eq_true rfl | omega | (simp only [kR, Value.category, kCat_q, List.map, List.sum_cons, List.sum_nil]; omega)) (fun _ hx => hx.elim) (fun v3 s3 hp3 => ?_)
  obtain ⟨rfl, e3⟩ := hp3
  rw [e3]
  refine k_if_eq B 13 dX10_age_6 (by decide) (fun c6 => ?_) (fun c6 => ?_)
  · refine k_iconst B (v := 1) dX10_age_13 (by decide) ?_
    refine cl_X10_107 B (c_X10_can hl h.m) h.o dX10_age_14 (by first | exact Nat.le_of_ble_eq_true rfl | omega | (simp only [kR, Value.category, kCat_q, List.map, List.sum_cons, List.sum_nil]; omega)) (by first | exact Nat.le_of_ble_eq_true rfl | omega | (simp only [kR, Value.category, kCat_q, List.map, List.sum_cons, List.sum_nil]; omega)) (by first | exact Nat.le_of_ble_eq_true rfl | omega | (simp only [kR, Value.category, kCat_q, List.map, List.sum_cons, List.sum_nil]; omega)) (by first | exact Nat.le_of_ble_eq_true rfl | omega | (simp only [kR, Value.category, kCat_q, List.map, List.sum_cons, List.sum_nil]; omega)) (by first | exact Nat.le_of_ble_eq_true rfl | omega | (simp only [kR, Value.category, kCat_q, List.map, List.sum_cons, List.sum_nil]; omega)) (fun _ hx => hx.elim) (fun v14 s14 hp14 => ?_)
    obtain ⟨rfl, e14⟩ := hp14
    rw [e14]
    refine k_if_eq B 28 dX10_age_17 (by decide) (fun _ => ?_) (fun c17 => absurd (by decide) c17)
    refine k_fconst0 B dX10_age_28 ?_
    refine k_fret B hr dX10_age_29 ?_ (by first | exact Nat.le_of_ble_eq_true rfl | omega | (simp only [kR, Value.category, kCat_q, List.map, List.sum_cons, List.sum_nil]; omega)) (by first | exact Nat.le_of_ble_eq_true rfl | omega | (simp only [kR, Value.category, kCat_q, List.map, List.sum_cons, List.sum_nil]; omega))
    exact mPo.no h (gIx_n ⟨rfl, in_n (n := sLn z) (by omega) rfl (bI_q c6)⟩) tCd_I rfl
  · obtain ⟨i, hi, rfl, g1⟩ := in_p (n := sLn z) (by omega) rfl (bI_p c6)
    obtain ⟨t1, t2, t3, t4, t5, t6⟩ := h.T.1 i hi
    obtain ⟨r51, hL, hcon, hpk⟩ := h.row hs (i := 11 + i) (by omega)
    have hlr := h.lrow hs hi
    have hlt := hs.2.2.2.1.2 i hi
    have hn3 := hs.1.1
    have hu1 := hlt.2.2.2.2.2.2.1
    have hu2 := hlt.2.2.2.2.2.2.2
    have hb := hlt.2.1
    rw [← hcon] at hu1 hu2
    refine k_iconst B (v := 0) dX10_age_9 (by decide) ?_
    refine k_goto B 14 dX10_age_10 (by decide) ?_
    refine cl_X10_107 B (c_X10_can hl h.m) h.o dX10_age_14 (by first | exact Nat.le_of_ble_eq_true rfl | omega | (simp only [kR, Value.category, kCat_q, List.map, List.sum_cons, List.sum_nil]; omega)) (by first | exact Nat.le_of_ble_eq_true rfl | omega | (simp only [kR, Value.category, kCat_q, List.map, List.sum_cons, List.sum_nil]; omega)) (by first | exact Nat.le_of_ble_eq_true rfl | omega | (simp only [kR, Value.category, kCat_q, List.map, List.sum_cons, List.sum_nil]; omega)) (by first | exact Nat.le_of_ble_eq_true rfl | omega | (simp only [kR, Value.category, kCat_q, List.map, List.sum_cons, List.sum_nil]; omega)) (by first | exact Nat.le_of_ble_eq_true rfl | omega | (simp only [kR, Value.category, kCat_q, List.map, List.sum_cons, List.sum_nil]; omega)) (fun _ hx => hx.elim) (fun v14 s14 hp14 => ?_)
    obtain ⟨rfl, e14⟩ := hp14
    rw [e14]
    refine k_if_eq B 28 dX10_age_17 (by decide) (fun c17 => absurd c17 (by decide)) (fun _ => ?_)
    have h1 := h.can 0
    have fh1 : kOut (mOwn aM ma) σ (kUp σ aM (m10E ma (setT (qZ z kn t) 0))) := kOut.up mOwn.o
    refine k_aload_n B dX10_age_20 rfl (by first | exact kRf_r _ | exact kRf_q _ | exact kRf_n) ?_
    refine k_iload_n B dX10_age_21 rfl ?_
    refine cl_X10_205 B (c_X10_meanAge hl h1.m (by omega) t2 (by omega) hL (fun a ha => ⟨(hpk a ha).1, Nat.le_of_lt (hlr a ha).2.1⟩) hu1 hu2) h1.o dX10_age_22 (by first | exact Nat.le_of_ble_eq_true rfl | omega | (simp only [kR, Value.category, kCat_q, List.map, List.sum_cons, List.sum_nil]; omega)) (by first | exact Nat.le_of_ble_eq_true rfl | omega | (simp only [kR, Value.category, kCat_q, List.map, List.sum_cons, List.sum_nil]; omega)) (by first | exact Nat.le_of_ble_eq_true rfl | omega | (simp only [kR, Value.category, kCat_q, List.map, List.sum_cons, List.sum_nil]; omega)) (by first | exact Nat.le_of_ble_eq_true rfl | omega | (simp only [kR, Value.category, kCat_q, List.map, List.sum_cons, List.sum_nil]; omega)) (by first | exact Nat.le_of_ble_eq_true rfl | omega | (simp only [kR, Value.category, kCat_q, List.map, List.sum_cons, List.sum_nil]; omega)) (fun _ hx => hx.elim) (fun v22 s22 hp22 => ?_)
    obtain ⟨rfl, e22⟩ := hp22
    rw [e22]
    refine kK.rev (y := .float (ageF z (cN (nI i)))) (by rw [cN_nI (by omega), ageF, ← hcon] <;> rfl) ?_
    refine k_goto B 29 dX10_age_25 (by decide) ?_
    refine k_fret B hr dX10_age_29 ?_ (by first | exact Nat.le_of_ble_eq_true rfl | omega | (simp only [kR, Value.category, kCat_q, List.map, List.sum_cons, List.sum_nil]; omega)) (by first | exact Nat.le_of_ble_eq_true rfl | omega | (simp only [kR, Value.category, kCat_q, List.map, List.sum_cons, List.sum_nil]; omega))
    exact mPo.ok (gIx_p g1) rfl h1.cl fh1
end Ask
