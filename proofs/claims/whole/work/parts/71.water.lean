theorem kUn_le {P : List kP} {q : kP} (h : q ∈ P) : kUn q ≤ unS P := by
  induction P with
  | nil => cases h
  | cons x T ih =>
    show _ ≤ kUn x + unS T
    rcases List.mem_cons.mp h with rfl | h
    · omega
    · have := ih h; omega
theorem nL_lt {a b : Nat} (ha : a < 2 ^ 31) (hb : b < 2 ^ 31) : nL a < nL b ↔ a < b := lN_lt ha hb
theorem bI_tt {b : Bool} (h : ¬ bI b = 0) : b = true := by cases b with
  | true => rfl
  | false => exact absurd rfl h
theorem bI_ff {b : Bool} (h : bI b = 0) : b = false := by cases b with
  | true => exact absurd h (by decide)
  | false => rfl
section Water
variable {l : Launch} {D : va_G} {σ : kS} {aM : Nat} {ma : Nat → Nat} {mv : Nat → Nat → Int32} {kn : Nat} {Lk : Nat → kPs} {z : kSt} {t : Int32}
theorem cM.row (h : cM D aM ma mv kn Lk z t σ) (hs : sOk z) {i : Nat} (hi : i < 11 + sLn z) : i < 51 ∧ knR mv i (Lk i) ∧ kCon (Lk i) = sR z i ∧ ∀ a ∈ Lk i, a.1 < 6200 ∧ pOk (sNow z) a.2 ∧ kUn a.2 ≤ 3000000 := by
  have h40 := hs.2.2.2.1.1
  have hc := h.C.1 i hi
  have hnb := h.nb
  have hn3 := hs.1.1
  refine ⟨by omega, h.L.1 i (by omega), hc, fun a ha => ?_⟩
  have hm : a.2 ∈ sR z i := by rw [← hc]; exact List.mem_map.mpr ⟨a, ha, rfl⟩
  have h1 := h.L.2.1 i (by omega) a.1 (List.mem_map.mpr ⟨a, ha, rfl⟩)
  have h2 := kUn_le hm
  have h3 := hs.un hi
  exact ⟨by omega, hs.pk hi _ hm, by omega⟩
theorem cM.lrow (h : cM D aM ma mv kn Lk z t σ) (hs : sOk z) {i : Nat} (hi : i < sLn z) : ∀ a ∈ Lk (11 + i), pOk (sLo z i).2.1 a.2 := fun a ha => by
  have hm : a.2 ∈ sR z (11 + i) := by rw [← h.C.1 (11 + i) (by omega)]; exact List.mem_map.mpr ⟨a, ha, rfl⟩
  exact (hs.2.2.2.1.2 i hi).2.2.2.2.2.1 _ hm
set_option maxRecDepth 100000 in
theorem c_X10_may (hl : l.stackTraces = false) (hs : sOk z) (h : cM D aM ma mv kn Lk z t σ) {i : Nat} (hi : i < sWn z) : kMh hX10_may l D yX10_may 1 0 0 [.ref aM, .int (nI i)] σ (fun v s2 => v = some (.int (nI (rMay z i))) ∧ s2 = σ) (fun _ => False) := by
  refine kM_of (L := [some (.ref aM), some (.int (nI i)), none, none]) (by decide +kernel) hl (List.forall_mem_cons.mpr ⟨rfl, (List.forall_mem_cons.mpr ⟨rfl, (fun _ h => absurd h List.not_mem_nil)⟩)⟩) (Nat.le_of_ble_eq_true rfl) rfl ?_
  intro p e s m args below meth c B hr hex hnm
  have B : kB p l s m args meth c D (kA σ s.heap.size) 4 cX10_may RX10 := B
  obtain ⟨w1, w2, w3⟩ := h.W i hi
  have hw := hs.2.2.1.2 i hi
  have hw6 := hs.2.2.1.1
  have hdr := hs.1.2.2.1
  have hl1 := hs.1.2.2.2.1
  have hl2 := hs.1.2.2.2.2
  have hi6 : i < 6 := by omega
  have hun := h.un (r := sDr z) (by omega) (by omega)
  have hu := hs.un (i := sDr z) (by omega)
  have hp1 := hw.2.1
  have hp2 := hw.2.2
  have tl : ∀ x : Nat, x ≤ 10000 → x - (sW z i).2.2 = rMay z i → kK p l e (kR 1 0 0) s m args below meth c D (kA σ s.heap.size) 4 (kQ below args s D σ (fun v s2 => v = some (.int (nI (rMay z i))) ∧ s2 = σ) (fun _ => False) 0 0) σ 0 0 47 [some (.ref aM), some (.int (nI i)), some (.int (nI (unS (sR z (sDr z))))), none] [.int (nI x)] := by
    intro x hx hr9
    refine k_istore_n B dX10_may_47 (by decide) ?_
    try refine kK.set1 (by first | exact True.intro | rfl | exact kCat_q _) ?_
    refine k_iload_n B dX10_may_48 rfl ?_
    refine k_aload_n B dX10_may_49 rfl (by first | exact kRf_r _ | exact kRf_q _ | exact kRf_n) ?_
    refine gf_X10_64 B dX10_may_50 h.o rfl ?_
    refine k_iload_n B dX10_may_53 rfl ?_
    refine k_iald B dX10_may_54 (h.i (k := 21) rfl (by decide)) (vp_in_nI hi6 (by decide)) ?_
    refine kK.rei (y := nI (sW z i).2.2) (by rw [nI_clamp (by omega), w3]) ?_
    refine k_icmp_le B 69 dX10_may_55 (by decide) (fun c55 => ?_) (fun c55 => ?_)
    · have hle := (nI_leI (by omega) (by omega)).mp c55
      refine k_iconst B (v := 0) dX10_may_69 (by decide) ?_
      refine k_iret B hr dX10_may_70 ?_ (by first | exact Nat.le_of_ble_eq_true rfl | omega | (simp only [kR, Value.category, kCat_q, List.map, List.sum_cons, List.sum_nil]; omega)) (by first | exact Nat.le_of_ble_eq_true rfl | omega | (simp only [kR, Value.category, kCat_q, List.map, List.sum_cons, List.sum_nil]; omega))
      exact ⟨by rw [← hr9, Nat.sub_eq_zero_of_le hle]; rfl, rfl⟩
    · have hle : ¬ x ≤ (sW z i).2.2 := fun q => c55 ((nI_leI (by omega) (by omega)).mpr q)
      refine k_iload_n B dX10_may_58 rfl ?_
      refine k_aload_n B dX10_may_59 rfl (by first | exact kRf_r _ | exact kRf_q _ | exact kRf_n) ?_
      refine gf_X10_64 B dX10_may_60 h.o rfl ?_
      refine k_iload_n B dX10_may_63 rfl ?_
      refine k_iald B dX10_may_64 (h.i (k := 21) rfl (by decide)) (vp_in_nI hi6 (by decide)) ?_
      refine kK.rei (y := nI (sW z i).2.2) (by rw [nI_clamp (by omega), w3]) ?_
      refine k_isub B dX10_may_65 ?_
      refine kK.rei (y := nI (rMay z i)) (by rw [← hr9]; exact pk_sub (by omega)) ?_
      refine k_goto B 70 dX10_may_66 (by decide) ?_
      refine k_iret B hr dX10_may_70 ?_ (by first | exact Nat.le_of_ble_eq_true rfl | omega | (simp only [kR, Value.category, kCat_q, List.map, List.sum_cons, List.sum_nil]; omega)) (by first | exact Nat.le_of_ble_eq_true rfl | omega | (simp only [kR, Value.category, kCat_q, List.map, List.sum_cons, List.sum_nil]; omega))
      exact ⟨rfl, rfl⟩
  refine k_aload_n B dX10_may_0 rfl (by first | exact kRf_r _ | exact kRf_q _ | exact kRf_n) ?_
  refine gf_X10_34 B dX10_may_1 h.o rfl ?_
  refine k_aload_n B dX10_may_4 rfl (by first | exact kRf_r _ | exact kRf_q _ | exact kRf_n) ?_
  refine gf_X10_156 B dX10_may_5 h.o rfl ?_
  refine kK.rei (y := nI (sDr z)) rfl ?_
  refine k_iald B dX10_may_8 (h.i (k := 9) rfl (by decide)) (vp_in_nI (show sDr z < 51 by omega) (by decide)) ?_
  refine kK.rei (y := nI (unS (sR z (sDr z)))) (by rw [nI_clamp (by omega)]; exact hun) ?_
  refine k_istore_n B dX10_may_9 (by decide) ?_
  try refine kK.set1 (by first | exact True.intro | rfl | exact kCat_q _) ?_
  refine k_iload_n B dX10_may_10 rfl ?_
  refine k_aload_n B dX10_may_11 rfl (by first | exact kRf_r _ | exact kRf_q _ | exact kRf_n) ?_
  refine gf_X10_162 B dX10_may_12 h.o rfl ?_
  refine kK.rei (y := nI (sL2 z)) rfl ?_
  refine k_icmp_ge B 22 dX10_may_15 (by decide) (fun c15 => ?_) (fun c15 => ?_)
  · have hle := (nI_leI (by omega) (by omega)).mp c15
    refine k_iload_n B dX10_may_22 rfl ?_
    refine k_aload_n B dX10_may_23 rfl (by first | exact kRf_r _ | exact kRf_q _ | exact kRf_n) ?_
    refine gf_X10_159 B dX10_may_24 h.o rfl ?_
    refine kK.rei (y := nI (sL1 z)) rfl ?_
    refine k_icmp_ge B 41 dX10_may_27 (by decide) (fun c27 => ?_) (fun c27 => ?_)
    · have hle2 := (nI_leI (by omega) (by omega)).mp c27
      refine k_aload_n B dX10_may_41 rfl (by first | exact kRf_r _ | exact kRf_q _ | exact kRf_n) ?_
      refine gf_X10_61 B dX10_may_42 h.o rfl ?_
      refine k_iload_n B dX10_may_45 rfl ?_
      refine k_iald B dX10_may_46 (h.i (k := 20) rfl (by decide)) (vp_in_nI hi6 (by decide)) ?_
      refine kK.rei (y := nI (sW z i).2.1) (by rw [nI_clamp (by omega), w2]) ?_
      exact tl _ (by omega) (by rw [rMay, if_neg (by omega), if_neg (by omega)])
    · have hle2 : ¬ sL1 z ≤ unS (sR z (sDr z)) := fun q => c27 ((nI_leI (by omega) (by omega)).mpr q)
      refine k_aload_n B dX10_may_30 rfl (by first | exact kRf_r _ | exact kRf_q _ | exact kRf_n) ?_
      refine gf_X10_61 B dX10_may_31 h.o rfl ?_
      refine k_iload_n B dX10_may_34 rfl ?_
      refine k_iald B dX10_may_35 (h.i (k := 20) rfl (by decide)) (vp_in_nI hi6 (by decide)) ?_
      refine kK.rei (y := nI (sW z i).2.1) (by rw [nI_clamp (by omega), w2]) ?_
      refine k_iconst B (v := 2) dX10_may_36 (by decide) ?_
      refine k_idiv B dX10_may_37 (by decide) ?_
      refine kK.rei (y := nI ((sW z i).2.1 / 2)) (pk_div (d := 2) (by omega) (by decide) (by decide)) ?_
      refine k_goto B 47 dX10_may_38 (by decide) ?_
      exact tl _ (by omega) (by rw [rMay, if_neg (by omega), if_pos (by omega)])
  · have hle : ¬ sL2 z ≤ unS (sR z (sDr z)) := fun q => c15 ((nI_leI (by omega) (by omega)).mpr q)
    refine k_iconst B (v := 0) dX10_may_18 (by decide) ?_
    refine k_goto B 47 dX10_may_19 (by decide) ?_
    exact tl 0 (by decide) (by rw [rMay, if_pos (by omega)])
set_option maxRecDepth 100000 in
theorem c_X10_isWater (hl : l.stackTraces = false) (hs : sOk z) (h : cM D aM ma mv kn Lk z t σ) {i : Nat} (hi : i < sLn z) {w : Int32} (hw : w = 0 ∨ w = 1 ∨ w = 2) : kMh hX10_isWater l D yX10_isWater 3 0 0 [.ref aM, .int (nI i), .int w] σ (fun v s2 => v = some (.int (bI (okB w (sFb z) (sLo z i).2.2.1 (sLo z i).2.1 (sR z (11 + i))))) ∧ s2 = σ) (fun _ => False) := by
  refine kM_of (L := [some (.ref aM), some (.int (nI i)), some (.int w), none, none, none, none]) (by decide +kernel) hl (List.forall_mem_cons.mpr ⟨rfl, (List.forall_mem_cons.mpr ⟨rfl, (List.forall_mem_cons.mpr ⟨rfl, (fun _ h => absurd h List.not_mem_nil)⟩)⟩)⟩) (Nat.le_of_ble_eq_true rfl) rfl ?_
  intro p e s m args below meth c B hr hex hnm
  have B : kB p l s m args meth c D (kA σ s.heap.size) 7 cX10_isWater RX10 := B
  obtain ⟨t1, t2, t3, t4, t5, t6⟩ := h.T.1 i hi
  have h40 := hs.2.2.2.1.1
  have hi40 : i < 40 := by omega
  obtain ⟨r51, hL, hcon, hpk⟩ := h.row hs (i := 11 + i) (by omega)
  have hlt := hs.2.2.2.1.2 i hi
  have hu := hlt.2.2.2.2.2.2.2
  have hni : niS (sR z (11 + i)) ≤ 10 * unS (sR z (11 + i)) := niS_le (hs.pk (by omega))
  have hfo : kMh hX10_fallOf l D yX10_fallOf 1 0 0 [.ref aM, .int (nI (11 + i)), .int 1] σ (fun v s2 => v = some (.int (yoI (sR z (11 + i)))) ∧ s2 = σ) (fun _ => False) := by
    have := c_X10_fallOf hl h.m (b := true) r51 hL (fun a ha => ⟨(hpk a ha).1, by have := (hpk a ha).2.1.2.1; have := hs.1.1; omega⟩)
    rw [hcon] at this
    exact this
  have hco : kMh hX10_compoundsOf l D yX10_compoundsOf 1 0 0 [.ref aM, .int (nI (11 + i))] σ (fun v s2 => v = some (.int (coS (sR z (11 + i)) 0)) ∧ s2 = σ) (fun _ => False) := by
    have := c_X10_compoundsOf hl h.m r51 hL (fun a ha => by
      obtain ⟨x, hx, rfl⟩ := List.mem_map.mp ha
      exact (hpk x hx).1)
    rw [hcon] at this
    exact this
  have hno : kMh hX10_nitrateOf l D yX10_nitrateOf 1 0 0 [.ref aM, .int (nI (11 + i))] σ (fun v s2 => v = some (.long (nL (niS (sR z (11 + i))))) ∧ s2 = σ) (fun _ => False) := by
    have := c_X10_nitrateOf hl h.m r51 hL (fun a ha => ⟨(hpk a ha).1, by have := (hpk a ha).2.1.2.2.1; omega, by have := (hpk a ha).2.2; omega⟩)
    rw [hcon] at this
    exact this
  have hun : mv 9 (11 + i) = nI (unS (sR z (11 + i))) := by rw [← hcon]; exact hL.2.2.1
  generalize hG : okB w (sFb z) (sLo z i).2.2.1 (sLo z i).2.1 (sR z (11 + i)) = G
  have nope : G = false → ∀ Lc, kK p l e (kR 3 0 0) s m args below meth c D (kA σ s.heap.size) 7 (kQ below args s D σ (fun v s2 => v = some (.int (bI G)) ∧ s2 = σ) (fun _ => False) 0 0) σ 0 0 115 Lc [] := by
    intro h0 Lc
    refine k_iconst B (v := 0) dX10_isWater_115 (by decide) ?_
    refine k_zret B hr dX10_isWater_116 (by rfl) ?_ (by first | exact Nat.le_of_ble_eq_true rfl | omega | (simp only [kR, Value.category, kCat_q, List.map, List.sum_cons, List.sum_nil]; omega)) (by first | exact Nat.le_of_ble_eq_true rfl | omega | (simp only [kR, Value.category, kCat_q, List.map, List.sum_cons, List.sum_nil]; omega))
    exact ⟨by rw [h0]; rfl, rfl⟩
  have nope2 : G = false → ∀ Lc, kK p l e (kR 3 0 0) s m args below meth c D (kA σ s.heap.size) 7 (kQ below args s D σ (fun v s2 => v = some (.int (bI G)) ∧ s2 = σ) (fun _ => False) 0 0) σ 0 0 151 Lc [] := by
    intro h0 Lc
    refine k_iconst B (v := 0) dX10_isWater_151 (by decide) ?_
    refine k_zret B hr dX10_isWater_152 (by rfl) ?_ (by first | exact Nat.le_of_ble_eq_true rfl | omega | (simp only [kR, Value.category, kCat_q, List.map, List.sum_cons, List.sum_nil]; omega)) (by first | exact Nat.le_of_ble_eq_true rfl | omega | (simp only [kR, Value.category, kCat_q, List.map, List.sum_cons, List.sum_nil]; omega))
    exact ⟨by rw [h0]; rfl, rfl⟩
  have tl2 : ∀ (li x4 : Int32) (pb ob : Bool), li = (if w = 0 then 1 else 3) → pb = decide ((sLo z i).2.2.1 &&& ((li &&& (sFb z ^^^ (-1))) ^^^ (-1)) = 0) → ob = decide (10 ≤ nI (sLo z i).2.1 - yoI (sR z (11 + i))) → kK p l e (kR 3 0 0) s m args below meth c D (kA σ s.heap.size) 7 (kQ below args s D σ (fun v s2 => v = some (.int (bI G)) ∧ s2 = σ) (fun _ => False) 0 0) σ 0 0 67 [some (.ref aM), some (.int (nI i)), some (.int w), some (.int (nI (11 + i))), some (.int x4), some (.int (bI pb)), none] [.int (bI ob)] := by
    intro li x4 pb ob hli hpb hob
    rcases hw with rfl | rfl | rfl
    · have hli : li = 1 := hli
      subst hli
      have e0 : G = (pb && decide (niS (sR z (11 + i)) ≤ 5 * unS (sR z (11 + i))) && decide (coS (sR z (11 + i)) 0 = 0) && ob) := by
        rw [← hG, okB, if_pos rfl, hamB, ← hpb, ← hob]
      refine k_istore B dX10_isWater_67 (by decide) ?_
      try refine kK.set1 (by first | exact True.intro | rfl | exact kCat_q _) ?_
      refine k_iload_n B dX10_isWater_69 rfl ?_
      refine k_if_ne B 117 dX10_isWater_70 (by decide) (fun c70 => ?_) (fun c70 => ?_)
      · exact absurd rfl c70
      · refine k_iload B dX10_isWater_73 rfl ?_
        refine k_if_eq B 115 dX10_isWater_75 (by decide) (fun c75 => ?_) (fun c75 => ?_)
        · exact nope (by rw [e0, bI_ff c75]; rfl) _
        · refine k_aload_n B dX10_isWater_78 rfl (by first | exact kRf_r _ | exact kRf_q _ | exact kRf_n) ?_
          refine k_iload_n B dX10_isWater_79 rfl ?_
          refine cl_X10_190 B hco h.o dX10_isWater_80 (by first | exact Nat.le_of_ble_eq_true rfl | omega | (simp only [kR, Value.category, kCat_q, List.map, List.sum_cons, List.sum_nil]; omega)) (by first | exact Nat.le_of_ble_eq_true rfl | omega | (simp only [kR, Value.category, kCat_q, List.map, List.sum_cons, List.sum_nil]; omega)) (by first | exact Nat.le_of_ble_eq_true rfl | omega | (simp only [kR, Value.category, kCat_q, List.map, List.sum_cons, List.sum_nil]; omega)) (by first | exact Nat.le_of_ble_eq_true rfl | omega | (simp only [kR, Value.category, kCat_q, List.map, List.sum_cons, List.sum_nil]; omega)) (by first | exact Nat.le_of_ble_eq_true rfl | omega | (simp only [kR, Value.category, kCat_q, List.map, List.sum_cons, List.sum_nil]; omega)) (fun _ hx => hx.elim) (fun v80 s80 hp80 => ?_)
          obtain ⟨rfl, e80⟩ := hp80
          rw [e80]
          refine kK.rev (y := .int (coS (sR z (11 + i)) 0)) rfl ?_
          refine k_if_ne B 115 dX10_isWater_83 (by decide) (fun c83 => ?_) (fun c83 => ?_)
          · exact nope (by rw [e0, decide_eq_false c83]; simp) _
          · refine k_iload B dX10_isWater_86 rfl ?_
            refine k_if_eq B 115 dX10_isWater_88 (by decide) (fun c88 => ?_) (fun c88 => ?_)
            · exact nope (by rw [e0, bI_ff c88, Bool.and_false]) _
            · refine k_aload_n B dX10_isWater_91 rfl (by first | exact kRf_r _ | exact kRf_q _ | exact kRf_n) ?_
              refine k_iload_n B dX10_isWater_92 rfl ?_
              refine cl_X10_193 B hno h.o dX10_isWater_93 (by first | exact Nat.le_of_ble_eq_true rfl | omega | (simp only [kR, Value.category, kCat_q, List.map, List.sum_cons, List.sum_nil]; omega)) (by first | exact Nat.le_of_ble_eq_true rfl | omega | (simp only [kR, Value.category, kCat_q, List.map, List.sum_cons, List.sum_nil]; omega)) (by first | exact Nat.le_of_ble_eq_true rfl | omega | (simp only [kR, Value.category, kCat_q, List.map, List.sum_cons, List.sum_nil]; omega)) (by first | exact Nat.le_of_ble_eq_true rfl | omega | (simp only [kR, Value.category, kCat_q, List.map, List.sum_cons, List.sum_nil]; omega)) (by first | exact Nat.le_of_ble_eq_true rfl | omega | (simp only [kR, Value.category, kCat_q, List.map, List.sum_cons, List.sum_nil]; omega)) (fun _ hx => hx.elim) (fun v93 s93 hp93 => ?_)
              obtain ⟨rfl, e93⟩ := hp93
              rw [e93]
              refine kK.rev (y := .long (nL (niS (sR z (11 + i))))) rfl ?_
              refine k_ldc2 B qw1088 dX10_isWater_96 ?_
              refine k_aload_n B dX10_isWater_99 rfl (by first | exact kRf_r _ | exact kRf_q _ | exact kRf_n) ?_
              refine gf_X10_34 B dX10_isWater_100 h.o rfl ?_
              refine k_iload_n B dX10_isWater_103 rfl ?_
              refine k_iald B dX10_isWater_104 (h.i (k := 9) rfl (by decide)) (vp_in_nI r51 (by decide)) ?_
              refine kK.rei (y := nI (unS (sR z (11 + i)))) (by rw [nI_clamp (by omega)]; exact hun) ?_
              refine k_i2l B dX10_isWater_105 ?_
              refine kK.rel (y := nL (unS (sR z (11 + i)))) (nI_L (by omega)) ?_
              refine k_lmul B dX10_isWater_106 ?_
              refine kK.rel (y := nL (5 * unS (sR z (11 + i)))) (nL_mul 5 _) ?_
              refine k_lcmp B dX10_isWater_107 ?_
              refine k_if_gt B 115 dX10_isWater_108 (by decide) (fun c108 => ?_) (fun c108 => ?_)
              · have hgt := (nL_lt (by omega) (by omega)).mp ((lg_cmp_gt _ _).mp c108)
                exact nope (by rw [e0, decide_eq_false (by omega : ¬ niS (sR z (11 + i)) ≤ 5 * unS (sR z (11 + i)))]; simp) _
              · have hgt : ¬ 5 * unS (sR z (11 + i)) < niS (sR z (11 + i)) := fun q => c108 ((lg_cmp_gt _ _).mpr ((nL_lt (by omega) (by omega)).mpr q))
                refine k_iconst B (v := 1) dX10_isWater_111 (by decide) ?_
                refine k_goto B 116 dX10_isWater_112 (by decide) ?_
                refine k_zret B hr dX10_isWater_116 (by rfl) ?_ (by first | exact Nat.le_of_ble_eq_true rfl | omega | (simp only [kR, Value.category, kCat_q, List.map, List.sum_cons, List.sum_nil]; omega)) (by first | exact Nat.le_of_ble_eq_true rfl | omega | (simp only [kR, Value.category, kCat_q, List.map, List.sum_cons, List.sum_nil]; omega))
                exact ⟨by rw [e0, bI_tt c75, bI_tt c88, decide_eq_true c83, decide_eq_true (by omega : niS (sR z (11 + i)) ≤ 5 * unS (sR z (11 + i)))]; rfl, rfl⟩
    · have hli : li = 3 := hli
      subst hli
      have e0 : G = (pb && decide (niS (sR z (11 + i)) ≤ 8 * unS (sR z (11 + i)))) := by
        rw [← hG, okB, if_neg (by decide), if_pos rfl, hamB, ← hpb]
      refine k_istore B dX10_isWater_67 (by decide) ?_
      try refine kK.set1 (by first | exact True.intro | rfl | exact kCat_q _) ?_
      refine k_iload_n B dX10_isWater_69 rfl ?_
      refine k_if_ne B 117 dX10_isWater_70 (by decide) (fun c70 => ?_) (fun c70 => ?_)
      · refine k_iload_n B dX10_isWater_117 rfl ?_
        refine k_iconst B (v := 1) dX10_isWater_118 (by decide) ?_
        refine k_icmp_ne B 147 dX10_isWater_119 (by decide) (fun c119 => ?_) (fun c119 => ?_)
        · exact absurd rfl c119
        · refine k_iload B dX10_isWater_122 rfl ?_
          refine k_if_eq B 151 dX10_isWater_124 (by decide) (fun c124 => ?_) (fun c124 => ?_)
          · exact nope2 (by rw [e0, bI_ff c124]; rfl) _
          · refine k_aload_n B dX10_isWater_127 rfl (by first | exact kRf_r _ | exact kRf_q _ | exact kRf_n) ?_
            refine k_iload_n B dX10_isWater_128 rfl ?_
            refine cl_X10_193 B hno h.o dX10_isWater_129 (by first | exact Nat.le_of_ble_eq_true rfl | omega | (simp only [kR, Value.category, kCat_q, List.map, List.sum_cons, List.sum_nil]; omega)) (by first | exact Nat.le_of_ble_eq_true rfl | omega | (simp only [kR, Value.category, kCat_q, List.map, List.sum_cons, List.sum_nil]; omega)) (by first | exact Nat.le_of_ble_eq_true rfl | omega | (simp only [kR, Value.category, kCat_q, List.map, List.sum_cons, List.sum_nil]; omega)) (by first | exact Nat.le_of_ble_eq_true rfl | omega | (simp only [kR, Value.category, kCat_q, List.map, List.sum_cons, List.sum_nil]; omega)) (by first | exact Nat.le_of_ble_eq_true rfl | omega | (simp only [kR, Value.category, kCat_q, List.map, List.sum_cons, List.sum_nil]; omega)) (fun _ hx => hx.elim) (fun v129 s129 hp129 => ?_)
            obtain ⟨rfl, e129⟩ := hp129
            rw [e129]
            refine kK.rev (y := .long (nL (niS (sR z (11 + i))))) rfl ?_
            refine k_ldc2 B qw1089 dX10_isWater_132 ?_
            refine k_aload_n B dX10_isWater_135 rfl (by first | exact kRf_r _ | exact kRf_q _ | exact kRf_n) ?_
            refine gf_X10_34 B dX10_isWater_136 h.o rfl ?_
            refine k_iload_n B dX10_isWater_139 rfl ?_
            refine k_iald B dX10_isWater_140 (h.i (k := 9) rfl (by decide)) (vp_in_nI r51 (by decide)) ?_
            refine kK.rei (y := nI (unS (sR z (11 + i)))) (by rw [nI_clamp (by omega)]; exact hun) ?_
            refine k_i2l B dX10_isWater_141 ?_
            refine kK.rel (y := nL (unS (sR z (11 + i)))) (nI_L (by omega)) ?_
            refine k_lmul B dX10_isWater_142 ?_
            refine kK.rel (y := nL (8 * unS (sR z (11 + i)))) (nL_mul 8 _) ?_
            refine k_lcmp B dX10_isWater_143 ?_
            refine k_if_gt B 151 dX10_isWater_144 (by decide) (fun c144 => ?_) (fun c144 => ?_)
            · have hgt := (nL_lt (by omega) (by omega)).mp ((lg_cmp_gt _ _).mp c144)
              exact nope2 (by rw [e0, decide_eq_false (by omega : ¬ niS (sR z (11 + i)) ≤ 8 * unS (sR z (11 + i)))]; simp) _
            · have hgt : ¬ 8 * unS (sR z (11 + i)) < niS (sR z (11 + i)) := fun q => c144 ((lg_cmp_gt _ _).mpr ((nL_lt (by omega) (by omega)).mpr q))
              refine k_iconst B (v := 1) dX10_isWater_147 (by decide) ?_
              refine k_goto B 152 dX10_isWater_148 (by decide) ?_
              refine k_zret B hr dX10_isWater_152 (by rfl) ?_ (by first | exact Nat.le_of_ble_eq_true rfl | omega | (simp only [kR, Value.category, kCat_q, List.map, List.sum_cons, List.sum_nil]; omega)) (by first | exact Nat.le_of_ble_eq_true rfl | omega | (simp only [kR, Value.category, kCat_q, List.map, List.sum_cons, List.sum_nil]; omega))
              exact ⟨by rw [e0, bI_tt c124, decide_eq_true (by omega : niS (sR z (11 + i)) ≤ 8 * unS (sR z (11 + i)))]; rfl, rfl⟩
      · exact absurd c70 (by decide)
    · have e0 : G = true := by rw [← hG, okB, if_neg (by decide), if_neg (by decide)]
      refine k_istore B dX10_isWater_67 (by decide) ?_
      try refine kK.set1 (by first | exact True.intro | rfl | exact kCat_q _) ?_
      refine k_iload_n B dX10_isWater_69 rfl ?_
      refine k_if_ne B 117 dX10_isWater_70 (by decide) (fun c70 => ?_) (fun c70 => ?_)
      · refine k_iload_n B dX10_isWater_117 rfl ?_
        refine k_iconst B (v := 1) dX10_isWater_118 (by decide) ?_
        refine k_icmp_ne B 147 dX10_isWater_119 (by decide) (fun c119 => ?_) (fun c119 => ?_)
        · refine k_iconst B (v := 1) dX10_isWater_147 (by decide) ?_
          refine k_goto B 152 dX10_isWater_148 (by decide) ?_
          refine k_zret B hr dX10_isWater_152 (by rfl) ?_ (by first | exact Nat.le_of_ble_eq_true rfl | omega | (simp only [kR, Value.category, kCat_q, List.map, List.sum_cons, List.sum_nil]; omega)) (by first | exact Nat.le_of_ble_eq_true rfl | omega | (simp only [kR, Value.category, kCat_q, List.map, List.sum_cons, List.sum_nil]; omega))
          exact ⟨by rw [e0]; rfl, rfl⟩
        · exact absurd c119 (by decide)
      · exact absurd c70 (by decide)
  have tl1 : ∀ (li x4 : Int32) (pb : Bool), li = (if w = 0 then 1 else 3) → pb = decide ((sLo z i).2.2.1 &&& ((li &&& (sFb z ^^^ (-1))) ^^^ (-1)) = 0) → kK p l e (kR 3 0 0) s m args below meth c D (kA σ s.heap.size) 7 (kQ below args s D σ (fun v s2 => v = some (.int (bI G)) ∧ s2 = σ) (fun _ => False) 0 0) σ 0 0 42 [some (.ref aM), some (.int (nI i)), some (.int w), some (.int (nI (11 + i))), some (.int x4), none, none] [.int (bI pb)] := by
    intro li x4 pb hli hpb
    refine k_istore B dX10_isWater_42 (by decide) ?_
    try refine kK.set1 (by first | exact True.intro | rfl | exact kCat_q _) ?_
    refine k_aload_n B dX10_isWater_44 rfl (by first | exact kRf_r _ | exact kRf_q _ | exact kRf_n) ?_
    refine gf_X10_74 B dX10_isWater_45 h.o rfl ?_
    refine k_iload_n B dX10_isWater_48 rfl ?_
    refine k_iald B dX10_isWater_49 (h.i (k := 28) rfl (by decide)) (vp_in_nI hi40 (by decide)) ?_
    refine kK.rei (y := nI (sLo z i).2.1) (by rw [nI_clamp (by omega), t2]) ?_
    refine k_aload_n B dX10_isWater_50 rfl (by first | exact kRf_r _ | exact kRf_q _ | exact kRf_n) ?_
    refine k_iload_n B dX10_isWater_51 rfl ?_
    refine k_iconst B (v := 1) dX10_isWater_52 (by decide) ?_
    refine cl_X10_186 B hfo h.o dX10_isWater_53 (by first | exact Nat.le_of_ble_eq_true rfl | omega | (simp only [kR, Value.category, kCat_q, List.map, List.sum_cons, List.sum_nil]; omega)) (by first | exact Nat.le_of_ble_eq_true rfl | omega | (simp only [kR, Value.category, kCat_q, List.map, List.sum_cons, List.sum_nil]; omega)) (by first | exact Nat.le_of_ble_eq_true rfl | omega | (simp only [kR, Value.category, kCat_q, List.map, List.sum_cons, List.sum_nil]; omega)) (by first | exact Nat.le_of_ble_eq_true rfl | omega | (simp only [kR, Value.category, kCat_q, List.map, List.sum_cons, List.sum_nil]; omega)) (by first | exact Nat.le_of_ble_eq_true rfl | omega | (simp only [kR, Value.category, kCat_q, List.map, List.sum_cons, List.sum_nil]; omega)) (fun _ hx => hx.elim) (fun v53 s53 hp53 => ?_)
    obtain ⟨rfl, e53⟩ := hp53
    rw [e53]
    refine kK.rev (y := .int (yoI (sR z (11 + i)))) rfl ?_
    refine k_isub B dX10_isWater_56 ?_
    refine k_bipush B (v := 10) dX10_isWater_57 (by decide) ?_
    refine k_icmp_lt B 66 dX10_isWater_59 (by decide) (fun c59 => ?_) (fun c59 => ?_)
    · refine k_iconst B (v := 0) dX10_isWater_66 (by decide) ?_
      exact tl2 li x4 pb false hli hpb (by rw [decide_eq_false (i32_lt_nle c59)])
    · refine k_iconst B (v := 1) dX10_isWater_62 (by decide) ?_
      refine k_goto B 67 dX10_isWater_63 (by decide) ?_
      exact tl2 li x4 pb true hli hpb (by rw [decide_eq_true (i32_nlt c59)])
  have tl0 : ∀ (li : Int32), li = (if w = 0 then 1 else 3) → kK p l e (kR 3 0 0) s m args below meth c D (kA σ s.heap.size) 7 (kQ below args s D σ (fun v s2 => v = some (.int (bI G)) ∧ s2 = σ) (fun _ => False) 0 0) σ 0 0 14 [some (.ref aM), some (.int (nI i)), some (.int w), some (.int (nI (11 + i))), none, none, none] [.int li] := by
    intro li hli
    refine k_aload_n B dX10_isWater_14 rfl (by first | exact kRf_r _ | exact kRf_q _ | exact kRf_n) ?_
    refine gf_X10_183 B dX10_isWater_15 h.o rfl ?_
    refine k_iconst B (v := (-1)) dX10_isWater_18 (by decide) ?_
    refine k_ixor B dX10_isWater_19 ?_
    refine k_iand B dX10_isWater_20 ?_
    refine k_istore B dX10_isWater_21 (by decide) ?_
    try refine kK.set1 (by first | exact True.intro | rfl | exact kCat_q _) ?_
    refine k_aload_n B dX10_isWater_23 rfl (by first | exact kRf_r _ | exact kRf_q _ | exact kRf_n) ?_
    refine gf_X10_77 B dX10_isWater_24 h.o rfl ?_
    refine k_iload_n B dX10_isWater_27 rfl ?_
    refine k_iald B dX10_isWater_28 (h.i (k := 29) rfl (by decide)) (vp_in_nI hi40 (by decide)) ?_
    refine kK.rei (y := (sLo z i).2.2.1) (by rw [nI_clamp (by omega), t3]) ?_
    refine k_iload B dX10_isWater_29 rfl ?_
    refine k_iconst B (v := (-1)) dX10_isWater_31 (by decide) ?_
    refine k_ixor B dX10_isWater_32 ?_
    refine k_iand B dX10_isWater_33 ?_
    refine k_if_ne B 41 dX10_isWater_34 (by decide) (fun c34 => ?_) (fun c34 => ?_)
    · refine k_iconst B (v := 0) dX10_isWater_41 (by decide) ?_
      exact tl1 li _ false hli (decide_eq_false c34).symm
    · refine k_iconst B (v := 1) dX10_isWater_37 (by decide) ?_
      refine k_goto B 42 dX10_isWater_38 (by decide) ?_
      exact tl1 li _ true hli (decide_eq_true c34).symm
  refine k_iload_n B dX10_isWater_0 rfl ?_
  refine cl_X10_171 B (c_X10_lotRow hl) dX10_isWater_1 (by first | exact Nat.le_of_ble_eq_true rfl | omega | (simp only [kR, Value.category, kCat_q, List.map, List.sum_cons, List.sum_nil]; omega)) (by first | exact Nat.le_of_ble_eq_true rfl | omega | (simp only [kR, Value.category, kCat_q, List.map, List.sum_cons, List.sum_nil]; omega)) (by first | exact Nat.le_of_ble_eq_true rfl | omega | (simp only [kR, Value.category, kCat_q, List.map, List.sum_cons, List.sum_nil]; omega)) (by first | exact Nat.le_of_ble_eq_true rfl | omega | (simp only [kR, Value.category, kCat_q, List.map, List.sum_cons, List.sum_nil]; omega)) (by first | exact Nat.le_of_ble_eq_true rfl | omega | (simp only [kR, Value.category, kCat_q, List.map, List.sum_cons, List.sum_nil]; omega)) (fun _ hx => hx.elim) (fun v1 s1 hp1 => ?_)
  obtain ⟨rfl, e1⟩ := hp1
  rw [e1]
  refine kK.rev (y := .int (nI (11 + i))) rfl ?_
  refine k_istore_n B dX10_isWater_4 (by decide) ?_
  try refine kK.set1 (by first | exact True.intro | rfl | exact kCat_q _) ?_
  refine k_iload_n B dX10_isWater_5 rfl ?_
  refine k_if_ne B 13 dX10_isWater_6 (by decide) (fun c6 => ?_) (fun c6 => ?_)
  · refine k_iconst B (v := 3) dX10_isWater_13 (by decide) ?_
    exact tl0 3 (by rw [if_neg c6])
  · refine k_iconst B (v := 1) dX10_isWater_9 (by decide) ?_
    refine k_goto B 14 dX10_isWater_10 (by decide) ?_
    exact tl0 1 (by rw [if_pos c6])
set_option maxRecDepth 100000 in
theorem c_X10_bestOf (hl : l.stackTraces = false) (hs : sOk z) (h : cM D aM ma mv kn Lk z t σ) {i : Nat} (hi : i < sLn z) : kMh hX10_bestOf l D yX10_bestOf 4 0 0 [.ref aM, .int (nI i)] σ (fun v s2 => v = some (.int (rBest z (nI i))) ∧ s2 = σ) (fun _ => False) := by
  refine kM_of (L := [some (.ref aM), some (.int (nI i))]) (by decide +kernel) hl (List.forall_mem_cons.mpr ⟨rfl, (List.forall_mem_cons.mpr ⟨rfl, (fun _ h => absurd h List.not_mem_nil)⟩)⟩) (Nat.le_of_ble_eq_true rfl) rfl ?_
  intro p e s m args below meth c B hr hex hnm
  have B : kB p l s m args meth c D (kA σ s.heap.size) 2 cX10_bestOf RX10 := B
  have h40 := hs.2.2.2.1.1
  have ek : ∀ k, kindB z (nI i) k = okB k (sFb z) (sLo z i).2.2.1 (sLo z i).2.1 (sR z (11 + i)) := fun k => by rw [kindB, cN_nI (by omega)]
  refine k_aload_n B dX10_bestOf_0 rfl (by first | exact kRf_r _ | exact kRf_q _ | exact kRf_n) ?_
  refine k_iload_n B dX10_bestOf_1 rfl ?_
  refine k_iconst B (v := 0) dX10_bestOf_2 (by decide) ?_
  refine cl_X10_201 B (c_X10_isWater hl hs h hi (Or.inl rfl)) h.o dX10_bestOf_3 (by first | exact Nat.le_of_ble_eq_true rfl | omega | (simp only [kR, Value.category, kCat_q, List.map, List.sum_cons, List.sum_nil]; omega)) (by first | exact Nat.le_of_ble_eq_true rfl | omega | (simp only [kR, Value.category, kCat_q, List.map, List.sum_cons, List.sum_nil]; omega)) (by first | exact Nat.le_of_ble_eq_true rfl | omega | (simp only [kR, Value.category, kCat_q, List.map, List.sum_cons, List.sum_nil]; omega)) (by first | exact Nat.le_of_ble_eq_true rfl | omega | (simp only [kR, Value.category, kCat_q, List.map, List.sum_cons, List.sum_nil]; omega)) (by first | exact Nat.le_of_ble_eq_true rfl | omega | (simp only [kR, Value.category, kCat_q, List.map, List.sum_cons, List.sum_nil]; omega)) (fun _ hx => hx.elim) (fun v3 s3 hp3 => ?_)
  obtain ⟨rfl, e3⟩ := hp3
  rw [e3, ← ek]
  refine kK.rev (y := .int (bI (kindB z (nI i) 0))) rfl ?_
  refine k_if_eq B 13 dX10_bestOf_6 (by decide) (fun c6 => ?_) (fun c6 => ?_)
  · refine k_aload_n B dX10_bestOf_13 rfl (by first | exact kRf_r _ | exact kRf_q _ | exact kRf_n) ?_
    refine k_iload_n B dX10_bestOf_14 rfl ?_
    refine k_iconst B (v := 1) dX10_bestOf_15 (by decide) ?_
    refine cl_X10_201 B (c_X10_isWater hl hs h hi (Or.inr (Or.inl rfl))) h.o dX10_bestOf_16 (by first | exact Nat.le_of_ble_eq_true rfl | omega | (simp only [kR, Value.category, kCat_q, List.map, List.sum_cons, List.sum_nil]; omega)) (by first | exact Nat.le_of_ble_eq_true rfl | omega | (simp only [kR, Value.category, kCat_q, List.map, List.sum_cons, List.sum_nil]; omega)) (by first | exact Nat.le_of_ble_eq_true rfl | omega | (simp only [kR, Value.category, kCat_q, List.map, List.sum_cons, List.sum_nil]; omega)) (by first | exact Nat.le_of_ble_eq_true rfl | omega | (simp only [kR, Value.category, kCat_q, List.map, List.sum_cons, List.sum_nil]; omega)) (by first | exact Nat.le_of_ble_eq_true rfl | omega | (simp only [kR, Value.category, kCat_q, List.map, List.sum_cons, List.sum_nil]; omega)) (fun _ hx => hx.elim) (fun v16 s16 hp16 => ?_)
    obtain ⟨rfl, e16⟩ := hp16
    rw [e16, ← ek]
    refine kK.rev (y := .int (bI (kindB z (nI i) 1))) rfl ?_
    refine k_if_eq B 26 dX10_bestOf_19 (by decide) (fun c19 => ?_) (fun c19 => ?_)
    · refine k_iconst B (v := 2) dX10_bestOf_26 (by decide) ?_
      refine k_iret B hr dX10_bestOf_27 ?_ (by first | exact Nat.le_of_ble_eq_true rfl | omega | (simp only [kR, Value.category, kCat_q, List.map, List.sum_cons, List.sum_nil]; omega)) (by first | exact Nat.le_of_ble_eq_true rfl | omega | (simp only [kR, Value.category, kCat_q, List.map, List.sum_cons, List.sum_nil]; omega))
      exact ⟨by rw [rBest, bI_ff c6, bI_ff c19]; rfl, rfl⟩
    · refine k_iconst B (v := 1) dX10_bestOf_22 (by decide) ?_
      refine k_goto B 27 dX10_bestOf_23 (by decide) ?_
      refine k_iret B hr dX10_bestOf_27 ?_ (by first | exact Nat.le_of_ble_eq_true rfl | omega | (simp only [kR, Value.category, kCat_q, List.map, List.sum_cons, List.sum_nil]; omega)) (by first | exact Nat.le_of_ble_eq_true rfl | omega | (simp only [kR, Value.category, kCat_q, List.map, List.sum_cons, List.sum_nil]; omega))
      exact ⟨by rw [rBest, bI_ff c6, bI_tt c19]; rfl, rfl⟩
  · refine k_iconst B (v := 0) dX10_bestOf_9 (by decide) ?_
    refine k_goto B 27 dX10_bestOf_10 (by decide) ?_
    refine k_iret B hr dX10_bestOf_27 ?_ (by first | exact Nat.le_of_ble_eq_true rfl | omega | (simp only [kR, Value.category, kCat_q, List.map, List.sum_cons, List.sum_nil]; omega)) (by first | exact Nat.le_of_ble_eq_true rfl | omega | (simp only [kR, Value.category, kCat_q, List.map, List.sum_cons, List.sum_nil]; omega))
    exact ⟨by rw [rBest, bI_tt c6]; rfl, rfl⟩
set_option maxRecDepth 100000 in
theorem c_X10_held (hl : l.stackTraces = false) (hs : sOk z) (h : cM D aM ma mv kn Lk z t σ) : kMh hX10_held l D yX10_held 1 0 0 [.ref aM] σ (fun v s2 => v = some (.long (nL (fIn z))) ∧ s2 = σ) (fun _ => False) := by
  refine kM_of (L := [some (.ref aM), none, none, none]) (by decide +kernel) hl (List.forall_mem_cons.mpr ⟨rfl, (fun _ h => absurd h List.not_mem_nil)⟩) (Nat.le_of_ble_eq_true rfl) rfl ?_
  intro p e s m args below meth c B hr hex hnm
  have B : kB p l s m args meth c D (kA σ s.heap.size) 4 cX10_held RX10 := B
  have loop : ∀ d9 i : Nat, i + d9 = 10 → kK p l e (kR 1 0 0) s m args below meth c D (kA σ s.heap.size) 4 (kQ below args s D σ (fun v s2 => v = some (.long (nL (fIn z))) ∧ s2 = σ) (fun _ => False) 0 0) σ 0 0 4 [some (.ref aM), some (.long (nL (suN (fun i => unS (sR z i)) i))), none, some (.int (nI i))] [] := by
    intro d9
    induction d9 with
    | zero =>
      intro i hi
      obtain rfl : i = 10 := hi
      refine k_iload_n B dX10_held_4 rfl ?_
      refine k_bipush B (v := 10) dX10_held_5 (by decide) ?_
      refine k_icmp_ge B 26 dX10_held_7 (by decide) (fun c7 => ?_) (fun c7 => ?_)
      · refine k_lload_n B dX10_held_26 rfl ?_
        refine k_lret B hr dX10_held_27 ?_ (by first | exact Nat.le_of_ble_eq_true rfl | omega | (simp only [kR, Value.category, kCat_q, List.map, List.sum_cons, List.sum_nil]; omega)) (by first | exact Nat.le_of_ble_eq_true rfl | omega | (simp only [kR, Value.category, kCat_q, List.map, List.sum_cons, List.sum_nil]; omega))
        exact ⟨rfl, rfl⟩
      · exact absurd (Int32.le_refl _) c7
    | succ d9 ih =>
      intro i hi
      have hi10 : i < 10 := by omega
      have hu := hs.un (i := i) (by omega)
      refine k_iload_n B dX10_held_4 rfl ?_
      refine k_bipush B (v := 10) dX10_held_5 (by decide) ?_
      refine k_icmp_ge B 26 dX10_held_7 (by decide) (fun c7 => ?_) (fun c7 => ?_)
      · exact absurd (show nI 10 ≤ nI i from c7) (nI_ge hi10 (by omega))
      · refine k_lload_n B dX10_held_10 rfl ?_
        refine k_aload_n B dX10_held_11 rfl (by first | exact kRf_r _ | exact kRf_q _ | exact kRf_n) ?_
        refine gf_X10_34 B dX10_held_12 h.o rfl ?_
        refine k_iload_n B dX10_held_15 rfl ?_
        refine k_iald B dX10_held_16 (h.i (k := 9) rfl (by decide)) (vp_in_nI (show i < 51 by omega) (by decide)) ?_
        refine kK.rei (y := nI (unS (sR z i))) (by rw [nI_clamp (by omega)]; exact h.un (by omega) (by omega)) ?_
        refine k_i2l B dX10_held_17 ?_
        refine kK.rel (y := nL (unS (sR z i))) (nI_L (by omega)) ?_
        refine k_ladd B dX10_held_18 ?_
        refine kK.rel (y := nL (suN (fun i => unS (sR z i)) (i + 1))) (nL_add _ _) ?_
        refine k_lstore_n B dX10_held_19 (by decide) ?_
        refine k_iinc1 B dX10_held_20 rfl (by decide) ?_
        try refine kK.set1 (by first | exact True.intro | rfl | exact kCat_q _) ?_
        refine k_goto B 4 dX10_held_23 (by decide) ?_
        rw [nI_1]
        refine kK.sub (L2 := [some (.ref aM), some (.long (nL (suN (fun i => unS (sR z i)) (i + 1)))), none, some (.int (nI (i + 1)))]) ⟨Or.inr rfl, Or.inr rfl, Or.inl rfl, Or.inr rfl, trivial⟩ ?_
        exact ih (i + 1) (by omega)
  refine k_lconst B (v := 0) dX10_held_0 (by decide) ?_
  refine k_lstore_n B dX10_held_1 (by decide) ?_
  refine k_iconst B (v := 0) dX10_held_2 (by decide) ?_
  refine k_istore_n B dX10_held_3 (by decide) ?_
  try refine kK.set1 (by first | exact True.intro | rfl | exact kCat_q _) ?_
  rw [← nI_0]
  refine kK.sub (L2 := [some (.ref aM), some (.long (nL 0)), none, some (.int (nI 0))]) ⟨Or.inr rfl, Or.inr rfl, Or.inl rfl, Or.inr rfl, trivial⟩ ?_
  exact loop 10 0 rfl
set_option maxRecDepth 100000 in
theorem c_X10_falseOnes (hl : l.stackTraces = false) (hs : sOk z) (h : cM D aM ma mv kn Lk z t σ) : kMh hX10_falseOnes l D yX10_falseOnes 1 0 0 [.ref aM] σ (fun v s2 => v = some (.long (nL (fFal z))) ∧ s2 = σ) (fun _ => False) := by
  refine kM_of (L := [some (.ref aM), none, none, none]) (by decide +kernel) hl (List.forall_mem_cons.mpr ⟨rfl, (fun _ h => absurd h List.not_mem_nil)⟩) (Nat.le_of_ble_eq_true rfl) rfl ?_
  intro p e s m args below meth c B hr hex hnm
  have B : kB p l s m args meth c D (kA σ s.heap.size) 4 cX10_falseOnes RX10 := B
  have h40 := hs.2.2.2.1.1
  generalize hf : (fun i => if truI (sLo z i).2.2.2.1 (sLo z i).2.2.2.2.1 = 0 then 1 else 0) = f
  have hG : fFal z = suN f (sLn z) := by rw [← hf]; rfl
  rw [hG]
  have loop : ∀ d9 i : Nat, i + d9 = sLn z → kK p l e (kR 1 0 0) s m args below meth c D (kA σ s.heap.size) 4 (kQ below args s D σ (fun v s2 => v = some (.long (nL (suN f (sLn z)))) ∧ s2 = σ) (fun _ => False) 0 0) σ 0 0 4 [some (.ref aM), some (.long (nL (suN f i))), none, some (.int (nI i))] [] := by
    intro d9
    induction d9 with
    | zero =>
      intro i hi
      have hi : i = sLn z := hi
      refine k_iload_n B dX10_falseOnes_4 rfl ?_
      refine k_aload_n B dX10_falseOnes_5 rfl (by first | exact kRf_r _ | exact kRf_q _ | exact kRf_n) ?_
      refine gf_X10_100 B dX10_falseOnes_6 h.o rfl ?_
      refine kK.rei (y := nI (sLn z)) rfl ?_
      refine k_icmp_ge B 45 dX10_falseOnes_9 (by decide) (fun c9 => ?_) (fun c9 => ?_)
      · refine k_lload_n B dX10_falseOnes_45 rfl ?_
        refine k_lret B hr dX10_falseOnes_46 ?_ (by first | exact Nat.le_of_ble_eq_true rfl | omega | (simp only [kR, Value.category, kCat_q, List.map, List.sum_cons, List.sum_nil]; omega)) (by first | exact Nat.le_of_ble_eq_true rfl | omega | (simp only [kR, Value.category, kCat_q, List.map, List.sum_cons, List.sum_nil]; omega))
        exact ⟨by rw [hi], rfl⟩
      · exact absurd (by rw [hi]; exact Int32.le_refl _) c9
    | succ d9 ih =>
      intro i hi
      have hi : i < sLn z := by omega
      obtain ⟨t1, t2, t3, t4, t5, t6⟩ := h.T.1 i hi
      have hi40 : i < 40 := by omega
      have nxt : ∀ w : Nat, w = f i → kK p l e (kR 1 0 0) s m args below meth c D (kA σ s.heap.size) 4 (kQ below args s D σ (fun v s2 => v = some (.long (nL (suN f (sLn z)))) ∧ s2 = σ) (fun _ => False) 0 0) σ 0 0 37 [some (.ref aM), some (.long (nL (suN f i))), none, some (.int (nI i))] [.long (nL w), .long (nL (suN f i))] := by
        intro w hw
        subst hw
        refine k_ladd B dX10_falseOnes_37 ?_
        refine kK.rel (y := nL (suN f (i + 1))) (nL_add _ _) ?_
        refine k_lstore_n B dX10_falseOnes_38 (by decide) ?_
        refine k_iinc1 B dX10_falseOnes_39 rfl (by decide) ?_
        try refine kK.set1 (by first | exact True.intro | rfl | exact kCat_q _) ?_
        refine k_goto B 4 dX10_falseOnes_42 (by decide) ?_
        rw [nI_1]
        refine kK.sub (L2 := [some (.ref aM), some (.long (nL (suN f (i + 1)))), none, some (.int (nI (i + 1)))]) ⟨Or.inr rfl, Or.inr rfl, Or.inl rfl, Or.inr rfl, trivial⟩ ?_
        exact ih (i + 1) (by omega)
      have hfi : f i = if truI (sLo z i).2.2.2.1 (sLo z i).2.2.2.2.1 = 0 then 1 else 0 := by rw [← hf]
      have no : f i = 0 → kK p l e (kR 1 0 0) s m args below meth c D (kA σ s.heap.size) 4 (kQ below args s D σ (fun v s2 => v = some (.long (nL (suN f (sLn z)))) ∧ s2 = σ) (fun _ => False) 0 0) σ 0 0 36 [some (.ref aM), some (.long (nL (suN f i))), none, some (.int (nI i))] [.long (nL (suN f i))] := by
        intro h0
        refine k_lconst B (v := 0) dX10_falseOnes_36 (by decide) ?_
        exact nxt 0 h0.symm
      refine k_iload_n B dX10_falseOnes_4 rfl ?_
      refine k_aload_n B dX10_falseOnes_5 rfl (by first | exact kRf_r _ | exact kRf_q _ | exact kRf_n) ?_
      refine gf_X10_100 B dX10_falseOnes_6 h.o rfl ?_
      refine kK.rei (y := nI (sLn z)) rfl ?_
      refine k_icmp_ge B 45 dX10_falseOnes_9 (by decide) (fun c9 => ?_) (fun c9 => ?_)
      · exact absurd c9 (nI_ge hi (by omega))
      · refine k_lload_n B dX10_falseOnes_12 rfl ?_
        refine k_aload_n B dX10_falseOnes_13 rfl (by first | exact kRf_r _ | exact kRf_q _ | exact kRf_n) ?_
        refine gf_X10_80 B dX10_falseOnes_14 h.o rfl ?_
        refine k_iload_n B dX10_falseOnes_17 rfl ?_
        refine k_iald B dX10_falseOnes_18 (h.i (k := 30) rfl (by decide)) (vp_in_nI hi40 (by decide)) ?_
        refine kK.rei (y := (sLo z i).2.2.2.1) (by rw [nI_clamp (by omega), t4]) ?_
        refine k_iconst B (v := (-1)) dX10_falseOnes_19 (by decide) ?_
        refine k_icmp_eq B 36 dX10_falseOnes_20 (by decide) (fun c20 => ?_) (fun c20 => ?_)
        · exact no (by rw [hfi, truI, if_pos c20]; rfl)
        · refine k_aload_n B dX10_falseOnes_23 rfl (by first | exact kRf_r _ | exact kRf_q _ | exact kRf_n) ?_
          refine gf_X10_83 B dX10_falseOnes_24 h.o rfl ?_
          refine k_iload_n B dX10_falseOnes_27 rfl ?_
          refine k_zald B dX10_falseOnes_28 (h.zb (k := 31) rfl (by decide)) (vp_in_nI hi40 (by decide)) ?_
          refine kK.rei (y := (sLo z i).2.2.2.2.1) (by rw [nI_clamp (by omega), t5]) ?_
          refine k_if_ne B 36 dX10_falseOnes_29 (by decide) (fun c29 => ?_) (fun c29 => ?_)
          · exact no (by rw [hfi, truI, if_neg c20, if_neg c29]; rfl)
          · refine k_lconst B (v := 1) dX10_falseOnes_32 (by decide) ?_
            refine k_goto B 37 dX10_falseOnes_33 (by decide) ?_
            exact nxt 1 (by rw [hfi, truI, if_neg c20, if_pos c29]; rfl)
  refine k_lconst B (v := 0) dX10_falseOnes_0 (by decide) ?_
  refine k_lstore_n B dX10_falseOnes_1 (by decide) ?_
  refine k_iconst B (v := 0) dX10_falseOnes_2 (by decide) ?_
  refine k_istore_n B dX10_falseOnes_3 (by decide) ?_
  try refine kK.set1 (by first | exact True.intro | rfl | exact kCat_q _) ?_
  rw [← nI_0]
  refine kK.sub (L2 := [some (.ref aM), some (.long (nL 0)), none, some (.int (nI 0))]) ⟨Or.inr rfl, Or.inr rfl, Or.inl rfl, Or.inr rfl, trivial⟩ ?_
  exact loop (sLn z) 0 (Nat.zero_add _)
end Water
