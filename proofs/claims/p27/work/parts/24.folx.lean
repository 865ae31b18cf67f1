theorem emS_le {P : Nat → List (Nat × Nat)} : ∀ {m n : Nat}, m ≤ n → emS P m ≤ emS P n := by
  intro m n h
  induction n with
  | zero => have : m = 0 := by omega
            subst this; exact Nat.le_refl _
  | succ n ih =>
    by_cases q : m = n + 1
    · subst q; exact Nat.le_refl _
    · have := ih (by omega)
      simp only [emS]; omega
def quV (F : kF) (f u : Nat) : Nat := quS (tkQ (F.2.2.1 f) (F.2.1 f + u)).1
def moF (f : Nat) (d : Option Nat) (u : Nat) (F : kF) : kF := match d with
  | some d => (upN F.1 d (F.1 d + u), upN F.2.1 f (F.2.1 f + u), upN (upN F.2.2.1 f (tkQ (F.2.2.1 f) (F.2.1 f + u)).2) d (F.2.2.1 d ++ (tkQ (F.2.2.1 f) (F.2.1 f + u)).1.map (shQ (F.1 d) (F.2.1 f))), F.2.2.2 - (if cutQ (F.2.2.1 f) (F.2.1 f + u) = true then 1 else 0))
  | none => (F.1, upN F.2.1 f (F.2.1 f + u), upN F.2.2.1 f (tkQ (F.2.2.1 f) (F.2.1 f + u)).2, spNq (F.2.2.1 f) (F.2.1 f + u) F.2.2.2)
def moC (f : Nat) (d : Option Nat) (u : Nat) (F : kF) : Nat := match d with
  | some _ => if cutQ (F.2.2.1 f) (F.2.1 f + u) = true then (if F.2.2.2 = 0 then 1 else 0) else 0
  | none => mcNq (F.2.2.1 f) (F.2.1 f + u) F.2.2.2
/-- to where a move goes: a cell below 10, the spring 10, lots from 11 on -/
def toI (d : Nat) : Int32 := if d < 10 then nI d else if d = 10 then -1 else nI (d - 1)
def toO (d : Nat) : Option Nat := if d < 10 then some d else none
theorem vx_Met.post {l : Launch} {y : MethodName} {ws : List Cond} {rm : Room} {Pc : Array Value → State → Prop} {Qc Qc2 : Array Value → State → Outcome → State → Prop} {XC XC2 : String → State → State → Prop} {mc ms : Nat} {free : Addr → Prop} (hM : vx_Met l y ws rm Pc Qc XC mc ms free) (h1 : ∀ a st o t, Qc a st o t → Qc2 a st o t) (h2 : ∀ E st t, XC E st t → XC2 E st t) : vx_Met l y ws rm Pc Qc2 XC2 mc ms free := by
  intro p e a1 a2 a3 s m args below a4 a5 a6 a7
  obtain ⟨t, o, b1, b2, b3, b4⟩ := hM p e a1 a2 a3 s m args below a4 a5 a6 a7
  refine ⟨t, o, b1, b2, b3, ?_⟩
  rcases b4 with ⟨q1, q2⟩ | ⟨q, q1, E, ce, L, q2, q3⟩
  · exact Or.inl ⟨h1 _ _ _ _ q1, q2⟩
  · exact Or.inr ⟨q, q1, E, ce, L, h2 _ _ _ q2, q3⟩
/-- a weaker end -/
theorem kMh.post {hd : Cond} {l : Launch} {D : va_G} {y : MethodName} {h mc ms : Nat} {av : List Value} {σ : kS} {Post Post2 : Option Value → kS → Prop} {PX PX2 : String → Prop} (hM : kMh hd l D y h mc ms av σ Post PX) (hp : ∀ v s2, Post v s2 → Post2 v s2) (hx : ∀ E, PX E → PX2 E := by exact fun _ hx => hx) : kMh hd l D y h mc ms av σ Post2 PX2 := by
  intro sz
  refine vx_Met.post (hM sz) (fun a st o t hq => ?_) (fun E st t hq => ?_)
  · obtain ⟨v, σ2, h1, h2, h3⟩ := hq
    exact ⟨v, σ2, h1, hp v σ2 h2, h3⟩
  · exact ⟨hx E hq.1, hq.2⟩
section Folx
variable {l : Launch} {D : va_G} {σ : kS} {aJ tk : Nat} {tad : Nat → Nat} {fJ zJ : Option Nat}
set_option maxHeartbeats 4000000 in
set_option maxRecDepth 100000 in
theorem c_X1_emptyTanks (hl : l.stackTraces = false) {F : kF} (hF : tkF D aJ tk tad fJ zJ F σ) : kMh hX1_emptyTanks l D yX1_emptyTanks 2 0 0 [.ref aJ] σ (fun v s2 => v = none ∧ tkF D aJ tk tad fJ zJ (emF F) s2 ∧ kFr k147 σ s2) (fun _ => False) := by
  refine kM_of (L := [some (.ref aJ), none, none, none, none]) (by decide +kernel) hl (List.forall_mem_cons.mpr ⟨rfl, (fun _ h => absurd h List.not_mem_nil)⟩) (Nat.le_of_ble_eq_true rfl) rfl ?_
  intro p e s m args below meth c B hr hex hnm
  have B : kB p l s m args meth c D (kA σ s.heap.size) 5 cX1_emptyTanks RX1 := B
  obtain ⟨TP, SP, hI, hTP, hSPl⟩ := hF
  have loop : ∀ (n i : Nat) (TP1 : Nat → kTs) (SP1 : kQs) (cm1 wt1 : Nat → Nat) (s1 : kS), i + n = 10 → tkI D aJ tk tad fJ zJ cm1 wt1 TP1 SP1 s1 → (∀ j, j < i → cm1 j = 0 ∧ wt1 j = 0 ∧ TP1 j = []) → (∀ j, i ≤ j → j < 10 → TP1 j = TP j) → SP1.length = F.2.2.2 + emS F.2.2.1 i → kFr k147 σ s1 →
      kK p l e (kR 2 0 0) s m args below meth c D (kA σ s.heap.size) 5 (kQ below args s D σ (fun v s2 => v = none ∧ tkF D aJ tk tad fJ zJ (emF F) s2 ∧ kFr k147 σ s2) (fun _ => False) 0 0) s1 0 0 2 [some (.ref aJ), some (.int (nI i)), none, none, none] [] := by
    intro n
    induction n with
    | zero =>
      intro i TP1 SP1 cm1 wt1 s1 hi hI1 hz ho hS hFr
      have hi10 : i = 10 := by omega
      subst hi10
      refine k_iload_n B dX1_emptyTanks_2 rfl ?_
      refine k_bipush B (v := 10) dX1_emptyTanks_3 (by decide) ?_
      refine k_icmp_ge B 62 dX1_emptyTanks_5 (by decide) (fun c5 => ?_) (fun c5 => ?_)
      · refine k_vret B hr dX1_emptyTanks_62 ?_ (by first | exact Nat.le_of_ble_eq_true rfl | omega | (simp only [kR, Value.category, kCat_q, List.map, List.sum_cons, List.sum_nil]; omega)) (by first | exact Nat.le_of_ble_eq_true rfl | omega | (simp only [kR, Value.category, kCat_q, List.map, List.sum_cons, List.sum_nil]; omega))
        exact ⟨rfl, ⟨TP1, SP1, hI1.congr (fun j hj => ((hz j hj).1).symm) (fun j hj => ((hz j hj).2.1).symm), fun j hj => by rw [(hz j hj).2.2]; rfl, hS⟩, hFr⟩
      · exact absurd (Int32.le_refl _) c5
    | succ n ih =>
      intro i TP1 SP1 cm1 wt1 s1 hi hI1 hz ho hS hFr
      have hi10 : i < 10 := by omega
      have hI2 := hI1
      obtain ⟨h1, ⟨ft, h2, h2b⟩, h3, h4, h5, h6, h7, h8, h9, h10⟩ := hI2
      have ht := h3 i hi10
      have hlenT : (TP1 i).length = (F.2.2.1 i).length := by rw [ho i (Nat.le_refl _) hi10, ← hTP i hi10, tCon_len]
      have hjt : aJ ≠ tad i := kNe h1 ht (by decide)
      -- the inner loop
      have inner : ∀ (P1 : kTs) (SP2 : kQs) (s2 : kS), s2 aJ = some (jE tk fJ zJ (hdA SP2)) → s2 (tad i) = some (tE (cm1 i) (wt1 i) (hdA (TP1 i)) (lsA (TP1 i))) → gSeg tpE s2 P1 none → gSeg pcE s2 SP2 none → (ad P1 ++ ad SP2).Nodup → (∀ a ∈ ad P1 ++ ad SP2, a ∈ ad (TP1 i) ++ ad SP1) → SP2.length + P1.length = SP1.length + (TP1 i).length → kOut (fun a => a = aJ ∨ a = tad i ∨ a ∈ ad (TP1 i) ++ ad SP1) s1 s2 → kFr k147 s1 s2 →
          kK p l e (kR 2 0 0) s m args below meth c D (kA σ s.heap.size) 5 (kQ below args s D σ (fun v s2 => v = none ∧ tkF D aJ tk tad fJ zJ (emF F) s2 ∧ kFr k147 σ s2) (fun _ => False) 0 0) s2 0 0 20 [some (.ref aJ), some (.int (nI i)), some (.ref (tad i)), some (va_rf (hdA P1)), none] [] := by
        intro P1
        induction P1 with
        | nil =>
          intro SP2 s2 g1 g2 g3 g4 g5 g6 g7 g8 g9
          refine k_aload_n B dX1_emptyTanks_20 rfl (by first | exact kRf_r _ | exact kRf_q _ | exact kRf_n) ?_
          refine k_ifnullN B 41 dX1_emptyTanks_21 (by decide) ?_
          refine k_aload_n B dX1_emptyTanks_41 rfl (by first | exact kRf_r _ | exact kRf_q _ | exact kRf_n) ?_
          refine k_null B dX1_emptyTanks_42 ?_
          refine cl_X1_65 B (c_X7_startAt hl (P := []) g2 trivial) g2 dX1_emptyTanks_43 (by first | exact Nat.le_of_ble_eq_true rfl | omega | (simp only [kR, Value.category, kCat_q, List.map, List.sum_cons, List.sum_nil]; omega)) (by first | exact Nat.le_of_ble_eq_true rfl | omega | (simp only [kR, Value.category, kCat_q, List.map, List.sum_cons, List.sum_nil]; omega)) (by first | exact Nat.le_of_ble_eq_true rfl | omega | (simp only [kR, Value.category, kCat_q, List.map, List.sum_cons, List.sum_nil]; omega)) (by first | exact Nat.le_of_ble_eq_true rfl | omega | (simp only [kR, Value.category, kCat_q, List.map, List.sum_cons, List.sum_nil]; omega)) (by first | exact Nat.le_of_ble_eq_true rfl | omega | (simp only [kR, Value.category, kCat_q, List.map, List.sum_cons, List.sum_nil]; omega)) (fun _ hx => hx.elim) (fun v43 s43 hp43 => ?_)
          obtain ⟨rfl, e43⟩ := hp43
          rw [e43]
          refine k_aload_n B dX1_emptyTanks_46 rfl (by first | exact kRf_r _ | exact kRf_q _ | exact kRf_n) ?_
          refine k_iconst B (v := 0) dX1_emptyTanks_47 (by decide) ?_
          refine pf_X1_68 B dX1_emptyTanks_48 kUp_eq rfl ?_
          refine k_aload_n B dX1_emptyTanks_51 rfl (by first | exact kRf_r _ | exact kRf_q _ | exact kRf_n) ?_
          refine k_iconst B (v := 0) dX1_emptyTanks_52 (by decide) ?_
          refine pf_X1_71 B dX1_emptyTanks_53 kUp_eq rfl ?_
          refine kK.eq (σ2 := kUp s2 (tad i) (tE 0 0 none none)) (by rw [kUp_uu, kUp_uu]; rfl) ?_
          refine k_iinc1 B dX1_emptyTanks_56 rfl (by decide) ?_
          try refine kK.set1 (by first | exact True.intro | rfl | exact kCat_q _) ?_
          refine k_goto B 2 dX1_emptyTanks_59 (by decide) ?_
          refine kK.sub (L2 := [some (.ref aJ), some (.int (nI (i + 1))), none, none, none]) ⟨Or.inr rfl, Or.inr (by rw [← nI_1]), Or.inl rfl, Or.inl rfl, Or.inl rfl, trivial⟩ ?_
          have hI3 := hI1.one (c := i) (x := 0) (y := 0) hi10 (P2 := []) (SP2 := SP2) (s2 := kUp s2 (tad i) (tE 0 0 none none)) (g8.tr (kOut.up (Or.inr (Or.inl rfl)))) (kUp_o hjt g1) kUp_eq trivial (gSeg_keep g4 (fun a ha e he => by
            obtain ⟨p1, y1, hh⟩ := gSeg_adr g4 ha
            exact kUp_o (kNe hh g2 (by decide)) he)) (by simpa [ad] using g5) (fun a ha => Or.inl (g6 a (by simpa [ad] using ha)))
          refine ih (i + 1) _ SP2 _ _ _ (by omega) hI3 (fun j hj => ?_) (fun j hj hj2 => ?_) ?_ (hFr.tr (g9.tr (kFr.up g2 (Or.inr (Or.inr rfl)))))
          · by_cases q : j = i
            · subst q; rw [upN_eq, upN_eq, upN_eq]; exact ⟨rfl, rfl, rfl⟩
            · rw [upN_ne q, upN_ne q, upN_ne q]; exact hz j (by omega)
          · rw [upN_ne (by omega)]; exact ho j (by omega) hj2
          · simp only [emS, List.length_nil] at g7 ⊢
            omega
        | cons r t iht =>
          obtain ⟨a, q⟩ := r
          intro SP2 s2 g1 g2 g3 g4 g5 g6 g7 g8 g9
          have haJ : a ≠ aJ := kNe g3.1 g1 (by decide)
          have hat : a ≠ tad i := kNe g3.1 g2 (by decide)
          have n0 := List.nodup_cons.mp (show (a :: (ad t ++ ad SP2)).Nodup from g5)
          have hnt : a ∉ ad t := fun h => n0.1 (List.mem_append_left _ h)
          have hns : a ∉ ad SP2 := fun h => n0.1 (List.mem_append_right _ h)
          refine k_aload_n B dX1_emptyTanks_20 rfl (by first | exact kRf_r _ | exact kRf_q _ | exact kRf_n) ?_
          refine k_ifnullR B 41 dX1_emptyTanks_21 (by decide) ?_
          refine k_aload_n B dX1_emptyTanks_24 rfl (by first | exact kRf_r _ | exact kRf_q _ | exact kRf_n) ?_
          refine gf_X1_57 B dX1_emptyTanks_25 g3.1 rfl ?_
          refine k_astore B dX1_emptyTanks_28 (by decide) (by first | exact kRf_r _ | exact kRf_q _ | exact kRf_n) ?_
          try refine kK.set1 (by first | exact True.intro | rfl | exact kCat_q _) ?_
          refine k_aload_n B dX1_emptyTanks_30 rfl (by first | exact kRf_r _ | exact kRf_q _ | exact kRf_n) ?_
          refine k_aload_n B dX1_emptyTanks_31 rfl (by first | exact kRf_r _ | exact kRf_q _ | exact kRf_n) ?_
          refine cl_X1_61 B (c_X1_putAway hl (q := (nI q.1, nI q.2)) g1 g3.1) g1 dX1_emptyTanks_32 (by first | exact Nat.le_of_ble_eq_true rfl | omega | (simp only [kR, Value.category, kCat_q, List.map, List.sum_cons, List.sum_nil]; omega)) (by first | exact Nat.le_of_ble_eq_true rfl | omega | (simp only [kR, Value.category, kCat_q, List.map, List.sum_cons, List.sum_nil]; omega)) (by first | exact Nat.le_of_ble_eq_true rfl | omega | (simp only [kR, Value.category, kCat_q, List.map, List.sum_cons, List.sum_nil]; omega)) (by first | exact Nat.le_of_ble_eq_true rfl | omega | (simp only [kR, Value.category, kCat_q, List.map, List.sum_cons, List.sum_nil]; omega)) (by first | exact Nat.le_of_ble_eq_true rfl | omega | (simp only [kR, Value.category, kCat_q, List.map, List.sum_cons, List.sum_nil]; omega)) (fun _ hx => hx.elim) (fun v32 s32 hp32 => ?_)
          obtain ⟨rfl, e32⟩ := hp32
          rw [e32]
          refine k_aload B dX1_emptyTanks_35 rfl (by first | exact kRf_r _ | exact kRf_q _ | exact kRf_n) ?_
          refine k_astore_n B dX1_emptyTanks_37 (by decide) (by first | exact kRf_r _ | exact kRf_q _ | exact kRf_n) ?_
          try refine kK.set1 (by first | exact True.intro | rfl | exact kCat_q _) ?_
          refine k_goto B 20 dX1_emptyTanks_38 (by decide) ?_
          refine kK.sub (L2 := [some (.ref aJ), some (.int (nI i)), some (.ref (tad i)), some (va_rf (hdA t)), none]) ⟨Or.inr rfl, Or.inr rfl, Or.inr rfl, Or.inr (by rw [← hdG_n]), Or.inl rfl, trivial⟩ ?_
          refine iht ((a, (nI q.1, nI q.2)) :: SP2) _ kUp_eq (kUp_o (Ne.symm hjt) (kUp_o (Ne.symm hat) g2)) (gSeg_keep g3.2 (fun b hb e he => kUp_o ?_ (kUp_o (fun h => hnt (h ▸ hb)) he))) ⟨kUp_o haJ (by rw [kUp_eq, hdG_n]), gSeg_keep g4 (fun b hb e he => kUp_o ?_ (kUp_o (fun h => hns (h ▸ hb)) he))⟩ ?_ ?_ ?_ ?_ ?_
          · obtain ⟨p1, y1, hh⟩ := gSeg_adr g3.2 hb
            exact kNe hh g1 (by decide)
          · obtain ⟨p1, y1, hh⟩ := gSeg_adr g4 hb
            exact kNe hh g1 (by decide)
          · show (ad t ++ (a :: ad SP2)).Nodup
            exact (List.perm_middle (l₁ := ad t) (l₂ := ad SP2) (a := a)).symm.nodup_iff.mp g5
          · intro b hb
            refine g6 b ?_
            rcases List.mem_append.mp hb with h | h
            · exact List.mem_append_left _ (List.mem_cons_of_mem _ h)
            · rcases List.mem_cons.mp (show b ∈ a :: ad SP2 from h) with h | h
              · rw [h]; exact List.mem_append_left _ List.mem_cons_self
              · exact List.mem_append_right _ h
          · simp only [List.length_cons] at g7 ⊢; omega
          · exact g8.tr ((kOut.up (Or.inr (Or.inr (g6 a (List.mem_append_left _ List.mem_cons_self))))).tr (kOut.up (Or.inl rfl)))
          · exact g9.tr ((kFr.up g3.1 (Or.inr (Or.inl rfl))).tr (kFr.up (kUp_o (Ne.symm haJ) g1) (Or.inl rfl)))
      refine k_iload_n B dX1_emptyTanks_2 rfl ?_
      refine k_bipush B (v := 10) dX1_emptyTanks_3 (by decide) ?_
      refine k_icmp_ge B 62 dX1_emptyTanks_5 (by decide) (fun c5 => ?_) (fun c5 => ?_)
      · exact absurd (show nI 10 ≤ nI i from c5) (nI_ge hi10 (by omega))
      · refine k_aload_n B dX1_emptyTanks_8 rfl (by first | exact kRf_r _ | exact kRf_q _ | exact kRf_n) ?_
        refine gf_X1_11 B dX1_emptyTanks_9 h1 rfl ?_
        refine k_iload_n B dX1_emptyTanks_12 rfl ?_
        refine k_aald B (ti := 7) (C := RX7) rfl dX1_emptyTanks_13 h2 (vp_in_nI hi10 (by omega)) ?_
        refine kK.rev (y := .ref (tad i)) (by rw [nI_clamp (by omega), h2b i hi10]; rfl) ?_
        refine k_astore_n B dX1_emptyTanks_14 (by decide) (by first | exact kRf_r _ | exact kRf_q _ | exact kRf_n) ?_
        try refine kK.set1 (by first | exact True.intro | rfl | exact kCat_q _) ?_
        refine k_aload_n B dX1_emptyTanks_15 rfl (by first | exact kRf_r _ | exact kRf_q _ | exact kRf_n) ?_
        refine gf_X1_54 B dX1_emptyTanks_16 ht rfl ?_
        refine k_astore_n B dX1_emptyTanks_19 (by decide) (by first | exact kRf_r _ | exact kRf_q _ | exact kRf_n) ?_
        try refine kK.set1 (by first | exact True.intro | rfl | exact kCat_q _) ?_
        exact inner (TP1 i) SP1 s1 h1 ht (h4 i hi10) h5 (List.nodup_append.mpr ⟨h6 i hi10, h7, fun a ha b hb hab => h9 i hi10 a ha (hab ▸ hb)⟩) (fun a ha => ha) (by omega) kOut.rf kFr.rf
  refine k_iconst B (v := 0) dX1_emptyTanks_0 (by decide) ?_
  refine k_istore_n B dX1_emptyTanks_1 (by decide) ?_
  try refine kK.set1 (by first | exact True.intro | rfl | exact kCat_q _) ?_
  exact loop 10 0 TP SP F.1 F.2.1 σ (by omega) hI (fun j hj => by omega) (fun j _ _ => rfl) hSPl kFr.rf
set_option maxHeartbeats 4000000 in
set_option maxRecDepth 100000 in
theorem c_X1_moveAgain (hl : l.stackTraces = false) {F : kF} {mm f d u : Nat} {nxm : Option Nat} (hm : σ mm = some (mE (nI f, toI d, u) nxm)) (hF : tkF D aJ tk tad fJ zJ F σ) (hf : f < 10) (hd : d < 10 → d ≠ f) (hd2 : d < 2 ^ 30) (hb : ∀ q ∈ F.2.2.1 f, F.2.1 f ≤ q.1 ∧ q.1 + q.2 < 2 ^ 30) (hbe : F.2.1 f + u < 2 ^ 30) : kMh hX1_moveAgain l D yX1_moveAgain 4 (moC f (toO d) u F) (3 * moC f (toO d) u F) [.ref aJ, .ref mm] σ (fun v s2 => v = some (.int (nI (quV F f u))) ∧ tkF D aJ tk tad fJ zJ (moF f (toO d) u F) s2 ∧ kFr k147 σ s2) (fun _ => False) := by
  obtain ⟨TP, SP, hI, hTP, hSPl⟩ := hF
  have hI2 := hI
  obtain ⟨h1, ⟨ft, h2, h2b⟩, h3, h4, h5, h6, h7, h8, h9, h10⟩ := hI2
  have hbT : ∀ q ∈ TP f, F.2.1 f ≤ q.2.1 ∧ q.2.1 + q.2.2 < 2 ^ 30 := fun q hq => hb q.2 (by rw [← hTP f hf]; exact List.mem_map.mpr ⟨q, hq, rfl⟩)
  by_cases hd10 : d < 10
  · have hto : toO d = some d := by rw [toO, if_pos hd10]
    have hti : toI d = nI d := by rw [toI, if_pos hd10]
    have hdf := hd hd10
    rw [hti] at hm
    rw [hto]
    have hc := c_X1_moveAgainT (D := D) hl hm hf hd10 h2 (h2b f hf) (h2b d hd10) (fun h => hdf (h10 d f hd10 hf h.symm)) (h3 f hf) (h3 d hd10) h1 (h4 f hf) (h4 d hd10) h5 (List.nodup_append.mpr ⟨h6 f hf, List.nodup_append.mpr ⟨h6 d hd10, h7, fun a ha b hb hab => h9 d hd10 a ha (hab ▸ hb)⟩, fun a ha b hb hab => by
      rcases List.mem_append.mp hb with q | q
      · exact h8 f d hf hd10 (Ne.symm hdf) a ha (hab ▸ q)
      · exact h9 f hf a ha (hab ▸ q)⟩) hbT hbe
    rw [hTP f hf] at hc
    have hmc : mcT (F.2.2.1 f) (F.2.1 f + u) SP = moC f (some d) u F := by rw [mcT, moC, spN_len, hSPl]
    rw [hmc] at hc
    refine kMh.post hc (fun v s2 hp => ?_)
    obtain ⟨PF2, PT2, SP2, k1, k2, k3, k4, k5, k6, k7, k8, k9, g1, g2, g3, g4, g5⟩ := hp
    rw [hTP f hf] at k1 k2 k3 g2
    refine ⟨k3, ⟨upN (upN TP f PF2) d PT2, SP2, ?_, fun j hj => ?_, by rw [g2, hSPl]; rfl⟩, g5⟩
    · have := hI.two hf hd10 (Ne.symm hdf) g4 k6 k4 k5 k7 k8 k9 g1 g3
      exact this.congr (fun j _ => by
        show upN F.1 d _ j = _
        rw [upN_self]) (fun j _ => by
        show upN F.2.1 f _ j = _
        by_cases q : j = d
        · subst q; rw [upN_eq, upN_ne hdf]
        · rw [upN_ne q])
    · show _ = upN (upN F.2.2.1 f _) d _ j
      by_cases q : j = d
      · subst q; rw [upN_eq, upN_eq, k2, hTP j hj]
      · rw [upN_ne q, upN_ne q]
        by_cases q1 : j = f
        · subst q1; rw [upN_eq, upN_eq, k1]
        · rw [upN_ne q1, upN_ne q1]; exact hTP j hj
  · have hto : toO d = none := by rw [toO, if_neg hd10]
    rw [hto]
    have hti : toI d < 0 ∨ 10 ≤ toI d := by
      by_cases q : d = 10
      · subst q; exact Or.inl (by decide)
      · right
        rw [toI, if_neg hd10, if_neg q]
        exact (show nI 10 ≤ nI (d - 1) from (nI_leI (by omega) (by omega)).mpr (by omega))
    have hc := c_X1_moveAgainN (D := D) hl hm hf hti h2 (h2b f hf) (h3 f hf) h1 (h4 f hf) h5 (List.nodup_append.mpr ⟨h6 f hf, h7, fun a ha b hb hab => h9 f hf a ha (hab ▸ hb)⟩) hbT hbe
    rw [hTP f hf, hSPl] at hc
    refine kMh.post hc (fun v s2 hp => ?_)
    obtain ⟨PF2, SP2, k1, k3, k4, k6, k7, k9, g1, g2, g3, g4, g5⟩ := hp
    rw [hTP f hf] at k1 k3 g2
    refine ⟨k3, ⟨upN TP f PF2, SP2, ?_, fun j hj => ?_, by rw [g2, hSPl]; rfl⟩, g5⟩
    · have := hI.one hf g4 k6 k4 k7 k9 g1 g3
      exact this.congr (fun j _ => by
        show F.1 j = _
        rw [upN_self]) (fun j _ => rfl)
    · show _ = upN F.2.2.1 f _ j
      by_cases q1 : j = f
      · subst q1; rw [upN_eq, upN_eq, k1]
      · rw [upN_ne q1, upN_ne q1]; exact hTP j hj
end Folx
