theorem tkQ_lt_le {q : Nat × Nat} {t : List (Nat × Nat)} {e : Nat} (h1 : q.1 < e) (h2 : q.1 + q.2 ≤ e) : tkQ (q :: t) e = (q :: (tkQ t e).1, (tkQ t e).2) := by rw [tkQ, if_pos h1, if_pos h2]
theorem tkQ_lt_gt {q : Nat × Nat} {t : List (Nat × Nat)} {e : Nat} (h1 : q.1 < e) (h2 : ¬ q.1 + q.2 ≤ e) : tkQ (q :: t) e = ([(q.1, e - q.1)], (e, q.1 + q.2 - e) :: t) := by rw [tkQ, if_pos h1, if_neg h2]
theorem tkQ_ge {q : Nat × Nat} {t : List (Nat × Nat)} {e : Nat} (h1 : ¬ q.1 < e) : tkQ (q :: t) e = ([], q :: t) := by rw [tkQ, if_neg h1]
theorem cutQ_lt_le {q : Nat × Nat} {t : List (Nat × Nat)} {e : Nat} (h1 : q.1 < e) (h2 : q.1 + q.2 ≤ e) : cutQ (q :: t) e = cutQ t e := by rw [cutQ, if_pos h1, if_pos h2]
theorem cutQ_lt_gt {q : Nat × Nat} {t : List (Nat × Nat)} {e : Nat} (h1 : q.1 < e) (h2 : ¬ q.1 + q.2 ≤ e) : cutQ (q :: t) e = true := by rw [cutQ, if_pos h1, if_neg h2]
theorem cutQ_ge {q : Nat × Nat} {t : List (Nat × Nat)} {e : Nat} (h1 : ¬ q.1 < e) : cutQ (q :: t) e = false := by rw [cutQ, if_neg h1]
def shQ (ct wf : Nat) (q : Nat × Nat) : Nat × Nat := (q.1 + ct - wf, q.2)
/-- what holds as pieces are moved from tank tf to tank tt -/
def mvI (aJ tk m tf tt : Nat) (mv : kMv) (nxm fJ zJ : Option Nat) (cf wf ct wt : Nat) (f0 z0 : Option Nat) (PF PT : kTs) (SP : kQs) (s2 : kS) : Prop :=
  s2 m = some (mE mv nxm) ∧ s2 tf = some (tE cf wf f0 z0) ∧ s2 tt = some (tE ct wt (hdA PT) (lsA PT)) ∧ s2 aJ = some (jE tk fJ zJ (hdA SP)) ∧ gSeg tpE s2 PF none ∧ gSeg tpE s2 PT none ∧ gSeg pcE s2 SP none ∧ (ad PF ++ (ad PT ++ ad SP)).Nodup ∧ (PF ≠ [] → lsA PF = z0)
def maP (σ : kS) (aJ tk tf tt : Nat) (fJ zJ : Option Nat) (cf wf ct wt u : Nat) (PF PT : kTs) (SP : kQs) (v : Option Value) (s2 : kS) : Prop :=
  ∃ (PF2 PT2 : kTs) (SP2 : kQs), tCon PF2 = (tkQ (tCon PF) (wf + u)).2 ∧ tCon PT2 = tCon PT ++ (tkQ (tCon PF) (wf + u)).1.map (shQ ct wf) ∧ v = some (.int (nI (quS (tkQ (tCon PF) (wf + u)).1))) ∧ s2 tf = some (tE cf (wf + u) (hdA PF2) (lsA PF2)) ∧ s2 tt = some (tE (ct + u) wt (hdA PT2) (lsA PT2)) ∧ s2 aJ = some (jE tk fJ zJ (hdA SP2)) ∧ gSeg tpE s2 PF2 none ∧ gSeg tpE s2 PT2 none ∧ gSeg pcE s2 SP2 none ∧ (ad PF2 ++ (ad PT2 ++ ad SP2)).Nodup ∧ SP2.length = SP.length - (if cutQ (tCon PF) (wf + u) = true then 1 else 0) ∧ (∀ a ∈ ad PF2 ++ (ad PT2 ++ ad SP2), a ∈ ad PF ++ (ad PT ++ ad SP) ∨ σ a = none) ∧ kOut (fun a => a = aJ ∨ a = tf ∨ a = tt ∨ a ∈ ad PF ++ (ad PT ++ ad SP)) σ s2 ∧ kFr k147 σ s2
def mcT (PF : List (Nat × Nat)) (e : Nat) (SP : kQs) : Nat := if cutQ PF e = true then spN SP else 0
section MovT
variable {l : Launch} {D : va_G} {σ : kS} {aJ tk tf tt mm : Nat}
theorem nI_3add (a b cc : Nat) : nI a + (nI b + nI cc) = nI (a + b + cc) := by rw [nI_add, nI_add]; congr 1; omega
set_option maxHeartbeats 4000000 in
set_option maxRecDepth 100000 in
theorem c_X1_moveAgainT (hl : l.stackTraces = false) {fi ti u : Nat} {nxm fJ zJ : Option Nat} {cf wf ct wt : Nat} {PF PT : kTs} {SP : kQs} {ft : Nat → Option Nat} (hm : σ mm = some (mE (nI fi, nI ti, u) nxm)) (hfi : fi < 10) (hti : ti < 10) (hT : σ tk = some (.inl (D.1 18, 10, .inr (.inr (.inr (.inr ft)))))) (hff : ft fi = some tf) (hft : ft ti = some tt) (hne : tf ≠ tt) (hf : σ tf = some (tE cf wf (hdA PF) (lsA PF))) (ht : σ tt = some (tE ct wt (hdA PT) (lsA PT))) (hJ : σ aJ = some (jE tk fJ zJ (hdA SP))) (hF : gSeg tpE σ PF none) (hTT : gSeg tpE σ PT none) (hSP : gSeg pcE σ SP none) (hnd : (ad PF ++ (ad PT ++ ad SP)).Nodup) (hb : ∀ q ∈ PF, wf ≤ q.2.1 ∧ q.2.1 + q.2.2 < 2 ^ 30) (hbe : wf + u < 2 ^ 30) : kMh hX1_moveAgain l D yX1_moveAgain 4 (mcT (tCon PF) (wf + u) SP) (3 * mcT (tCon PF) (wf + u) SP) [.ref aJ, .ref mm] σ (maP σ aJ tk tf tt fJ zJ cf wf ct wt u PF PT SP) (fun _ => False) := by
  refine kM_of (L := [some (.ref aJ), some (.ref mm), none, none, none, none, none, none]) (by decide +kernel) hl (List.forall_mem_cons.mpr ⟨rfl, (List.forall_mem_cons.mpr ⟨rfl, (fun _ h => absurd h List.not_mem_nil)⟩)⟩) (Nat.le_of_ble_eq_true rfl) rfl ?_
  intro p e s m args below meth c B hr hex hnm
  have B : kB p l s m args meth c D (kA σ s.heap.size) 8 cX1_moveAgain RX1 := B
  generalize hmc : mcT (tCon PF) (wf + u) SP = MC
  -- the end
  have fin : ∀ (PR PT1 : kTs) (SP1 : kQs) (fo : Nat) (s1 : kS) (k n : Nat) (o7 : Option Value), k ≤ MC → n ≤ 3 * MC → s1 mm = some (mE (nI fi, nI ti, u) nxm) → s1 tf = some (tE cf wf (hdA PF) (lsA PF)) → s1 tt = some (tE ct wt (hdA PT1) (lsA PT1)) → s1 aJ = some (jE tk fJ zJ (hdA SP1)) → gSeg tpE s1 PR none → gSeg tpE s1 PT1 none → gSeg pcE s1 SP1 none → (ad PR ++ (ad PT1 ++ ad SP1)).Nodup → (2 ≤ PR.length → lsA PR = lsA PF) → tCon PR = (tkQ (tCon PF) (wf + u)).2 → tCon PT1 = tCon PT ++ (tkQ (tCon PF) (wf + u)).1.map (shQ ct wf) → fo = quS (tkQ (tCon PF) (wf + u)).1 → SP1.length = SP.length - (if cutQ (tCon PF) (wf + u) = true then 1 else 0) → (∀ a ∈ ad PR ++ (ad PT1 ++ ad SP1), a ∈ ad PF ++ (ad PT ++ ad SP) ∨ σ a = none) → kOut (fun a => a = aJ ∨ a = tf ∨ a = tt ∨ a ∈ ad PF ++ (ad PT ++ ad SP)) σ s1 → kFr k147 σ s1 →
      kK p l e (kR 4 MC (3 * MC)) s m args below meth c D (kA σ s.heap.size) 8 (kQ below args s D σ (maP σ aJ tk tf tt fJ zJ cf wf ct wt u PF PT SP) (fun _ => False) MC (3 * MC)) s1 k n 124 [some (.ref aJ), some (.ref mm), some (.ref tf), some (.ref tt), some (.int (nI (wf + u))), some (.int (nI fo)), some (va_rf (hdA PR)), o7] [] := by
    intro PR PT1 SP1 fo s1 k n o7 hk hn h1 h2 h3 h4 h5 h6 h7 h8 h9 g1 g2 g3 g4 g5 g6 g7
    have hmtf : mm ≠ tf := kNe h1 h2 (by decide)
    have hmtt : mm ≠ tt := kNe h1 h3 (by decide)
    have hjtf : aJ ≠ tf := kNe h4 h2 (by decide)
    have hjtt : aJ ≠ tt := kNe h4 h3 (by decide)
    refine k_aload_n B dX1_moveAgain_124 rfl (by first | exact kRf_r _ | exact kRf_q _ | exact kRf_n) ?_
    refine k_aload B dX1_moveAgain_125 rfl (by first | exact kRf_r _ | exact kRf_q _ | exact kRf_n) ?_
    refine cl_X1_65 B (c_X7_startAt hl h2 h5) h2 dX1_moveAgain_127 (by first | exact Nat.le_of_ble_eq_true rfl | omega | (simp only [kR, Value.category, kCat_q, List.map, List.sum_cons, List.sum_nil]; omega)) (by first | exact Nat.le_of_ble_eq_true rfl | omega | (simp only [kR, Value.category, kCat_q, List.map, List.sum_cons, List.sum_nil]; omega)) (by first | exact Nat.le_of_ble_eq_true rfl | omega | (simp only [kR, Value.category, kCat_q, List.map, List.sum_cons, List.sum_nil]; omega)) (by first | exact Nat.le_of_ble_eq_true rfl | omega | (simp only [kR, Value.category, kCat_q, List.map, List.sum_cons, List.sum_nil]; omega)) (by first | exact Nat.le_of_ble_eq_true rfl | omega | (simp only [kR, Value.category, kCat_q, List.map, List.sum_cons, List.sum_nil]; omega)) (fun _ hx => hx.elim) (fun v127 s127 hp127 => ?_)
    obtain ⟨rfl, rfl⟩ := hp127
    rw [ls1_eq h9]
    refine k_aload_n B dX1_moveAgain_130 rfl (by first | exact kRf_r _ | exact kRf_q _ | exact kRf_n) ?_
    refine k_iload B dX1_moveAgain_131 rfl ?_
    refine pf_X1_71 B dX1_moveAgain_133 kUp_eq rfl ?_
    refine kK.eq (σ2 := kUp s1 tf (tE cf (wf + u) (hdA PR) (lsA PR))) (by rw [kUp_uu]; rfl) ?_
    refine k_aload_n B dX1_moveAgain_136 rfl (by first | exact kRf_r _ | exact kRf_q _ | exact kRf_n) ?_
    refine k_ifnullR B 153 dX1_moveAgain_137 (by decide) ?_
    refine k_aload_n B dX1_moveAgain_140 rfl (by first | exact kRf_r _ | exact kRf_q _ | exact kRf_n) ?_
    refine k_dup B dX1_moveAgain_141 rfl ?_
    refine gf_X1_68 B dX1_moveAgain_142 (kUp_o (Ne.symm hne) h3) rfl ?_
    refine k_aload_n B dX1_moveAgain_145 rfl (by first | exact kRf_r _ | exact kRf_q _ | exact kRf_n) ?_
    refine gf_X1_40 B dX1_moveAgain_146 (kUp_o hmtf h1) rfl ?_
    refine k_iadd B dX1_moveAgain_149 ?_
    refine kK.rei (y := nI (ct + u)) (nI_add _ _) ?_
    refine pf_X1_68 B dX1_moveAgain_150 (kUp_o (Ne.symm hne) h3) rfl ?_
    refine kK.eq (σ2 := kUp (kUp s1 tf (tE cf (wf + u) (hdA PR) (lsA PR))) tt (tE (ct + u) wt (hdA PT1) (lsA PT1))) rfl ?_
    refine k_iload B dX1_moveAgain_153 rfl ?_
    refine k_iret B hr dX1_moveAgain_155 ?_ (by first | exact Nat.le_of_ble_eq_true rfl | omega | (simp only [kR, Value.category, kCat_q, List.map, List.sum_cons, List.sum_nil]; omega)) (by first | exact Nat.le_of_ble_eq_true rfl | omega | (simp only [kR, Value.category, kCat_q, List.map, List.sum_cons, List.sum_nil]; omega))
    have hkeep : ∀ {x : Nat} {y : va_E}, x ≠ tf → x ≠ tt → s1 x = some y → kUp (kUp s1 tf (tE cf (wf + u) (hdA PR) (lsA PR))) tt (tE (ct + u) wt (hdA PT1) (lsA PT1)) x = some y := fun hx1 hx2 hy => kUp_o hx2 (kUp_o hx1 hy)
    have hgk : ∀ (P : kTs), gSeg tpE s1 P none → gSeg tpE (kUp (kUp s1 tf (tE cf (wf + u) (hdA PR) (lsA PR))) tt (tE (ct + u) wt (hdA PT1) (lsA PT1))) P none := fun P hP => gSeg_keep hP (fun x hx y hy => by
      obtain ⟨p1, y1, hh⟩ := gSeg_adr hP hx
      exact hkeep (kNe hh h2 (by decide)) (kNe hh h3 (by decide)) hy)
    refine ⟨PR, PT1, SP1, g1, g2, by rw [g3], kUp_o hne kUp_eq, kUp_eq, hkeep hjtf hjtt h4, hgk PR h5, hgk PT1 h6, gSeg_keep h7 (fun x hx y hy => by
      obtain ⟨p1, y1, hh⟩ := gSeg_adr h7 hx
      exact hkeep (kNe hh h2 (by decide)) (kNe hh h3 (by decide)) hy), h8, g4, g5, ?_, ?_⟩
    · exact g6.tr ((kOut.up (Or.inr (Or.inl rfl))).tr (kOut.up (Or.inr (Or.inr (Or.inl rfl)))))
    · exact g7.tr ((kFr.up h2 (Or.inr (Or.inr rfl))).tr (kFr.up (kUp_o (Ne.symm hne) h3) (Or.inr (Or.inr rfl))))
  -- the loop
  have loop : ∀ (P1 PT1 : kTs) (AC : List (Nat × Nat)) (s1 : kS), mvI aJ tk mm tf tt (nI fi, nI ti, u) nxm fJ zJ cf wf ct wt (hdA PF) (lsA PF) P1 PT1 SP s1 → (∀ q ∈ P1, wf ≤ q.2.1 ∧ q.2.1 + q.2.2 < 2 ^ 30) → tkQ (tCon PF) (wf + u) = (AC ++ (tkQ (tCon P1) (wf + u)).1, (tkQ (tCon P1) (wf + u)).2) → cutQ (tCon PF) (wf + u) = cutQ (tCon P1) (wf + u) → tCon PT1 = tCon PT ++ AC.map (shQ ct wf) → (∀ a ∈ ad P1 ++ (ad PT1 ++ ad SP), a ∈ ad PF ++ (ad PT ++ ad SP)) → (∀ x, s1 x = none → σ x = none) → kOut (fun a => a = aJ ∨ a = tf ∨ a = tt ∨ a ∈ ad PF ++ (ad PT ++ ad SP)) σ s1 → kFr k147 σ s1 →
      kK p l e (kR 4 MC (3 * MC)) s m args below meth c D (kA σ s.heap.size) 8 (kQ below args s D σ (maP σ aJ tk tf tt fJ zJ cf wf ct wt u PF PT SP) (fun _ => False) MC (3 * MC)) s1 0 0 44 [some (.ref aJ), some (.ref mm), some (.ref tf), some (.ref tt), some (.int (nI (wf + u))), some (.int (nI (quS AC))), some (va_rf (hdA P1)), none] [] := by
    intro P1
    induction P1 with
    | nil =>
      intro PT1 AC s1 hI hbq htk hct hPT hin hdm hO hFr
      obtain ⟨h1, h2, h3, h4, h5, h6, h7, h8, h9⟩ := hI
      have e1 : (tkQ (tCon PF) (wf + u)).1 = AC := by rw [htk]; simp [tCon, tkQ]
      have e2 : (tkQ (tCon PF) (wf + u)).2 = [] := by rw [htk]; simp [tCon, tkQ]
      refine k_aload B dX1_moveAgain_44 rfl (by first | exact kRf_r _ | exact kRf_q _ | exact kRf_n) ?_
      refine k_ifnullN B 124 dX1_moveAgain_46 (by decide) ?_
      exact fin [] PT1 SP (quS AC) s1 0 0 none (by omega) (by omega) h1 h2 h3 h4 trivial h6 h7 h8 (by simp) (by rw [e2]; rfl) (by rw [e1]; exact hPT) (by rw [e1]) (by rw [hct]; simp [tCon, cutQ]) (fun a ha => Or.inl (hin a ha)) hO hFr
    | cons r t ih =>
      obtain ⟨a, q⟩ := r
      intro PT1 AC s1 hI hbq htk hct hPT hin hdm hO hFr
      obtain ⟨h1, h2, h3, h4, h5, h6, h7, h8, h9⟩ := hI
      have ha := h5.1
      have hq : wf ≤ q.1 ∧ q.1 + q.2 < 2 ^ 30 := hbq _ List.mem_cons_self
      obtain ⟨hq1, hq2⟩ := hq
      have hatf : a ≠ tf := kNe ha h2 (by decide)
      have hatt : a ≠ tt := kNe ha h3 (by decide)
      have haJ : a ≠ aJ := kNe ha h4 (by decide)
      have ham : a ≠ mm := kNe ha h1 (by decide)
      have hjtf : aJ ≠ tf := kNe h4 h2 (by decide)
      have hjtt : aJ ≠ tt := kNe h4 h3 (by decide)
      have hmtt : mm ≠ tt := kNe h1 h3 (by decide)
      have h8b : a ∉ ad t ∧ a ∉ ad PT1 ∧ a ∉ ad SP := by
        have := (List.nodup_cons.mp (show (a :: (ad t ++ (ad PT1 ++ ad SP))).Nodup from h8)).1
        exact ⟨fun h => this (List.mem_append_left _ h), fun h => this (List.mem_append_right _ (List.mem_append_left _ h)), fun h => this (List.mem_append_right _ (List.mem_append_right _ h))⟩
      have h8c : (ad t ++ (ad PT1 ++ ad SP)).Nodup := (List.nodup_cons.mp (show (a :: (ad t ++ (ad PT1 ++ ad SP))).Nodup from h8)).2
      have hPTn : (ad PT1).Nodup := (List.nodup_append.mp (List.nodup_append.mp h8c).2.1).1
      have hSPn : (ad SP).Nodup := (List.nodup_append.mp (List.nodup_append.mp h8c).2.1).2.1
      refine k_aload B dX1_moveAgain_44 rfl (by first | exact kRf_r _ | exact kRf_q _ | exact kRf_n) ?_
      refine k_ifnullR B 124 dX1_moveAgain_46 (by decide) ?_
      refine k_aload B dX1_moveAgain_49 rfl (by first | exact kRf_r _ | exact kRf_q _ | exact kRf_n) ?_
      refine gf_X1_85 B dX1_moveAgain_51 ha rfl ?_
      refine k_iload B dX1_moveAgain_54 rfl ?_
      refine k_icmp_ge B 124 dX1_moveAgain_56 (by decide) (fun c56 => ?_) (fun c56 => ?_)
      · have n1 : ¬ q.1 < wf + u := by
          have := (nI_leI (show wf + u < 2 ^ 31 by omega) (show q.1 < 2 ^ 31 by omega)).mp c56
          omega
        have e0 : tkQ (tCon ((a, q) :: t)) (wf + u) = ([], tCon ((a, q) :: t)) := tkQ_ge n1
        have e1 : (tkQ (tCon PF) (wf + u)).1 = AC := by rw [htk, e0]; simp
        have e2 : (tkQ (tCon PF) (wf + u)).2 = tCon ((a, q) :: t) := by rw [htk, e0]
        exact fin ((a, q) :: t) PT1 SP (quS AC) s1 0 0 none (by omega) (by omega) h1 h2 h3 h4 h5 h6 h7 h8 (fun _ => h9 (by simp)) e2.symm (by rw [e1]; exact hPT) (by rw [e1]) (by rw [hct, show cutQ (tCon ((a, q) :: t)) (wf + u) = false from cutQ_ge n1]; simp) (fun x hx => Or.inl (hin x hx)) hO hFr
      · have n1 : q.1 < wf + u := by
          rcases Nat.lt_or_ge q.1 (wf + u) with h | h
          · exact h
          · exact absurd ((nI_leI (show wf + u < 2 ^ 31 by omega) (show q.1 < 2 ^ 31 by omega)).mpr h) c56
        by_cases n2 : q.1 + q.2 ≤ wf + u
        · -- the whole piece
          have e0 : tkQ (tCon ((a, q) :: t)) (wf + u) = (q :: (tkQ (tCon t) (wf + u)).1, (tkQ (tCon t) (wf + u)).2) := tkQ_lt_le n1 n2
          refine k_aload_n B dX1_moveAgain_59 rfl (by first | exact kRf_r _ | exact kRf_q _ | exact kRf_n) ?_
          refine k_aload B dX1_moveAgain_60 rfl (by first | exact kRf_r _ | exact kRf_q _ | exact kRf_n) ?_
          refine k_iload B dX1_moveAgain_62 rfl ?_
          refine cl_X1_88 B (c_X1_cut0 hl ha n2 hbe) h4 dX1_moveAgain_64 (by first | exact Nat.le_of_ble_eq_true rfl | omega | (simp only [kR, Value.category, kCat_q, List.map, List.sum_cons, List.sum_nil]; omega)) (by first | exact Nat.le_of_ble_eq_true rfl | omega | (simp only [kR, Value.category, kCat_q, List.map, List.sum_cons, List.sum_nil]; omega)) (by first | exact Nat.le_of_ble_eq_true rfl | omega | (simp only [kR, Value.category, kCat_q, List.map, List.sum_cons, List.sum_nil]; omega)) (by first | exact Nat.le_of_ble_eq_true rfl | omega | (simp only [kR, Value.category, kCat_q, List.map, List.sum_cons, List.sum_nil]; omega)) (by first | exact Nat.le_of_ble_eq_true rfl | omega | (simp only [kR, Value.category, kCat_q, List.map, List.sum_cons, List.sum_nil]; omega)) (fun _ hx => hx.elim) (fun v64 s64 hp64 => ?_)
          obtain ⟨rfl, e64⟩ := hp64
          rw [e64]
          refine k_astore B dX1_moveAgain_67 (by decide) (by first | exact kRf_r _ | exact kRf_q _ | exact kRf_n) ?_
          try refine kK.set1 (by first | exact True.intro | rfl | exact kCat_q _) ?_
          refine k_iload B dX1_moveAgain_69 rfl ?_
          refine k_aload B dX1_moveAgain_71 rfl (by first | exact kRf_r _ | exact kRf_q _ | exact kRf_n) ?_
          refine gf_X1_92 B dX1_moveAgain_73 ha rfl ?_
          refine k_iadd B dX1_moveAgain_76 ?_
          refine kK.rei (y := nI (quS (AC ++ [q]))) (by rw [nI_add, quS_app]; rfl) ?_
          refine k_istore B dX1_moveAgain_77 (by decide) ?_
          try refine kK.set1 (by first | exact True.intro | rfl | exact kCat_q _) ?_
          refine k_aload_n B dX1_moveAgain_79 rfl (by first | exact kRf_r _ | exact kRf_q _ | exact kRf_n) ?_
          refine k_ifnonnullR B 92 dX1_moveAgain_80 (by decide) ?_
          refine k_aload B dX1_moveAgain_92 rfl (by first | exact kRf_r _ | exact kRf_q _ | exact kRf_n) ?_
          refine k_dup B dX1_moveAgain_94 rfl ?_
          refine gf_X1_85 B dX1_moveAgain_95 ha rfl ?_
          refine k_aload_n B dX1_moveAgain_98 rfl (by first | exact kRf_r _ | exact kRf_q _ | exact kRf_n) ?_
          refine gf_X1_68 B dX1_moveAgain_99 h3 rfl ?_
          refine k_aload_n B dX1_moveAgain_102 rfl (by first | exact kRf_r _ | exact kRf_q _ | exact kRf_n) ?_
          refine gf_X1_71 B dX1_moveAgain_103 h2 rfl ?_
          refine k_isub B dX1_moveAgain_106 ?_
          refine k_iadd B dX1_moveAgain_107 ?_
          refine kK.rei (y := nI (q.1 + ct - wf)) (pc_shift (by omega)) ?_
          refine pf_X1_85 B dX1_moveAgain_108 ha rfl ?_
          refine kK.eq (σ2 := kUp s1 a (tpE (shQ ct wf q) (hdG t none))) rfl ?_
          have h3b := kUp_o (e := tpE (shQ ct wf q) (hdG t none)) (Ne.symm hatt) h3
          have h6b : gSeg tpE (kUp s1 a (tpE (shQ ct wf q) (hdG t none))) PT1 none := gSeg_up h6 h8b.2.1
          refine k_aload_n B dX1_moveAgain_111 rfl (by first | exact kRf_r _ | exact kRf_q _ | exact kRf_n) ?_
          refine k_aload B dX1_moveAgain_112 rfl (by first | exact kRf_r _ | exact kRf_q _ | exact kRf_n) ?_
          refine cl_X1_78 B (c_X7_add hl (x := shQ ct wf q) h3b h6b hPTn kUp_eq h8b.2.1) h3b dX1_moveAgain_114 (by first | exact Nat.le_of_ble_eq_true rfl | omega | (simp only [kR, Value.category, kCat_q, List.map, List.sum_cons, List.sum_nil]; omega)) (by first | exact Nat.le_of_ble_eq_true rfl | omega | (simp only [kR, Value.category, kCat_q, List.map, List.sum_cons, List.sum_nil]; omega)) (by first | exact Nat.le_of_ble_eq_true rfl | omega | (simp only [kR, Value.category, kCat_q, List.map, List.sum_cons, List.sum_nil]; omega)) (by first | exact Nat.le_of_ble_eq_true rfl | omega | (simp only [kR, Value.category, kCat_q, List.map, List.sum_cons, List.sum_nil]; omega)) (by first | exact Nat.le_of_ble_eq_true rfl | omega | (simp only [kR, Value.category, kCat_q, List.map, List.sum_cons, List.sum_nil]; omega)) (fun _ hx => hx.elim) (fun v114 s114 hp114 => ?_)
          obtain ⟨rfl, k1, k2, k3, k4⟩ := hp114
          refine k_aload B dX1_moveAgain_117 rfl (by first | exact kRf_r _ | exact kRf_q _ | exact kRf_n) ?_
          refine k_astore B dX1_moveAgain_119 (by decide) (by first | exact kRf_r _ | exact kRf_q _ | exact kRf_n) ?_
          try refine kK.set1 (by first | exact True.intro | rfl | exact kCat_q _) ?_
          refine k_goto B 44 dX1_moveAgain_121 (by decide) ?_
          have hX : ∀ x, (x = tt ∨ x = a ∨ x ∈ ad PT1) → x ≠ tf ∧ x ≠ mm ∧ x ≠ aJ ∧ x ∉ ad t ∧ x ∉ ad SP := by
            intro x hx
            rcases hx with h | h | h
            · subst h
              refine ⟨Ne.symm hne, Ne.symm hmtt, Ne.symm hjtt, fun h => ?_, fun h => ?_⟩
              · obtain ⟨p1, y1, hh⟩ := gSeg_adr h5.2 h
                rw [h3] at hh; cases hh
              · obtain ⟨p1, y1, hh⟩ := gSeg_adr h7 h
                rw [h3] at hh; cases hh
            · subst h
              exact ⟨hatf, ham, haJ, h8b.1, h8b.2.2⟩
            · obtain ⟨p1, y1, hh⟩ := gSeg_adr h6 h
              refine ⟨kNe hh h2 (by decide), kNe hh h1 (by decide), kNe hh h4 (by decide), fun h9 => ?_, fun h9 => ?_⟩
              · exact (List.nodup_append.mp h8c).2.2 x h9 x (List.mem_append_left _ h) rfl
              · exact (List.nodup_append.mp (List.nodup_append.mp h8c).2.1).2.2 x h x h9 rfl
          have keep : ∀ {x : Nat} {y : va_E}, ¬ (x = tt ∨ x = a ∨ x ∈ ad PT1) → s1 x = some y → s114 x = some y := fun hx hy => k3 _ _ (kUp_o (fun h => hx (Or.inr (Or.inl h))) hy) hx
          refine kK.sub (L2 := [some (.ref aJ), some (.ref mm), some (.ref tf), some (.ref tt), some (.int (nI (wf + u))), some (.int (nI (quS (AC ++ [q])))), some (va_rf (hdA t)), none]) ⟨Or.inr rfl, Or.inr rfl, Or.inr rfl, Or.inr rfl, Or.inr rfl, Or.inr rfl, Or.inr (by rw [← hdG_n]), Or.inl rfl, trivial⟩ ?_
          refine ih (PT1 ++ [(a, shQ ct wf q)]) (AC ++ [q]) s114 ⟨keep (fun h => (hX _ h).2.1 rfl) h1, keep (fun h => (hX _ h).1 rfl) h2, k1, keep (fun h => (hX _ h).2.2.1 rfl) h4, gSeg_keep h5.2 (fun x hx y hy => keep (fun h => (hX _ h).2.2.2.1 hx) hy), k2, gSeg_keep h7 (fun x hx y hy => keep (fun h => (hX _ h).2.2.2.2 hx) hy), ?_, ?_⟩ (fun r hr => hbq r (List.mem_cons_of_mem _ hr)) ?_ ?_ ?_ ?_ ?_ ?_ ?_
          · rw [ad_app]
            show (ad t ++ ((ad PT1 ++ [a]) ++ ad SP)).Nodup
            have hp : (a :: (ad t ++ (ad PT1 ++ ad SP))).Perm (ad t ++ ((ad PT1 ++ [a]) ++ ad SP)) := by
              have p1 : (a :: (ad t ++ (ad PT1 ++ ad SP))).Perm (ad t ++ (a :: (ad PT1 ++ ad SP))) := List.perm_middle.symm
              refine p1.trans (List.Perm.append_left _ ?_)
              rw [List.append_assoc]
              exact List.perm_middle.symm
            exact hp.nodup_iff.mp h8
          · intro ht0
            rw [← h9 (by simp)]
            cases t with
            | nil => exact absurd rfl ht0
            | cons x1 x2 => rfl
          · rw [htk, e0]; simp
          · rw [hct]; exact cutQ_lt_le n1 n2
          · show tCon (PT1 ++ [(a, shQ ct wf q)]) = _
            rw [tCon, List.map_append, List.map_append, ← List.append_assoc, ← hPT]; rfl
          · intro x hx
            refine hin x ?_
            rw [ad_app] at hx
            rcases List.mem_append.mp hx with h | h
            · exact List.mem_append_left _ (List.mem_cons_of_mem _ h)
            · rcases List.mem_append.mp h with h | h
              · rcases List.mem_append.mp h with h | h
                · exact List.mem_append_right _ (List.mem_append_left _ h)
                · have : x = a := by simpa [ad] using h
                  subst this
                  exact List.mem_append_left _ List.mem_cons_self
              · exact List.mem_append_right _ (List.mem_append_right _ h)
          · intro x hx
            refine hdm x ?_
            cases hs1 : s1 x with
            | none => rfl
            | some y =>
              by_cases hXX : x = tt ∨ x = a ∨ x ∈ ad PT1
              · rcases hXX with h | h | h
                · rw [h, k1] at hx; cases hx
                · obtain ⟨p1, y1, hh⟩ := gSeg_adr k2 (show a ∈ ad (PT1 ++ [(a, shQ ct wf q)]) by rw [ad_app]; simp [ad])
                  rw [h, hh] at hx; cases hx
                · obtain ⟨p1, y1, hh⟩ := gSeg_adr k2 (show x ∈ ad (PT1 ++ [(a, shQ ct wf q)]) by rw [ad_app]; exact List.mem_append_left _ h)
                  rw [hh] at hx; cases hx
              · rw [keep hXX hs1] at hx; cases hx
          · intro x y hx hX2
            have hx1 := hO x y hx hX2
            refine keep (fun h => ?_) hx1
            rcases h with h | h | h
            · exact hX2 (Or.inr (Or.inr (Or.inl h)))
            · exact hX2 (Or.inr (Or.inr (Or.inr (hin x (by rw [h]; exact List.mem_append_left _ List.mem_cons_self)))))
            · exact hX2 (Or.inr (Or.inr (Or.inr (hin x (List.mem_append_right _ (List.mem_append_left _ h))))))
          · exact hFr.tr ((kFr.up ha (Or.inr (Or.inl rfl))).tr (k4.mono (fun k hk => hk.elim (fun h => Or.inr (Or.inl h)) (fun h => Or.inr (Or.inr h)))))
        · -- the piece is cut
          have e0 : tkQ (tCon ((a, q) :: t)) (wf + u) = ([(q.1, wf + u - q.1)], (wf + u, q.1 + q.2 - (wf + u)) :: tCon t) := tkQ_lt_gt n1 n2
          have ecut : cutQ (tCon PF) (wf + u) = true := by rw [hct]; exact cutQ_lt_gt n1 n2
          have hMC : MC = spN SP := by rw [← hmc, mcT, if_pos ecut]
          rw [hMC] at fin ⊢
          refine k_aload_n B dX1_moveAgain_59 rfl (by first | exact kRf_r _ | exact kRf_q _ | exact kRf_n) ?_
          refine k_aload B dX1_moveAgain_60 rfl (by first | exact kRf_r _ | exact kRf_q _ | exact kRf_n) ?_
          refine k_iload B dX1_moveAgain_62 rfl ?_
          refine cl_X1_88 B (c_X1_cut1 hl h4 h7 hSPn ha h8b.2.2 (by omega) (by omega) hq2) h4 dX1_moveAgain_64 (by first | exact Nat.le_of_ble_eq_true rfl | omega | (simp only [kR, Value.category, kCat_q, List.map, List.sum_cons, List.sum_nil]; omega)) (by first | exact Nat.le_of_ble_eq_true rfl | omega | (simp only [kR, Value.category, kCat_q, List.map, List.sum_cons, List.sum_nil]; omega)) (by first | exact Nat.le_of_ble_eq_true rfl | omega | (simp only [kR, Value.category, kCat_q, List.map, List.sum_cons, List.sum_nil]; omega)) (by first | exact Nat.le_of_ble_eq_true rfl | omega | (simp only [kR, Value.category, kCat_q, List.map, List.sum_cons, List.sum_nil]; omega)) (by first | exact Nat.le_of_ble_eq_true rfl | omega | (simp only [kR, Value.category, kCat_q, List.map, List.sum_cons, List.sum_nil]; omega)) (fun _ hx => hx.elim) (fun v64 s64 hp64 => ?_)
          obtain ⟨b, SP2, rfl, k1, k2, k3, k4, k5, k6, k7, k8⟩ := hp64
          have hbs : b ∈ ad SP ∨ (s1 b = none) := by
            rcases k7 with ⟨z1, z2, z3⟩ | ⟨z1, z2⟩
            · exact Or.inr z3
            · exact Or.inl (by rw [z2]; simp [ad])
          have hX : ∀ x, (x = aJ ∨ x = a ∨ x ∈ ad SP) → x ≠ tf ∧ x ≠ mm ∧ x ≠ tt ∧ x ∉ ad t ∧ x ∉ ad PT1 := by
            intro x hx
            rcases hx with h | h | h
            · subst h
              refine ⟨hjtf, kNe h4 h1 (by decide), hjtt, fun h => ?_, fun h => ?_⟩
              · obtain ⟨p1, y1, hh⟩ := gSeg_adr h5.2 h
                rw [h4] at hh; cases hh
              · obtain ⟨p1, y1, hh⟩ := gSeg_adr h6 h
                rw [h4] at hh; cases hh
            · subst h
              exact ⟨hatf, ham, hatt, h8b.1, h8b.2.1⟩
            · obtain ⟨p1, y1, hh⟩ := gSeg_adr h7 h
              refine ⟨kNe hh h2 (by decide), kNe hh h1 (by decide), kNe hh h3 (by decide), fun h9 => ?_, fun h9 => ?_⟩
              · exact (List.nodup_append.mp h8c).2.2 x h9 x (List.mem_append_right _ h) rfl
              · exact (List.nodup_append.mp (List.nodup_append.mp h8c).2.1).2.2 x h9 x h rfl
          have keep : ∀ {x : Nat} {y : va_E}, ¬ (x = aJ ∨ x = a ∨ x ∈ ad SP) → s1 x = some y → s64 x = some y := fun hx hy => k6 _ _ hy hx
          have h3c := keep (fun h => (hX _ h).2.2.1 rfl) h3
          have h2c := keep (fun h => (hX _ h).1 rfl) h2
          have h1c := keep (fun h => (hX _ h).2.1 rfl) h1
          have h5c : gSeg tpE s64 t none := gSeg_keep h5.2 (fun x hx y hy => keep (fun h => (hX _ h).2.2.2.1 hx) hy)
          have h6c : gSeg tpE s64 PT1 none := gSeg_keep h6 (fun x hx y hy => keep (fun h => (hX _ h).2.2.2.2 hx) hy)
          have hbt : b ∉ ad t ∧ b ∉ ad PT1 ∧ b ∉ ad SP2 := by
            rcases k7 with ⟨z1, z2, z3⟩ | ⟨z1, z2⟩
            · refine ⟨fun h => ?_, fun h => ?_, by rw [z2]; simp [ad]⟩
              · obtain ⟨p1, y1, hh⟩ := gSeg_adr h5.2 h
                rw [z3] at hh; cases hh
              · obtain ⟨p1, y1, hh⟩ := gSeg_adr h6 h
                rw [z3] at hh; cases hh
            · have hbS : b ∈ ad SP := by rw [z2]; simp [ad]
              refine ⟨(hX b (Or.inr (Or.inr hbS))).2.2.2.1, (hX b (Or.inr (Or.inr hbS))).2.2.2.2, ?_⟩
              rw [z2] at hSPn
              exact (List.nodup_cons.mp hSPn).1
          have hS2 : ∀ x ∈ ad SP2, x ∈ ad SP := by
            rcases k7 with ⟨z1, z2, z3⟩ | ⟨z1, z2⟩
            · rw [z2]; intro x hx; cases hx
            · rw [z2]; exact fun x hx => List.mem_cons_of_mem _ hx
          have hS2n : (ad SP2).Nodup := by
            rcases k7 with ⟨z1, z2, z3⟩ | ⟨z1, z2⟩
            · rw [z2]; exact List.nodup_nil
            · rw [z2] at hSPn
              exact (List.nodup_cons.mp hSPn).2
          have hS2l : SP2.length = SP.length - 1 := by
            rcases k7 with ⟨z1, z2, z3⟩ | ⟨z1, z2⟩
            · rw [z2, z1]; rfl
            · rw [z2]; rfl
          refine k_astore B dX1_moveAgain_67 (by decide) (by first | exact kRf_r _ | exact kRf_q _ | exact kRf_n) ?_
          try refine kK.set1 (by first | exact True.intro | rfl | exact kCat_q _) ?_
          refine k_iload B dX1_moveAgain_69 rfl ?_
          refine k_aload B dX1_moveAgain_71 rfl (by first | exact kRf_r _ | exact kRf_q _ | exact kRf_n) ?_
          refine gf_X1_92 B dX1_moveAgain_73 k3 rfl ?_
          refine k_iadd B dX1_moveAgain_76 ?_
          refine kK.rei (y := nI (quS (AC ++ [(q.1, wf + u - q.1)]))) (by rw [nI_add, quS_app]; rfl) ?_
          refine k_istore B dX1_moveAgain_77 (by decide) ?_
          try refine kK.set1 (by first | exact True.intro | rfl | exact kCat_q _) ?_
          refine k_aload_n B dX1_moveAgain_79 rfl (by first | exact kRf_r _ | exact kRf_q _ | exact kRf_n) ?_
          refine k_ifnonnullR B 92 dX1_moveAgain_80 (by decide) ?_
          refine k_aload B dX1_moveAgain_92 rfl (by first | exact kRf_r _ | exact kRf_q _ | exact kRf_n) ?_
          refine k_dup B dX1_moveAgain_94 rfl ?_
          refine gf_X1_85 B dX1_moveAgain_95 k3 rfl ?_
          refine k_aload_n B dX1_moveAgain_98 rfl (by first | exact kRf_r _ | exact kRf_q _ | exact kRf_n) ?_
          refine gf_X1_68 B dX1_moveAgain_99 h3c rfl ?_
          refine k_aload_n B dX1_moveAgain_102 rfl (by first | exact kRf_r _ | exact kRf_q _ | exact kRf_n) ?_
          refine gf_X1_71 B dX1_moveAgain_103 h2c rfl ?_
          refine k_isub B dX1_moveAgain_106 ?_
          refine k_iadd B dX1_moveAgain_107 ?_
          refine kK.rei (y := nI (q.1 + ct - wf)) (pc_shift (by omega)) ?_
          refine pf_X1_85 B dX1_moveAgain_108 k3 rfl ?_
          refine kK.eq (σ2 := kUp s64 a (tpE (shQ ct wf (q.1, wf + u - q.1)) (hdG t none))) rfl ?_
          have h3b := kUp_o (e := tpE (shQ ct wf (q.1, wf + u - q.1)) (hdG t none)) (Ne.symm hatt) h3c
          have h6b : gSeg tpE (kUp s64 a (tpE (shQ ct wf (q.1, wf + u - q.1)) (hdG t none))) PT1 none := gSeg_up h6c h8b.2.1
          refine k_aload_n B dX1_moveAgain_111 rfl (by first | exact kRf_r _ | exact kRf_q _ | exact kRf_n) ?_
          refine k_aload B dX1_moveAgain_112 rfl (by first | exact kRf_r _ | exact kRf_q _ | exact kRf_n) ?_
          refine cl_X1_78 B (c_X7_add hl (x := shQ ct wf (q.1, wf + u - q.1)) h3b h6b hPTn kUp_eq h8b.2.1) h3b dX1_moveAgain_114 (by first | exact Nat.le_of_ble_eq_true rfl | omega | (simp only [kR, Value.category, kCat_q, List.map, List.sum_cons, List.sum_nil]; omega)) (by first | exact Nat.le_of_ble_eq_true rfl | omega | (simp only [kR, Value.category, kCat_q, List.map, List.sum_cons, List.sum_nil]; omega)) (by first | exact Nat.le_of_ble_eq_true rfl | omega | (simp only [kR, Value.category, kCat_q, List.map, List.sum_cons, List.sum_nil]; omega)) (by first | exact Nat.le_of_ble_eq_true rfl | omega | (simp only [kR, Value.category, kCat_q, List.map, List.sum_cons, List.sum_nil]; omega)) (by first | exact Nat.le_of_ble_eq_true rfl | omega | (simp only [kR, Value.category, kCat_q, List.map, List.sum_cons, List.sum_nil]; omega)) (fun _ hx => hx.elim) (fun v114 s114 hp114 => ?_)
          obtain ⟨rfl, w1, w2, w3, w4⟩ := hp114
          have keep2 : ∀ {x : Nat} {y : va_E}, ¬ (x = tt ∨ x = a ∨ x ∈ ad PT1) → s64 x = some y → s114 x = some y := fun hx hy => w3 _ _ (kUp_o (fun h => hx (Or.inr (Or.inl h))) hy) hx
          have hY : ∀ x, (x = tt ∨ x = a ∨ x ∈ ad PT1) → x ≠ tf ∧ x ≠ mm ∧ x ≠ aJ ∧ x ∉ ad t ∧ x ∉ ad SP2 ∧ x ≠ b := by
            intro x hx
            rcases hx with h | h | h
            · subst h
              refine ⟨Ne.symm hne, Ne.symm hmtt, Ne.symm hjtt, fun h => ?_, fun h => ?_, fun h => ?_⟩
              · obtain ⟨p1, y1, hh⟩ := gSeg_adr h5.2 h
                rw [h3] at hh; cases hh
              · obtain ⟨p1, y1, hh⟩ := gSeg_adr h7 (hS2 _ h)
                rw [h3] at hh; cases hh
              · rw [← h, h3c] at k4; cases k4
            · subst h
              exact ⟨hatf, ham, haJ, h8b.1, fun h => h8b.2.2 (hS2 _ h), Ne.symm k5⟩
            · obtain ⟨p1, y1, hh⟩ := gSeg_adr h6 h
              refine ⟨kNe hh h2 (by decide), kNe hh h1 (by decide), kNe hh h4 (by decide), fun h9 => ?_, fun h9 => ?_, fun h9 => ?_⟩
              · exact (List.nodup_append.mp h8c).2.2 x h9 x (List.mem_append_left _ h) rfl
              · exact (List.nodup_append.mp (List.nodup_append.mp h8c).2.1).2.2 x h x (hS2 _ h9) rfl
              · exact hbt.2.1 (h9 ▸ h)
          have hb3 := keep2 (fun h => (hY _ h).2.2.2.2.2 rfl) k4
          have n4 : nI (wf + u) ≤ nI (wf + u) := Int32.le_refl _
          refine k_aload B dX1_moveAgain_117 rfl (by first | exact kRf_r _ | exact kRf_q _ | exact kRf_n) ?_
          refine k_astore B dX1_moveAgain_119 (by decide) (by first | exact kRf_r _ | exact kRf_q _ | exact kRf_n) ?_
          try refine kK.set1 (by first | exact True.intro | rfl | exact kCat_q _) ?_
          refine k_goto B 44 dX1_moveAgain_121 (by decide) ?_
          refine k_aload B dX1_moveAgain_44 rfl (by first | exact kRf_r _ | exact kRf_q _ | exact kRf_n) ?_
          refine k_ifnullR B 124 dX1_moveAgain_46 (by decide) ?_
          refine k_aload B dX1_moveAgain_49 rfl (by first | exact kRf_r _ | exact kRf_q _ | exact kRf_n) ?_
          refine gf_X1_85 B dX1_moveAgain_51 hb3 rfl ?_
          refine k_iload B dX1_moveAgain_54 rfl ?_
          refine k_icmp_ge B 124 dX1_moveAgain_56 (by decide) (fun c56 => ?_) (fun c56 => ?_)
          · have e1 : (tkQ (tCon PF) (wf + u)).1 = AC ++ [(q.1, wf + u - q.1)] := by rw [htk, e0]
            have e2 : (tkQ (tCon PF) (wf + u)).2 = (wf + u, q.1 + q.2 - (wf + u)) :: tCon t := by rw [htk, e0]
            refine fin ((b, (wf + u, q.1 + q.2 - (wf + u))) :: t) (PT1 ++ [(a, shQ ct wf (q.1, wf + u - q.1))]) SP2 _ s114 _ _ _ (by omega) (by omega) (keep2 (fun h => (hY _ h).2.1 rfl) h1c) (keep2 (fun h => (hY _ h).1 rfl) h2c) w1 (keep2 (fun h => (hY _ h).2.2.1 rfl) k1) ⟨hb3, gSeg_keep h5c (fun x hx y hy => keep2 (fun h => (hY _ h).2.2.2.1 hx) hy)⟩ w2 (gSeg_keep k2 (fun x hx y hy => keep2 (fun h => (hY _ h).2.2.2.2.1 hx) hy)) ?_ ?_ ?_ ?_ ?_ ?_ ?_ ?_ ?_
            · rw [ad_app]
              show (b :: (ad t ++ ((ad PT1 ++ [a]) ++ ad SP2))).Nodup
              have hp : (a :: (ad t ++ (ad PT1 ++ ad SP2))).Perm (ad t ++ ((ad PT1 ++ [a]) ++ ad SP2)) := by
                have p1 : (a :: (ad t ++ (ad PT1 ++ ad SP2))).Perm (ad t ++ (a :: (ad PT1 ++ ad SP2))) := List.perm_middle.symm
                refine p1.trans (List.Perm.append_left _ ?_)
                rw [List.append_assoc]
                exact List.perm_middle.symm
              refine List.nodup_cons.mpr ⟨fun h => ?_, hp.nodup_iff.mp (List.nodup_cons.mpr ⟨fun h => ?_, ?_⟩)⟩
              · rcases List.mem_append.mp h with h | h
                · exact hbt.1 h
                · rcases List.mem_append.mp h with h | h
                  · rcases List.mem_append.mp h with h | h
                    · exact hbt.2.1 h
                    · exact k5 (by simpa using h)
                  · exact hbt.2.2 h
              · rcases List.mem_append.mp h with h | h
                · exact h8b.1 h
                · rcases List.mem_append.mp h with h | h
                  · exact h8b.2.1 h
                  · exact h8b.2.2 (hS2 _ h)
              · refine List.nodup_append.mpr ⟨(List.nodup_append.mp h8c).1, List.nodup_append.mpr ⟨hPTn, hS2n, fun x hx y hy => ?_⟩, fun x hx y hy => ?_⟩
                · exact (List.nodup_append.mp (List.nodup_append.mp h8c).2.1).2.2 x hx y (hS2 _ hy)
                · rcases List.mem_append.mp hy with h | h
                  · exact (List.nodup_append.mp h8c).2.2 x hx y (List.mem_append_left _ h)
                  · exact (List.nodup_append.mp h8c).2.2 x hx y (List.mem_append_right _ (hS2 _ h))
            · intro hlen
              rw [← h9 (by simp)]
              cases t with
              | nil => simp at hlen
              | cons x1 x2 => rfl
            · rw [e2]; rfl
            · rw [e1]
              show tCon (PT1 ++ [_]) = _
              rw [tCon, List.map_append, List.map_append, ← List.append_assoc, ← hPT]; rfl
            · rw [e1]
            · rw [hS2l, if_pos ecut]
            · intro x hx
              rw [ad_app] at hx
              rcases List.mem_cons.mp (show x ∈ b :: (ad t ++ ((ad PT1 ++ [a]) ++ ad SP2)) from hx) with h | h
              · rcases hbs with h2 | h2
                · exact Or.inl (hin x (by rw [h]; exact List.mem_append_right _ (List.mem_append_right _ h2)))
                · exact Or.inr (hdm x (h ▸ h2))
              · refine Or.inl (hin x ?_)
                rcases List.mem_append.mp h with h | h
                · exact List.mem_append_left _ (List.mem_cons_of_mem _ h)
                · rcases List.mem_append.mp h with h | h
                  · rcases List.mem_append.mp h with h | h
                    · exact List.mem_append_right _ (List.mem_append_left _ h)
                    · have : x = a := by simpa using h
                      subst this
                      exact List.mem_append_left _ List.mem_cons_self
                  · exact List.mem_append_right _ (List.mem_append_right _ (hS2 _ h))
            · intro x y hx hX2
              have hx1 := hO x y hx hX2
              refine keep2 (fun h => ?_) (keep (fun h => ?_) hx1)
              · rcases h with h | h | h
                · exact hX2 (Or.inr (Or.inr (Or.inl h)))
                · exact hX2 (Or.inr (Or.inr (Or.inr (hin x (by rw [h]; exact List.mem_append_left _ List.mem_cons_self)))))
                · exact hX2 (Or.inr (Or.inr (Or.inr (hin x (List.mem_append_right _ (List.mem_append_left _ h))))))
              · rcases h with h | h | h
                · exact hX2 (Or.inl h)
                · exact hX2 (Or.inr (Or.inr (Or.inr (hin x (by rw [h]; exact List.mem_append_left _ List.mem_cons_self)))))
                · exact hX2 (Or.inr (Or.inr (Or.inr (hin x (List.mem_append_right _ (List.mem_append_right _ h))))))
            · exact hFr.tr ((k8.mono (fun k hk => hk.elim Or.inl (fun h => Or.inr (Or.inl h)))).tr ((kFr.up k3 (Or.inr (Or.inl rfl))).tr (w4.mono (fun k hk => hk.elim (fun h => Or.inr (Or.inl h)) (fun h => Or.inr (Or.inr h))))))
          · exact absurd n4 c56
  refine k_aload_n B dX1_moveAgain_0 rfl (by first | exact kRf_r _ | exact kRf_q _ | exact kRf_n) ?_
  refine k_aload_n B dX1_moveAgain_1 rfl (by first | exact kRf_r _ | exact kRf_q _ | exact kRf_n) ?_
  refine gf_X1_36 B dX1_moveAgain_2 hm rfl ?_
  refine cl_X1_81 B (c_X1_tankAt hl hJ hT hfi) hJ dX1_moveAgain_5 (by first | exact Nat.le_of_ble_eq_true rfl | omega | (simp only [kR, Value.category, kCat_q, List.map, List.sum_cons, List.sum_nil]; omega)) (by first | exact Nat.le_of_ble_eq_true rfl | omega | (simp only [kR, Value.category, kCat_q, List.map, List.sum_cons, List.sum_nil]; omega)) (by first | exact Nat.le_of_ble_eq_true rfl | omega | (simp only [kR, Value.category, kCat_q, List.map, List.sum_cons, List.sum_nil]; omega)) (by first | exact Nat.le_of_ble_eq_true rfl | omega | (simp only [kR, Value.category, kCat_q, List.map, List.sum_cons, List.sum_nil]; omega)) (by first | exact Nat.le_of_ble_eq_true rfl | omega | (simp only [kR, Value.category, kCat_q, List.map, List.sum_cons, List.sum_nil]; omega)) (fun _ hx => hx.elim) (fun v5 s5 hp5 => ?_)
  obtain ⟨rfl, rfl⟩ := hp5
  rw [hff]
  refine k_astore_n B dX1_moveAgain_8 (by decide) (by first | exact kRf_r _ | exact kRf_q _ | exact kRf_n) ?_
  try refine kK.set1 (by first | exact True.intro | rfl | exact kCat_q _) ?_
  refine k_aload_n B dX1_moveAgain_9 rfl (by first | exact kRf_r _ | exact kRf_q _ | exact kRf_n) ?_
  refine k_aload_n B dX1_moveAgain_10 rfl (by first | exact kRf_r _ | exact kRf_q _ | exact kRf_n) ?_
  refine gf_X1_43 B dX1_moveAgain_11 hm rfl ?_
  refine cl_X1_81 B (c_X1_tankAt hl hJ hT hti) hJ dX1_moveAgain_14 (by first | exact Nat.le_of_ble_eq_true rfl | omega | (simp only [kR, Value.category, kCat_q, List.map, List.sum_cons, List.sum_nil]; omega)) (by first | exact Nat.le_of_ble_eq_true rfl | omega | (simp only [kR, Value.category, kCat_q, List.map, List.sum_cons, List.sum_nil]; omega)) (by first | exact Nat.le_of_ble_eq_true rfl | omega | (simp only [kR, Value.category, kCat_q, List.map, List.sum_cons, List.sum_nil]; omega)) (by first | exact Nat.le_of_ble_eq_true rfl | omega | (simp only [kR, Value.category, kCat_q, List.map, List.sum_cons, List.sum_nil]; omega)) (by first | exact Nat.le_of_ble_eq_true rfl | omega | (simp only [kR, Value.category, kCat_q, List.map, List.sum_cons, List.sum_nil]; omega)) (fun _ hx => hx.elim) (fun v14 s14 hp14 => ?_)
  obtain ⟨rfl, rfl⟩ := hp14
  rw [hft]
  refine k_astore_n B dX1_moveAgain_17 (by decide) (by first | exact kRf_r _ | exact kRf_q _ | exact kRf_n) ?_
  try refine kK.set1 (by first | exact True.intro | rfl | exact kCat_q _) ?_
  refine k_aload_n B dX1_moveAgain_18 rfl (by first | exact kRf_r _ | exact kRf_q _ | exact kRf_n) ?_
  refine k_ifnonnullR B 24 dX1_moveAgain_19 (by decide) ?_
  refine k_aload_n B dX1_moveAgain_24 rfl (by first | exact kRf_r _ | exact kRf_q _ | exact kRf_n) ?_
  refine gf_X1_71 B dX1_moveAgain_25 hf rfl ?_
  refine k_aload_n B dX1_moveAgain_28 rfl (by first | exact kRf_r _ | exact kRf_q _ | exact kRf_n) ?_
  refine gf_X1_40 B dX1_moveAgain_29 hm rfl ?_
  refine k_iadd B dX1_moveAgain_32 ?_
  refine kK.rei (y := nI (wf + u)) (nI_add _ _) ?_
  refine k_istore B dX1_moveAgain_33 (by decide) ?_
  try refine kK.set1 (by first | exact True.intro | rfl | exact kCat_q _) ?_
  refine k_iconst B (v := 0) dX1_moveAgain_35 (by decide) ?_
  refine k_istore B dX1_moveAgain_36 (by decide) ?_
  try refine kK.set1 (by first | exact True.intro | rfl | exact kCat_q _) ?_
  refine k_aload_n B dX1_moveAgain_38 rfl (by first | exact kRf_r _ | exact kRf_q _ | exact kRf_n) ?_
  refine gf_X1_54 B dX1_moveAgain_39 hf rfl ?_
  refine k_astore B dX1_moveAgain_42 (by decide) (by first | exact kRf_r _ | exact kRf_q _ | exact kRf_n) ?_
  try refine kK.set1 (by first | exact True.intro | rfl | exact kCat_q _) ?_
  exact loop PF PT [] s14 ⟨hm, hf, ht, hJ, hF, hTT, hSP, hnd, fun _ => rfl⟩ hb (by simp) rfl (by simp) (fun a ha => ha) (fun x hx => hx) kOut.rf kFr.rf
end MovT
