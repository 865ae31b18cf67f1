def mcNq : List (Nat × Nat) → Nat → Nat → Nat
  | [], _, _ => 0
  | q :: t, e, n => if q.1 < e then (if q.1 + q.2 ≤ e then mcNq t e (n + 1) else (if n = 0 then 1 else 0)) else 0
def spNq : List (Nat × Nat) → Nat → Nat → Nat
  | [], _, n => n
  | q :: t, e, n => if q.1 < e then (if q.1 + q.2 ≤ e then spNq t e (n + 1) else n - 1 + 1) else n
theorem spN_len (SP : kQs) : spN SP = if SP.length = 0 then 1 else 0 := by cases SP <;> rfl
def mnI (aJ tk m tf : Nat) (mv : kMv) (nxm fJ zJ : Option Nat) (cf wf : Nat) (f0 z0 : Option Nat) (PF : kTs) (SP : kQs) (s2 : kS) : Prop :=
  s2 m = some (mE mv nxm) ∧ s2 tf = some (tE cf wf f0 z0) ∧ s2 aJ = some (jE tk fJ zJ (hdA SP)) ∧ gSeg tpE s2 PF none ∧ gSeg pcE s2 SP none ∧ (ad PF ++ ad SP).Nodup ∧ (PF ≠ [] → lsA PF = z0)
def mnP (σ : kS) (aJ tk tf : Nat) (fJ zJ : Option Nat) (cf wf u : Nat) (PF : kTs) (SP : kQs) (v : Option Value) (s2 : kS) : Prop :=
  ∃ (PF2 : kTs) (SP2 : kQs), tCon PF2 = (tkQ (tCon PF) (wf + u)).2 ∧ v = some (.int (nI (quS (tkQ (tCon PF) (wf + u)).1))) ∧ s2 tf = some (tE cf (wf + u) (hdA PF2) (lsA PF2)) ∧ s2 aJ = some (jE tk fJ zJ (hdA SP2)) ∧ gSeg tpE s2 PF2 none ∧ gSeg pcE s2 SP2 none ∧ (ad PF2 ++ ad SP2).Nodup ∧ SP2.length = spNq (tCon PF) (wf + u) SP.length ∧ (∀ a ∈ ad PF2 ++ ad SP2, a ∈ ad PF ++ ad SP ∨ σ a = none) ∧ kOut (fun a => a = aJ ∨ a = tf ∨ a ∈ ad PF ++ ad SP) σ s2 ∧ kFr k147 σ s2
section MovN
variable {l : Launch} {D : va_G} {σ : kS} {aJ tk tf mm : Nat}
set_option maxHeartbeats 4000000 in
set_option maxRecDepth 100000 in
theorem c_X1_moveAgainN (hl : l.stackTraces = false) {fi u : Nat} {tI : Int32} {nxm fJ zJ : Option Nat} {cf wf : Nat} {PF : kTs} {SP : kQs} {ft : Nat → Option Nat} (hm : σ mm = some (mE (nI fi, tI, u) nxm)) (hfi : fi < 10) (hti : tI < 0 ∨ 10 ≤ tI) (hT : σ tk = some (.inl (D.1 18, 10, .inr (.inr (.inr (.inr ft)))))) (hff : ft fi = some tf) (hf : σ tf = some (tE cf wf (hdA PF) (lsA PF))) (hJ : σ aJ = some (jE tk fJ zJ (hdA SP))) (hF : gSeg tpE σ PF none) (hSP : gSeg pcE σ SP none) (hnd : (ad PF ++ ad SP).Nodup) (hb : ∀ q ∈ PF, wf ≤ q.2.1 ∧ q.2.1 + q.2.2 < 2 ^ 30) (hbe : wf + u < 2 ^ 30) : kMh hX1_moveAgain l D yX1_moveAgain 4 (mcNq (tCon PF) (wf + u) SP.length) (3 * mcNq (tCon PF) (wf + u) SP.length) [.ref aJ, .ref mm] σ (mnP σ aJ tk tf fJ zJ cf wf u PF SP) (fun _ => False) := by
  refine kM_of (L := [some (.ref aJ), some (.ref mm), none, none, none, none, none, none]) (by decide +kernel) hl (List.forall_mem_cons.mpr ⟨rfl, (List.forall_mem_cons.mpr ⟨rfl, (fun _ h => absurd h List.not_mem_nil)⟩)⟩) (Nat.le_of_ble_eq_true rfl) rfl ?_
  intro p e s m args below meth c B hr hex hnm
  have B : kB p l s m args meth c D (kA σ s.heap.size) 8 cX1_moveAgain RX1 := B
  generalize hmc : mcNq (tCon PF) (wf + u) SP.length = MC
  have fin : ∀ (PR : kTs) (SP1 : kQs) (fo : Nat) (s1 : kS) (k n : Nat) (o7 : Option Value), k ≤ MC → n ≤ 3 * MC → s1 mm = some (mE (nI fi, tI, u) nxm) → s1 tf = some (tE cf wf (hdA PF) (lsA PF)) → s1 aJ = some (jE tk fJ zJ (hdA SP1)) → gSeg tpE s1 PR none → gSeg pcE s1 SP1 none → (ad PR ++ ad SP1).Nodup → (2 ≤ PR.length → lsA PR = lsA PF) → tCon PR = (tkQ (tCon PF) (wf + u)).2 → fo = quS (tkQ (tCon PF) (wf + u)).1 → SP1.length = spNq (tCon PF) (wf + u) SP.length → (∀ a ∈ ad PR ++ ad SP1, a ∈ ad PF ++ ad SP ∨ σ a = none) → kOut (fun a => a = aJ ∨ a = tf ∨ a ∈ ad PF ++ ad SP) σ s1 → kFr k147 σ s1 →
      kK p l e (kR 4 MC (3 * MC)) s m args below meth c D (kA σ s.heap.size) 8 (kQ below args s D σ (mnP σ aJ tk tf fJ zJ cf wf u PF SP) (fun _ => False) MC (3 * MC)) s1 k n 124 [some (.ref aJ), some (.ref mm), some (.ref tf), some .null, some (.int (nI (wf + u))), some (.int (nI fo)), some (va_rf (hdA PR)), o7] [] := by
    intro PR SP1 fo s1 k n o7 hk hn h1 h2 h4 h5 h7 h8 h9 g1 g3 g4 g5 g6 g7
    have hjtf : aJ ≠ tf := kNe h4 h2 (by decide)
    refine k_aload_n B dX1_moveAgain_124 rfl (by first | exact kRf_r _ | exact kRf_q _ | exact kRf_n) ?_
    refine k_aload B dX1_moveAgain_125 rfl (by first | exact kRf_r _ | exact kRf_q _ | exact kRf_n) ?_
    refine cl_X1_65 B (c_X7_startAt hl h2 h5) h2 dX1_moveAgain_127 (by first | exact Nat.le_of_ble_eq_true rfl | omega | (simp only [kR, Value.category, kCat_q, List.map, List.sum_cons, List.sum_nil]; omega)) (by first | exact Nat.le_of_ble_eq_true rfl | omega | (simp only [kR, Value.category, kCat_q, List.map, List.sum_cons, List.sum_nil]; omega)) (by first | exact Nat.le_of_ble_eq_true rfl | omega | (simp only [kR, Value.category, kCat_q, List.map, List.sum_cons, List.sum_nil]; omega)) (by first | exact Nat.le_of_ble_eq_true rfl | omega | (simp only [kR, Value.category, kCat_q, List.map, List.sum_cons, List.sum_nil]; omega)) (by first | exact Nat.le_of_ble_eq_true rfl | omega | (simp only [kR, Value.category, kCat_q, List.map, List.sum_cons, List.sum_nil]; omega)) (fun _ hx => hx.elim) (fun v127 s127 hp127 => ?_)
    obtain ⟨rfl, rfl⟩ := hp127
    rw [ls1_eq h9]
    refine k_aload_n B dX1_moveAgain_130 rfl (by first | exact kRf_r _ | exact kRf_q _ | exact kRf_n) ?_
    refine k_iload B dX1_moveAgain_131 rfl ?_
    refine pf_X1_71 B dX1_moveAgain_133 kUp_eq rfl ?_
    refine kK.eq (σ2 := kUp s1 tf (tE cf (wf + u) (hdA PR) (lsA PR))) (by rw [kUp_uu]; rfl) ?_
    refine k_aload_n B dX1_moveAgain_136 rfl (by first | exact kRf_r _ | exact kRf_q _ | exact kRf_n) ?_
    refine k_ifnullN B 153 dX1_moveAgain_137 (by decide) ?_
    refine k_iload B dX1_moveAgain_153 rfl ?_
    refine k_iret B hr dX1_moveAgain_155 ?_ (by first | exact Nat.le_of_ble_eq_true rfl | omega | (simp only [kR, Value.category, kCat_q, List.map, List.sum_cons, List.sum_nil]; omega)) (by first | exact Nat.le_of_ble_eq_true rfl | omega | (simp only [kR, Value.category, kCat_q, List.map, List.sum_cons, List.sum_nil]; omega))
    refine ⟨PR, SP1, g1, by rw [g3], kUp_eq, kUp_o hjtf h4, gSeg_keep h5 (fun x hx y hy => by
      obtain ⟨p1, y1, hh⟩ := gSeg_adr h5 hx
      exact kUp_o (kNe hh h2 (by decide)) hy), gSeg_keep h7 (fun x hx y hy => by
      obtain ⟨p1, y1, hh⟩ := gSeg_adr h7 hx
      exact kUp_o (kNe hh h2 (by decide)) hy), h8, g4, g5, g6.tr (kOut.up (Or.inr (Or.inl rfl))), g7.tr (kFr.up h2 (Or.inr (Or.inr rfl)))⟩
  have loop : ∀ (P1 : kTs) (SP1 : kQs) (AC : List (Nat × Nat)) (s1 : kS), mnI aJ tk mm tf (nI fi, tI, u) nxm fJ zJ cf wf (hdA PF) (lsA PF) P1 SP1 s1 → (∀ q ∈ P1, wf ≤ q.2.1 ∧ q.2.1 + q.2.2 < 2 ^ 30) → tkQ (tCon PF) (wf + u) = (AC ++ (tkQ (tCon P1) (wf + u)).1, (tkQ (tCon P1) (wf + u)).2) → mcNq (tCon P1) (wf + u) SP1.length = MC → spNq (tCon PF) (wf + u) SP.length = spNq (tCon P1) (wf + u) SP1.length → (∀ a ∈ ad P1 ++ ad SP1, a ∈ ad PF ++ ad SP) → (∀ x, s1 x = none → σ x = none) → kOut (fun a => a = aJ ∨ a = tf ∨ a ∈ ad PF ++ ad SP) σ s1 → kFr k147 σ s1 →
      kK p l e (kR 4 MC (3 * MC)) s m args below meth c D (kA σ s.heap.size) 8 (kQ below args s D σ (mnP σ aJ tk tf fJ zJ cf wf u PF SP) (fun _ => False) MC (3 * MC)) s1 0 0 44 [some (.ref aJ), some (.ref mm), some (.ref tf), some .null, some (.int (nI (wf + u))), some (.int (nI (quS AC))), some (va_rf (hdA P1)), none] [] := by
    intro P1
    induction P1 with
    | nil =>
      intro SP1 AC s1 hI hbq htk hmq hsq hin hdm hO hFr
      obtain ⟨h1, h2, h4, h5, h7, h8, h9⟩ := hI
      have e1 : (tkQ (tCon PF) (wf + u)).1 = AC := by rw [htk]; simp [tCon, tkQ]
      have e2 : (tkQ (tCon PF) (wf + u)).2 = [] := by rw [htk]; simp [tCon, tkQ]
      refine k_aload B dX1_moveAgain_44 rfl (by first | exact kRf_r _ | exact kRf_q _ | exact kRf_n) ?_
      refine k_ifnullN B 124 dX1_moveAgain_46 (by decide) ?_
      exact fin [] SP1 (quS AC) s1 0 0 none (by omega) (by omega) h1 h2 h4 trivial h7 h8 (by simp) (by rw [e2]; rfl) (by rw [e1]) (by rw [hsq]; rfl) (fun a ha => Or.inl (hin a ha)) hO hFr
    | cons r t ih =>
      obtain ⟨a, q⟩ := r
      intro SP1 AC s1 hI hbq htk hmq hsq hin hdm hO hFr
      obtain ⟨h1, h2, h4, h5, h7, h8, h9⟩ := hI
      have ha := h5.1
      have hq : wf ≤ q.1 ∧ q.1 + q.2 < 2 ^ 30 := hbq _ List.mem_cons_self
      obtain ⟨hq1, hq2⟩ := hq
      have hatf : a ≠ tf := kNe ha h2 (by decide)
      have haJ : a ≠ aJ := kNe ha h4 (by decide)
      have ham : a ≠ mm := kNe ha h1 (by decide)
      have hjtf : aJ ≠ tf := kNe h4 h2 (by decide)
      have hjm : aJ ≠ mm := kNe h4 h1 (by decide)
      have h8b : a ∉ ad t ∧ a ∉ ad SP1 := by
        have := (List.nodup_cons.mp (show (a :: (ad t ++ ad SP1)).Nodup from h8)).1
        exact ⟨fun h => this (List.mem_append_left _ h), fun h => this (List.mem_append_right _ h)⟩
      have h8c : (ad t ++ ad SP1).Nodup := (List.nodup_cons.mp (show (a :: (ad t ++ ad SP1)).Nodup from h8)).2
      have hSPn : (ad SP1).Nodup := (List.nodup_append.mp h8c).2.1
      refine k_aload B dX1_moveAgain_44 rfl (by first | exact kRf_r _ | exact kRf_q _ | exact kRf_n) ?_
      refine k_ifnullR B 124 dX1_moveAgain_46 (by decide) ?_
      refine k_aload B dX1_moveAgain_49 rfl (by first | exact kRf_r _ | exact kRf_q _ | exact kRf_n) ?_
      refine gf_X1_85 B dX1_moveAgain_51 ha rfl ?_
      refine k_iload B dX1_moveAgain_54 rfl ?_
      refine k_icmp_ge B 124 dX1_moveAgain_56 (by decide) (fun c56 => ?_) (fun c56 => ?_)
      · have n1 : ¬ q.1 < wf + u := by
          have := (nI_leI (show wf + u < 2 ^ 31 by omega) (show q.1 < 2 ^ 31 by omega)).mp c56
          omega
        have e0 : tkQ (tCon ((a, q) :: t)) (wf + u) = ([], tCon ((a, q) :: t)) := tkQ_ge n1
        have e1 : (tkQ (tCon PF) (wf + u)).1 = AC := by rw [htk, e0]; simp
        have e2 : (tkQ (tCon PF) (wf + u)).2 = tCon ((a, q) :: t) := by rw [htk, e0]
        exact fin ((a, q) :: t) SP1 (quS AC) s1 0 0 none (by omega) (by omega) h1 h2 h4 h5 h7 h8 (fun _ => h9 (by simp)) e2.symm (by rw [e1]) (by rw [hsq]; show SP1.length = spNq (q :: tCon t) (wf + u) SP1.length; rw [spNq, if_neg n1]) (fun x hx => Or.inl (hin x hx)) hO hFr
      · have n1 : q.1 < wf + u := by
          rcases Nat.lt_or_ge q.1 (wf + u) with h | h
          · exact h
          · exact absurd ((nI_leI (show wf + u < 2 ^ 31 by omega) (show q.1 < 2 ^ 31 by omega)).mpr h) c56
        by_cases n2 : q.1 + q.2 ≤ wf + u
        · -- the whole piece
          have e0 : tkQ (tCon ((a, q) :: t)) (wf + u) = (q :: (tkQ (tCon t) (wf + u)).1, (tkQ (tCon t) (wf + u)).2) := tkQ_lt_le n1 n2
          refine k_aload_n B dX1_moveAgain_59 rfl (by first | exact kRf_r _ | exact kRf_q _ | exact kRf_n) ?_
          refine k_aload B dX1_moveAgain_60 rfl (by first | exact kRf_r _ | exact kRf_q _ | exact kRf_n) ?_
          refine k_iload B dX1_moveAgain_62 rfl ?_
          refine cl_X1_88 B (c_X1_cut0 hl ha n2 hbe) h4 dX1_moveAgain_64 (by first | exact Nat.le_of_ble_eq_true rfl | omega | (simp only [kR, Value.category, kCat_q, List.map, List.sum_cons, List.sum_nil]; omega)) (by first | exact Nat.le_of_ble_eq_true rfl | omega | (simp only [kR, Value.category, kCat_q, List.map, List.sum_cons, List.sum_nil]; omega)) (by first | exact Nat.le_of_ble_eq_true rfl | omega | (simp only [kR, Value.category, kCat_q, List.map, List.sum_cons, List.sum_nil]; omega)) (by first | exact Nat.le_of_ble_eq_true rfl | omega | (simp only [kR, Value.category, kCat_q, List.map, List.sum_cons, List.sum_nil]; omega)) (by first | exact Nat.le_of_ble_eq_true rfl | omega | (simp only [kR, Value.category, kCat_q, List.map, List.sum_cons, List.sum_nil]; omega)) (fun _ hx => hx.elim) (fun v64 s64 hp64 => ?_)
          obtain ⟨rfl, e64⟩ := hp64
          rw [e64]
          refine k_astore B dX1_moveAgain_67 (by decide) (by first | exact kRf_r _ | exact kRf_q _ | exact kRf_n) ?_
          try refine kK.set1 (by first | exact True.intro | rfl | exact kCat_q _) ?_
          refine k_iload B dX1_moveAgain_69 rfl ?_
          refine k_aload B dX1_moveAgain_71 rfl (by first | exact kRf_r _ | exact kRf_q _ | exact kRf_n) ?_
          refine gf_X1_92 B dX1_moveAgain_73 ha rfl ?_
          refine k_iadd B dX1_moveAgain_76 ?_
          refine kK.rei (y := nI (quS (AC ++ [q]))) (by rw [nI_add, quS_app]; rfl) ?_
          refine k_istore B dX1_moveAgain_77 (by decide) ?_
          try refine kK.set1 (by first | exact True.intro | rfl | exact kCat_q _) ?_
          refine k_aload_n B dX1_moveAgain_79 rfl (by first | exact kRf_r _ | exact kRf_q _ | exact kRf_n) ?_
          refine k_ifnonnullN B 92 dX1_moveAgain_80 (by decide) ?_
          refine k_aload_n B dX1_moveAgain_83 rfl (by first | exact kRf_r _ | exact kRf_q _ | exact kRf_n) ?_
          refine k_aload B dX1_moveAgain_84 rfl (by first | exact kRf_r _ | exact kRf_q _ | exact kRf_n) ?_
          refine cl_X1_61 B (c_X1_putAway hl (q := (nI q.1, nI q.2)) h4 ha) h4 dX1_moveAgain_86 (by first | exact Nat.le_of_ble_eq_true rfl | omega | (simp only [kR, Value.category, kCat_q, List.map, List.sum_cons, List.sum_nil]; omega)) (by first | exact Nat.le_of_ble_eq_true rfl | omega | (simp only [kR, Value.category, kCat_q, List.map, List.sum_cons, List.sum_nil]; omega)) (by first | exact Nat.le_of_ble_eq_true rfl | omega | (simp only [kR, Value.category, kCat_q, List.map, List.sum_cons, List.sum_nil]; omega)) (by first | exact Nat.le_of_ble_eq_true rfl | omega | (simp only [kR, Value.category, kCat_q, List.map, List.sum_cons, List.sum_nil]; omega)) (by first | exact Nat.le_of_ble_eq_true rfl | omega | (simp only [kR, Value.category, kCat_q, List.map, List.sum_cons, List.sum_nil]; omega)) (fun _ hx => hx.elim) (fun v86 s86 hp86 => ?_)
          obtain ⟨rfl, e86⟩ := hp86
          rw [e86]
          refine k_goto B 117 dX1_moveAgain_89 (by decide) ?_
          refine k_aload B dX1_moveAgain_117 rfl (by first | exact kRf_r _ | exact kRf_q _ | exact kRf_n) ?_
          refine k_astore B dX1_moveAgain_119 (by decide) (by first | exact kRf_r _ | exact kRf_q _ | exact kRf_n) ?_
          try refine kK.set1 (by first | exact True.intro | rfl | exact kCat_q _) ?_
          refine k_goto B 44 dX1_moveAgain_121 (by decide) ?_
          have keep : ∀ {x : Nat} {y : va_E}, x ≠ a → x ≠ aJ → s1 x = some y → kUp (kUp s1 a (pcE (nI q.1, nI q.2) (hdA SP1))) aJ (jE tk fJ zJ (some a)) x = some y := fun hx1 hx2 hy => kUp_o hx2 (kUp_o hx1 hy)
          have hnt : ∀ x ∈ ad t, x ≠ a ∧ x ≠ aJ := fun x hx => ⟨fun h => h8b.1 (h ▸ hx), by
            obtain ⟨p1, y1, hh⟩ := gSeg_adr h5.2 hx
            exact kNe hh h4 (by decide)⟩
          have hns : ∀ x ∈ ad SP1, x ≠ a ∧ x ≠ aJ := fun x hx => ⟨fun h => h8b.2 (h ▸ hx), by
            obtain ⟨p1, y1, hh⟩ := gSeg_adr h7 hx
            exact kNe hh h4 (by decide)⟩
          refine kK.sub (L2 := [some (.ref aJ), some (.ref mm), some (.ref tf), some .null, some (.int (nI (wf + u))), some (.int (nI (quS (AC ++ [q])))), some (va_rf (hdA t)), none]) ⟨Or.inr rfl, Or.inr rfl, Or.inr rfl, Or.inr rfl, Or.inr rfl, Or.inr rfl, Or.inr (by rw [← hdG_n]), Or.inl rfl, trivial⟩ ?_
          refine ih ((a, (nI q.1, nI q.2)) :: SP1) (AC ++ [q]) _ ⟨keep (Ne.symm ham) (Ne.symm hjm) h1, keep (Ne.symm hatf) (Ne.symm hjtf) h2, kUp_eq, gSeg_keep h5.2 (fun x hx y hy => keep (hnt x hx).1 (hnt x hx).2 hy), ⟨kUp_o haJ (by rw [kUp_eq, hdG_n]), gSeg_keep h7 (fun x hx y hy => keep (hns x hx).1 (hns x hx).2 hy)⟩, ?_, ?_⟩ (fun r hr => hbq r (List.mem_cons_of_mem _ hr)) ?_ ?_ ?_ ?_ ?_ ?_ ?_
          · show (ad t ++ (a :: ad SP1)).Nodup
            exact (List.perm_middle (l₁ := ad t) (l₂ := ad SP1) (a := a)).symm.nodup_iff.mp h8
          · intro ht0
            rw [← h9 (by simp)]
            cases t with
            | nil => exact absurd rfl ht0
            | cons x1 x2 => rfl
          · rw [htk, e0]; simp
          · rw [← hmq]
            show _ = mcNq (q :: tCon t) (wf + u) SP1.length
            rw [mcNq, if_pos n1, if_pos n2]; rfl
          · rw [hsq]
            show spNq (q :: tCon t) (wf + u) SP1.length = _
            rw [spNq, if_pos n1, if_pos n2]; rfl
          · intro x hx
            refine hin x ?_
            rcases List.mem_append.mp hx with h | h
            · exact List.mem_append_left _ (List.mem_cons_of_mem _ h)
            · rcases List.mem_cons.mp (show x ∈ a :: ad SP1 from h) with h | h
              · rw [h]; exact List.mem_append_left _ List.mem_cons_self
              · exact List.mem_append_right _ h
          · intro x hx
            refine hdm x ?_
            cases hs1 : s1 x with
            | none => rfl
            | some y =>
              by_cases hx1 : x = aJ
              · rw [hx1, kUp_eq] at hx; cases hx
              · rw [kUp_ne hx1] at hx
                by_cases hx2 : x = a
                · rw [hx2, kUp_eq] at hx; cases hx
                · rw [kUp_ne hx2, hs1] at hx; cases hx
          · exact hO.tr ((kOut.up (Or.inr (Or.inr (hin a (List.mem_append_left _ List.mem_cons_self))))).tr (kOut.up (Or.inl rfl)))
          · exact hFr.tr ((kFr.up ha (Or.inr (Or.inl rfl))).tr (kFr.up (kUp_o (Ne.symm haJ) h4) (Or.inl rfl)))
        · -- the piece is cut
          have e0 : tkQ (tCon ((a, q) :: t)) (wf + u) = ([(q.1, wf + u - q.1)], (wf + u, q.1 + q.2 - (wf + u)) :: tCon t) := tkQ_lt_gt n1 n2
          have hMC : MC = spN SP1 := by
            rw [← hmq, spN_len]
            show mcNq (q :: tCon t) (wf + u) SP1.length = _
            rw [mcNq, if_pos n1, if_neg n2]
          have hsq2 : spNq (tCon PF) (wf + u) SP.length = SP1.length - 1 + 1 := by
            rw [hsq]
            show spNq (q :: tCon t) (wf + u) SP1.length = _
            rw [spNq, if_pos n1, if_neg n2]
          rw [hMC] at fin ⊢
          refine k_aload_n B dX1_moveAgain_59 rfl (by first | exact kRf_r _ | exact kRf_q _ | exact kRf_n) ?_
          refine k_aload B dX1_moveAgain_60 rfl (by first | exact kRf_r _ | exact kRf_q _ | exact kRf_n) ?_
          refine k_iload B dX1_moveAgain_62 rfl ?_
          refine cl_X1_88 B (c_X1_cut1 hl h4 h7 hSPn ha h8b.2 (by omega) (by omega) hq2) h4 dX1_moveAgain_64 (by first | exact Nat.le_of_ble_eq_true rfl | omega | (simp only [kR, Value.category, kCat_q, List.map, List.sum_cons, List.sum_nil]; omega)) (by first | exact Nat.le_of_ble_eq_true rfl | omega | (simp only [kR, Value.category, kCat_q, List.map, List.sum_cons, List.sum_nil]; omega)) (by first | exact Nat.le_of_ble_eq_true rfl | omega | (simp only [kR, Value.category, kCat_q, List.map, List.sum_cons, List.sum_nil]; omega)) (by first | exact Nat.le_of_ble_eq_true rfl | omega | (simp only [kR, Value.category, kCat_q, List.map, List.sum_cons, List.sum_nil]; omega)) (by first | exact Nat.le_of_ble_eq_true rfl | omega | (simp only [kR, Value.category, kCat_q, List.map, List.sum_cons, List.sum_nil]; omega)) (fun _ hx => hx.elim) (fun v64 s64 hp64 => ?_)
          obtain ⟨b, SP2, rfl, k1, k2, k3, k4, k5, k6, k7, k8⟩ := hp64
          have hX : ∀ x, (x = aJ ∨ x = a ∨ x ∈ ad SP1) → x ≠ tf ∧ x ≠ mm ∧ x ∉ ad t := by
            intro x hx
            rcases hx with h | h | h
            · subst h
              refine ⟨hjtf, hjm, fun h => ?_⟩
              obtain ⟨p1, y1, hh⟩ := gSeg_adr h5.2 h
              rw [h4] at hh; cases hh
            · subst h
              exact ⟨hatf, ham, h8b.1⟩
            · obtain ⟨p1, y1, hh⟩ := gSeg_adr h7 h
              exact ⟨kNe hh h2 (by decide), kNe hh h1 (by decide), fun h9 => (List.nodup_append.mp h8c).2.2 x h9 x h rfl⟩
          have keep : ∀ {x : Nat} {y : va_E}, ¬ (x = aJ ∨ x = a ∨ x ∈ ad SP1) → s1 x = some y → s64 x = some y := fun hx hy => k6 _ _ hy hx
          have h2c := keep (fun h => (hX _ h).1 rfl) h2
          have h1c := keep (fun h => (hX _ h).2.1 rfl) h1
          have h5c : gSeg tpE s64 t none := gSeg_keep h5.2 (fun x hx y hy => keep (fun h => (hX _ h).2.2 hx) hy)
          have hbt : b ∉ ad t ∧ b ∉ ad SP2 := by
            rcases k7 with ⟨z1, z2, z3⟩ | ⟨z1, z2⟩
            · refine ⟨fun h => ?_, by rw [z2]; simp [ad]⟩
              obtain ⟨p1, y1, hh⟩ := gSeg_adr h5.2 h
              rw [z3] at hh; cases hh
            · have hbS : b ∈ ad SP1 := by rw [z2]; simp [ad]
              refine ⟨(hX b (Or.inr (Or.inr hbS))).2.2, ?_⟩
              rw [z2] at hSPn
              exact (List.nodup_cons.mp hSPn).1
          have hS2 : ∀ x ∈ ad SP2, x ∈ ad SP1 := by
            rcases k7 with ⟨z1, z2, z3⟩ | ⟨z1, z2⟩
            · rw [z2]; intro x hx; cases hx
            · rw [z2]; exact fun x hx => List.mem_cons_of_mem _ hx
          have hS2n : (ad SP2).Nodup := by
            rcases k7 with ⟨z1, z2, z3⟩ | ⟨z1, z2⟩
            · rw [z2]; exact List.nodup_nil
            · rw [z2] at hSPn
              exact (List.nodup_cons.mp hSPn).2
          have hS2l : SP2.length = SP1.length - 1 := by
            rcases k7 with ⟨z1, z2, z3⟩ | ⟨z1, z2⟩
            · rw [z2, z1]; rfl
            · rw [z2]; rfl
          have hbs : b ∈ ad SP1 ∨ (s1 b = none) := by
            rcases k7 with ⟨z1, z2, z3⟩ | ⟨z1, z2⟩
            · exact Or.inr z3
            · exact Or.inl (by rw [z2]; simp [ad])
          have hbJ : b ≠ aJ := kNe k4 k1 (by decide)
          refine k_astore B dX1_moveAgain_67 (by decide) (by first | exact kRf_r _ | exact kRf_q _ | exact kRf_n) ?_
          try refine kK.set1 (by first | exact True.intro | rfl | exact kCat_q _) ?_
          refine k_iload B dX1_moveAgain_69 rfl ?_
          refine k_aload B dX1_moveAgain_71 rfl (by first | exact kRf_r _ | exact kRf_q _ | exact kRf_n) ?_
          refine gf_X1_92 B dX1_moveAgain_73 k3 rfl ?_
          refine k_iadd B dX1_moveAgain_76 ?_
          refine kK.rei (y := nI (quS (AC ++ [(q.1, wf + u - q.1)]))) (by rw [nI_add, quS_app]; rfl) ?_
          refine k_istore B dX1_moveAgain_77 (by decide) ?_
          try refine kK.set1 (by first | exact True.intro | rfl | exact kCat_q _) ?_
          refine k_aload_n B dX1_moveAgain_79 rfl (by first | exact kRf_r _ | exact kRf_q _ | exact kRf_n) ?_
          refine k_ifnonnullN B 92 dX1_moveAgain_80 (by decide) ?_
          refine k_aload_n B dX1_moveAgain_83 rfl (by first | exact kRf_r _ | exact kRf_q _ | exact kRf_n) ?_
          refine k_aload B dX1_moveAgain_84 rfl (by first | exact kRf_r _ | exact kRf_q _ | exact kRf_n) ?_
          refine cl_X1_61 B (c_X1_putAway hl (q := (nI q.1, nI (wf + u - q.1))) k1 k3) k1 dX1_moveAgain_86 (by first | exact Nat.le_of_ble_eq_true rfl | omega | (simp only [kR, Value.category, kCat_q, List.map, List.sum_cons, List.sum_nil]; omega)) (by first | exact Nat.le_of_ble_eq_true rfl | omega | (simp only [kR, Value.category, kCat_q, List.map, List.sum_cons, List.sum_nil]; omega)) (by first | exact Nat.le_of_ble_eq_true rfl | omega | (simp only [kR, Value.category, kCat_q, List.map, List.sum_cons, List.sum_nil]; omega)) (by first | exact Nat.le_of_ble_eq_true rfl | omega | (simp only [kR, Value.category, kCat_q, List.map, List.sum_cons, List.sum_nil]; omega)) (by first | exact Nat.le_of_ble_eq_true rfl | omega | (simp only [kR, Value.category, kCat_q, List.map, List.sum_cons, List.sum_nil]; omega)) (fun _ hx => hx.elim) (fun v86 s86 hp86 => ?_)
          obtain ⟨rfl, e86⟩ := hp86
          rw [e86]
          have keep2 : ∀ {x : Nat} {y : va_E}, x ≠ a → x ≠ aJ → s64 x = some y → kUp (kUp s64 a (pcE (nI q.1, nI (wf + u - q.1)) (hdA SP2))) aJ (jE tk fJ zJ (some a)) x = some y := fun hx1 hx2 hy => kUp_o hx2 (kUp_o hx1 hy)
          have hnt : ∀ x ∈ ad t, x ≠ a ∧ x ≠ aJ := fun x hx => ⟨fun h => h8b.1 (h ▸ hx), by
            obtain ⟨p1, y1, hh⟩ := gSeg_adr h5.2 hx
            exact kNe hh h4 (by decide)⟩
          have hns : ∀ x ∈ ad SP2, x ≠ a ∧ x ≠ aJ := fun x hx => ⟨fun h => h8b.2 (h ▸ hS2 _ hx), by
            obtain ⟨p1, y1, hh⟩ := gSeg_adr k2 hx
            exact kNe hh k1 (by decide)⟩
          have hb3 := keep2 k5 hbJ k4
          have n4 : nI (wf + u) ≤ nI (wf + u) := Int32.le_refl _
          refine k_goto B 117 dX1_moveAgain_89 (by decide) ?_
          refine k_aload B dX1_moveAgain_117 rfl (by first | exact kRf_r _ | exact kRf_q _ | exact kRf_n) ?_
          refine k_astore B dX1_moveAgain_119 (by decide) (by first | exact kRf_r _ | exact kRf_q _ | exact kRf_n) ?_
          try refine kK.set1 (by first | exact True.intro | rfl | exact kCat_q _) ?_
          refine k_goto B 44 dX1_moveAgain_121 (by decide) ?_
          refine k_aload B dX1_moveAgain_44 rfl (by first | exact kRf_r _ | exact kRf_q _ | exact kRf_n) ?_
          refine k_ifnullR B 124 dX1_moveAgain_46 (by decide) ?_
          refine k_aload B dX1_moveAgain_49 rfl (by first | exact kRf_r _ | exact kRf_q _ | exact kRf_n) ?_
          refine gf_X1_85 B dX1_moveAgain_51 hb3 rfl ?_
          refine k_iload B dX1_moveAgain_54 rfl ?_
          refine k_icmp_ge B 124 dX1_moveAgain_56 (by decide) (fun c56 => ?_) (fun c56 => ?_)
          · have e1 : (tkQ (tCon PF) (wf + u)).1 = AC ++ [(q.1, wf + u - q.1)] := by rw [htk, e0]
            have e2 : (tkQ (tCon PF) (wf + u)).2 = (wf + u, q.1 + q.2 - (wf + u)) :: tCon t := by rw [htk, e0]
            refine fin ((b, (wf + u, q.1 + q.2 - (wf + u))) :: t) ((a, (nI q.1, nI (wf + u - q.1))) :: SP2) _ _ _ _ _ (by omega) (by omega) (keep2 (Ne.symm ham) (Ne.symm hjm) h1c) (keep2 (Ne.symm hatf) (Ne.symm hjtf) h2c) kUp_eq ⟨hb3, gSeg_keep h5c (fun x hx y hy => keep2 (hnt x hx).1 (hnt x hx).2 hy)⟩ ⟨kUp_o haJ (by rw [kUp_eq, hdG_n]), gSeg_keep k2 (fun x hx y hy => keep2 (hns x hx).1 (hns x hx).2 hy)⟩ ?_ ?_ ?_ ?_ ?_ ?_ ?_ ?_
            · show (b :: (ad t ++ (a :: ad SP2))).Nodup
              refine List.nodup_cons.mpr ⟨fun h => ?_, List.nodup_append.mpr ⟨(List.nodup_append.mp h8c).1, List.nodup_cons.mpr ⟨fun h => h8b.2 (hS2 _ h), hS2n⟩, fun x hx y hy h => ?_⟩⟩
              · rcases List.mem_append.mp h with h | h
                · exact hbt.1 h
                · rcases List.mem_cons.mp h with h | h
                  · exact k5 h
                  · exact hbt.2 h
              · rcases List.mem_cons.mp hy with h2 | h2
                · exact h8b.1 (h2 ▸ h ▸ hx)
                · exact (List.nodup_append.mp h8c).2.2 x hx y (hS2 _ h2) h
            · intro hlen
              rw [← h9 (by simp)]
              cases t with
              | nil => simp at hlen
              | cons x1 x2 => rfl
            · rw [e2]; rfl
            · rw [e1]
            · rw [hsq2, List.length_cons, hS2l]
            · intro x hx
              rcases List.mem_cons.mp (show x ∈ b :: (ad t ++ (a :: ad SP2)) from hx) with h | h
              · rcases hbs with h2 | h2
                · exact Or.inl (hin x (by rw [h]; exact List.mem_append_right _ h2))
                · exact Or.inr (hdm x (h ▸ h2))
              · refine Or.inl (hin x ?_)
                rcases List.mem_append.mp h with h | h
                · exact List.mem_append_left _ (List.mem_cons_of_mem _ h)
                · rcases List.mem_cons.mp h with h | h
                  · rw [h]; exact List.mem_append_left _ List.mem_cons_self
                  · exact List.mem_append_right _ (hS2 _ h)
            · intro x y hx hX2
              have hx1 := hO x y hx hX2
              have hxa : x ≠ a := fun h => hX2 (Or.inr (Or.inr (hin x (by rw [h]; exact List.mem_append_left _ List.mem_cons_self))))
              have hxJ : x ≠ aJ := fun h => hX2 (Or.inl h)
              exact keep2 hxa hxJ (keep (fun h => h.elim hxJ (fun h => h.elim hxa (fun h => hX2 (Or.inr (Or.inr (hin x (List.mem_append_right _ h))))))) hx1)
            · exact hFr.tr ((k8.mono (fun k hk => hk.elim Or.inl (fun h => Or.inr (Or.inl h)))).tr ((kFr.up k3 (Or.inr (Or.inl rfl))).tr (kFr.up (kUp_o (Ne.symm haJ) k1) (Or.inl rfl))))
          · exact absurd n4 c56
  refine k_aload_n B dX1_moveAgain_0 rfl (by first | exact kRf_r _ | exact kRf_q _ | exact kRf_n) ?_
  refine k_aload_n B dX1_moveAgain_1 rfl (by first | exact kRf_r _ | exact kRf_q _ | exact kRf_n) ?_
  refine gf_X1_36 B dX1_moveAgain_2 hm rfl ?_
  refine cl_X1_81 B (c_X1_tankAt hl hJ hT hfi) hJ dX1_moveAgain_5 (by first | exact Nat.le_of_ble_eq_true rfl | omega | (simp only [kR, Value.category, kCat_q, List.map, List.sum_cons, List.sum_nil]; omega)) (by first | exact Nat.le_of_ble_eq_true rfl | omega | (simp only [kR, Value.category, kCat_q, List.map, List.sum_cons, List.sum_nil]; omega)) (by first | exact Nat.le_of_ble_eq_true rfl | omega | (simp only [kR, Value.category, kCat_q, List.map, List.sum_cons, List.sum_nil]; omega)) (by first | exact Nat.le_of_ble_eq_true rfl | omega | (simp only [kR, Value.category, kCat_q, List.map, List.sum_cons, List.sum_nil]; omega)) (by first | exact Nat.le_of_ble_eq_true rfl | omega | (simp only [kR, Value.category, kCat_q, List.map, List.sum_cons, List.sum_nil]; omega)) (fun _ hx => hx.elim) (fun v5 s5 hp5 => ?_)
  obtain ⟨rfl, rfl⟩ := hp5
  rw [hff]
  refine k_astore_n B dX1_moveAgain_8 (by decide) (by first | exact kRf_r _ | exact kRf_q _ | exact kRf_n) ?_
  try refine kK.set1 (by first | exact True.intro | rfl | exact kCat_q _) ?_
  refine k_aload_n B dX1_moveAgain_9 rfl (by first | exact kRf_r _ | exact kRf_q _ | exact kRf_n) ?_
  refine k_aload_n B dX1_moveAgain_10 rfl (by first | exact kRf_r _ | exact kRf_q _ | exact kRf_n) ?_
  refine gf_X1_43 B dX1_moveAgain_11 hm rfl ?_
  refine cl_X1_81 B (c_X1_tankAtN hl hti) hJ dX1_moveAgain_14 (by first | exact Nat.le_of_ble_eq_true rfl | omega | (simp only [kR, Value.category, kCat_q, List.map, List.sum_cons, List.sum_nil]; omega)) (by first | exact Nat.le_of_ble_eq_true rfl | omega | (simp only [kR, Value.category, kCat_q, List.map, List.sum_cons, List.sum_nil]; omega)) (by first | exact Nat.le_of_ble_eq_true rfl | omega | (simp only [kR, Value.category, kCat_q, List.map, List.sum_cons, List.sum_nil]; omega)) (by first | exact Nat.le_of_ble_eq_true rfl | omega | (simp only [kR, Value.category, kCat_q, List.map, List.sum_cons, List.sum_nil]; omega)) (by first | exact Nat.le_of_ble_eq_true rfl | omega | (simp only [kR, Value.category, kCat_q, List.map, List.sum_cons, List.sum_nil]; omega)) (fun _ hx => hx.elim) (fun v14 s14 hp14 => ?_)
  obtain ⟨rfl, rfl⟩ := hp14
  refine k_astore_n B dX1_moveAgain_17 (by decide) (by first | exact kRf_r _ | exact kRf_q _ | exact kRf_n) ?_
  try refine kK.set1 (by first | exact True.intro | rfl | exact kCat_q _) ?_
  refine k_aload_n B dX1_moveAgain_18 rfl (by first | exact kRf_r _ | exact kRf_q _ | exact kRf_n) ?_
  refine k_ifnonnullR B 24 dX1_moveAgain_19 (by decide) ?_
  refine k_aload_n B dX1_moveAgain_24 rfl (by first | exact kRf_r _ | exact kRf_q _ | exact kRf_n) ?_
  refine gf_X1_71 B dX1_moveAgain_25 hf rfl ?_
  refine k_aload_n B dX1_moveAgain_28 rfl (by first | exact kRf_r _ | exact kRf_q _ | exact kRf_n) ?_
  refine gf_X1_40 B dX1_moveAgain_29 hm rfl ?_
  refine k_iadd B dX1_moveAgain_32 ?_
  refine kK.rei (y := nI (wf + u)) (nI_add _ _) ?_
  refine k_istore B dX1_moveAgain_33 (by decide) ?_
  try refine kK.set1 (by first | exact True.intro | rfl | exact kCat_q _) ?_
  refine k_iconst B (v := 0) dX1_moveAgain_35 (by decide) ?_
  refine k_istore B dX1_moveAgain_36 (by decide) ?_
  try refine kK.set1 (by first | exact True.intro | rfl | exact kCat_q _) ?_
  refine k_aload_n B dX1_moveAgain_38 rfl (by first | exact kRf_r _ | exact kRf_q _ | exact kRf_n) ?_
  refine gf_X1_54 B dX1_moveAgain_39 hf rfl ?_
  refine k_astore B dX1_moveAgain_42 (by decide) (by first | exact kRf_r _ | exact kRf_q _ | exact kRf_n) ?_
  try refine kK.set1 (by first | exact True.intro | rfl | exact kCat_q _) ?_
  exact loop PF SP [] s14 ⟨hm, hf, hJ, hF, hSP, hnd, fun _ => rfl⟩ hb (by simp) hmc rfl (fun a ha => ha) (fun x hx => hx) kOut.rf kFr.rf
end MovN
