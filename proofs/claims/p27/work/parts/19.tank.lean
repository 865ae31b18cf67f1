def tCon (L : kTs) : List (Nat × Nat) := L.map (·.2)
def tkQ : List (Nat × Nat) → Nat → List (Nat × Nat) × List (Nat × Nat)
  | [], _ => ([], [])
  | q :: t, e => if q.1 < e then (if q.1 + q.2 ≤ e then (q :: (tkQ t e).1, (tkQ t e).2) else ([(q.1, e - q.1)], (e, q.1 + q.2 - e) :: t)) else ([], q :: t)
def cutQ : List (Nat × Nat) → Nat → Bool
  | [], _ => false
  | q :: t, e => if q.1 < e then (if q.1 + q.2 ≤ e then cutQ t e else true) else false
def quS : List (Nat × Nat) → Nat
  | [] => 0
  | q :: t => q.2 + quS t
theorem quS_app (A T : List (Nat × Nat)) : quS (A ++ T) = quS A + quS T := by
  induction A with
  | nil => simp [quS]
  | cons p t ih => simp only [List.cons_append, quS, ih]; omega
def ls1 (T : kTs) (z : Option Nat) : Option Nat := match T with
  | [] => none
  | [(a, _)] => some a
  | _ => z
theorem ls1_eq {T : kTs} {z : Option Nat} (h : 2 ≤ T.length → lsA T = z) : ls1 T z = lsA T := by
  match T, h with
  | [], _ => rfl
  | [(a, p)], _ => rfl
  | a :: b :: t, h => exact (h (by simp)).symm
theorem pc_sub_le {a b : Nat} (ha : a < 2 ^ 30) (hb : b < 2 ^ 30) : nI a - nI b ≤ 0 ↔ a ≤ b := by
  rw [Int32.le_iff_toInt_le, pk_sub_toInt ha hb]
  show (a : Int) - b ≤ 0 ↔ _
  omega
theorem pc_shift {a b x : Nat} (h : b ≤ a + x) : nI a + (nI x - nI b) = nI (a + x - b) := by
  rw [← pk_sub h, ← nI_add, Int32.sub_eq_add_neg, Int32.sub_eq_add_neg, Int32.add_assoc]
section Tank
variable {l : Launch} {D : va_G} {σ : kS} {aJ tk t : Nat}
set_option maxRecDepth 100000 in
theorem c_X7_add (hl : l.stackTraces = false) {a cm wt : Nat} {x : Nat × Nat} {nx : Option Nat} {P : kTs} (ht : σ t = some (tE cm wt (hdA P) (lsA P))) (hP : gSeg tpE σ P none) (hn : (ad P).Nodup) (ha : σ a = some (tpE x nx)) (haP : a ∉ ad P) : kMh hX7_add l D yX7_add 1 0 0 [.ref t, .ref a] σ (fun v s2 => v = none ∧ s2 t = some (tE cm wt (hdA (P ++ [(a, x)])) (lsA (P ++ [(a, x)]))) ∧ gSeg tpE s2 (P ++ [(a, x)]) none ∧ kOut (fun b => b = t ∨ b = a ∨ b ∈ ad P) σ s2 ∧ kFr k47 σ s2) (fun _ => False) := by
  refine kM_of (L := [some (.ref t), some (.ref a)]) (by decide +kernel) hl (List.forall_mem_cons.mpr ⟨rfl, (List.forall_mem_cons.mpr ⟨rfl, (fun _ h => absurd h List.not_mem_nil)⟩)⟩) (Nat.le_of_ble_eq_true rfl) rfl ?_
  intro p e s m args below meth c B hr hex hnm
  have B : kB p l s m args meth c D (kA σ s.heap.size) 2 cX7_add RX7 := B
  have hta : t ≠ a := kNe ht ha (by decide)
  have ht2 := kUp_o (e := tpE x none) hta ht
  have hP2 : gSeg tpE (kUp σ a (tpE x none)) P none := gSeg_up hP haP
  rcases List.eq_nil_or_concat P with e0 | ⟨P0, b, e0⟩
  · subst e0
    refine k_aload_n B dX7_add_0 rfl (by first | exact kRf_r _ | exact kRf_q _ | exact kRf_n) ?_
    refine k_null B dX7_add_1 ?_
    refine pf_X7_7 B dX7_add_2 ha rfl (by first | exact kRf_r _ | exact kRf_q _ | exact kRf_n) ?_
    refine kK.eq (σ2 := kUp σ a (tpE x none)) rfl ?_
    refine k_aload_n B dX7_add_5 rfl (by first | exact kRf_r _ | exact kRf_q _ | exact kRf_n) ?_
    refine gf_X7_13 B dX7_add_6 ht2 rfl ?_
    refine k_ifnonnullN B 20 dX7_add_9 (by decide) ?_
    refine k_aload_n B dX7_add_12 rfl (by first | exact kRf_r _ | exact kRf_q _ | exact kRf_n) ?_
    refine k_aload_n B dX7_add_13 rfl (by first | exact kRf_r _ | exact kRf_q _ | exact kRf_n) ?_
    refine pf_X7_18 B dX7_add_14 ht2 rfl (by first | exact kRf_r _ | exact kRf_q _ | exact kRf_n) ?_
    refine k_goto B 28 dX7_add_17 (by decide) ?_
    refine k_aload_n B dX7_add_28 rfl (by first | exact kRf_r _ | exact kRf_q _ | exact kRf_n) ?_
    refine k_aload_n B dX7_add_29 rfl (by first | exact kRf_r _ | exact kRf_q _ | exact kRf_n) ?_
    refine pf_X7_13 B dX7_add_30 kUp_eq rfl (by first | exact kRf_r _ | exact kRf_q _ | exact kRf_n) ?_
    refine k_vret B hr dX7_add_33 ?_ (by first | exact Nat.le_of_ble_eq_true rfl | omega | (simp only [kR, Value.category, kCat_q, List.map, List.sum_cons, List.sum_nil]; omega)) (by first | exact Nat.le_of_ble_eq_true rfl | omega | (simp only [kR, Value.category, kCat_q, List.map, List.sum_cons, List.sum_nil]; omega))
    exact ⟨rfl, kUp_eq, ⟨by rw [kUp_uu]; exact kUp_o (Ne.symm hta) kUp_eq, trivial⟩, (kOut.up (Or.inr (Or.inl rfl))).tr ((kOut.up (Or.inl rfl)).tr (kOut.up (Or.inl rfl))), (kFr.up ha (Or.inl rfl)).tr ((kFr.up ht2 (Or.inr rfl)).tr (kFr.up kUp_eq (Or.inr rfl)))⟩
  · obtain ⟨b, pb⟩ := b
    rw [List.concat_eq_append] at e0
    have hls : lsA P = some b := by rw [e0]; exact lsA_snoc _ _ _
    rw [hls] at ht2
    rw [e0] at hP2
    obtain ⟨g1, g2⟩ := gSeg_app.mp hP2
    have hb2 := g2.1
    have hbt : b ≠ t := kNe hb2 ht2 (by decide)
    have hbP : b ∈ ad P := by rw [e0, ad_app]; simp [ad]
    have hba : b ≠ a := fun h => haP (h ▸ hbP)
    have hnb : b ∉ ad P0 := by
      rw [e0, ad_app] at hn
      exact fun h => (List.nodup_append.mp hn).2.2 b h b (by simp [ad]) rfl
    refine k_aload_n B dX7_add_0 rfl (by first | exact kRf_r _ | exact kRf_q _ | exact kRf_n) ?_
    refine k_null B dX7_add_1 ?_
    refine pf_X7_7 B dX7_add_2 ha rfl (by first | exact kRf_r _ | exact kRf_q _ | exact kRf_n) ?_
    refine kK.eq (σ2 := kUp σ a (tpE x none)) rfl ?_
    refine k_aload_n B dX7_add_5 rfl (by first | exact kRf_r _ | exact kRf_q _ | exact kRf_n) ?_
    refine gf_X7_13 B dX7_add_6 ht2 rfl ?_
    refine k_ifnonnullR B 20 dX7_add_9 (by decide) ?_
    refine k_aload_n B dX7_add_20 rfl (by first | exact kRf_r _ | exact kRf_q _ | exact kRf_n) ?_
    refine gf_X7_13 B dX7_add_21 ht2 rfl ?_
    refine k_aload_n B dX7_add_24 rfl (by first | exact kRf_r _ | exact kRf_q _ | exact kRf_n) ?_
    refine pf_X7_7 B dX7_add_25 hb2 rfl (by first | exact kRf_r _ | exact kRf_q _ | exact kRf_n) ?_
    refine k_aload_n B dX7_add_28 rfl (by first | exact kRf_r _ | exact kRf_q _ | exact kRf_n) ?_
    refine k_aload_n B dX7_add_29 rfl (by first | exact kRf_r _ | exact kRf_q _ | exact kRf_n) ?_
    refine pf_X7_13 B dX7_add_30 (kUp_o (Ne.symm hbt) ht2) rfl (by first | exact kRf_r _ | exact kRf_q _ | exact kRf_n) ?_
    refine k_vret B hr dX7_add_33 ?_ (by first | exact Nat.le_of_ble_eq_true rfl | omega | (simp only [kR, Value.category, kCat_q, List.map, List.sum_cons, List.sum_nil]; omega)) (by first | exact Nat.le_of_ble_eq_true rfl | omega | (simp only [kR, Value.category, kCat_q, List.map, List.sum_cons, List.sum_nil]; omega))
    have hs : gSeg tpE (kUp (kUp σ a (tpE x none)) b (tpE pb (some a))) (P ++ [(a, x)]) none := gSeg_snoc (by
      rw [e0]
      exact gSeg_app.mpr ⟨gSeg_up g1 hnb, kUp_eq, trivial⟩) (kUp_o (Ne.symm hba) kUp_eq)
    refine ⟨rfl, ?_, ?_, (kOut.up (Or.inr (Or.inl rfl))).tr ((kOut.up (Or.inr (Or.inr hbP))).tr (kOut.up (Or.inl rfl))), (kFr.up ha (Or.inl rfl)).tr ((kFr.up hb2 (Or.inl rfl)).tr (kFr.up (kUp_o (Ne.symm hbt) ht2) (Or.inr rfl)))⟩
    · rw [kUp_eq, lsA_snoc, e0]
      cases P0 <;> rfl
    · refine gSeg_keep hs (fun a2 ha2 y hy => kUp_o (fun h => ?_) hy)
      subst h
      obtain ⟨p1, y1, h1⟩ := gSeg_adr hs ha2
      rw [kUp_o (Ne.symm hbt) ht2] at h1
      cases h1
set_option maxRecDepth 100000 in
theorem c_X7_startAt (hl : l.stackTraces = false) {cm wt : Nat} {f z : Option Nat} {P : kTs} (ht : σ t = some (tE cm wt f z)) (hP : gSeg tpE σ P none) : kMh hX7_startAt l D yX7_startAt 1 0 0 [.ref t, va_rf (hdA P)] σ (fun v s2 => v = none ∧ s2 = kUp σ t (tE cm wt (hdA P) (ls1 P z))) (fun _ => False) := by
  refine kM_of (L := [some (.ref t), some (va_rf (hdA P))]) (by decide +kernel) hl (List.forall_mem_cons.mpr ⟨rfl, (List.forall_mem_cons.mpr ⟨kCat_q _, (fun _ h => absurd h List.not_mem_nil)⟩)⟩) (Nat.le_of_ble_eq_true rfl) rfl ?_
  intro p e s m args below meth c B hr hex hnm
  have B : kB p l s m args meth c D (kA σ s.heap.size) 2 cX7_startAt RX7 := B
  match P, hP with
  | [], _ =>
    refine k_aload_n B dX7_startAt_0 rfl (by first | exact kRf_r _ | exact kRf_q _ | exact kRf_n) ?_
    refine k_aload_n B dX7_startAt_1 rfl (by first | exact kRf_r _ | exact kRf_q _ | exact kRf_n) ?_
    refine pf_X7_18 B dX7_startAt_2 ht rfl (by first | exact kRf_r _ | exact kRf_q _ | exact kRf_n) ?_
    refine k_aload_n B dX7_startAt_5 rfl (by first | exact kRf_r _ | exact kRf_q _ | exact kRf_n) ?_
    refine k_ifnonnullN B 17 dX7_startAt_6 (by decide) ?_
    refine k_aload_n B dX7_startAt_9 rfl (by first | exact kRf_r _ | exact kRf_q _ | exact kRf_n) ?_
    refine k_null B dX7_startAt_10 ?_
    refine pf_X7_13 B dX7_startAt_11 kUp_eq rfl (by first | exact kRf_r _ | exact kRf_q _ | exact kRf_n) ?_
    refine k_goto B 29 dX7_startAt_14 (by decide) ?_
    refine k_vret B hr dX7_startAt_29 ?_ (by first | exact Nat.le_of_ble_eq_true rfl | omega | (simp only [kR, Value.category, kCat_q, List.map, List.sum_cons, List.sum_nil]; omega)) (by first | exact Nat.le_of_ble_eq_true rfl | omega | (simp only [kR, Value.category, kCat_q, List.map, List.sum_cons, List.sum_nil]; omega))
    exact ⟨rfl, by rw [kUp_uu]; rfl⟩
  | [(a, p1)], hP =>
    have hat : a ≠ t := kNe hP.1 ht (by decide)
    refine k_aload_n B dX7_startAt_0 rfl (by first | exact kRf_r _ | exact kRf_q _ | exact kRf_n) ?_
    refine k_aload_n B dX7_startAt_1 rfl (by first | exact kRf_r _ | exact kRf_q _ | exact kRf_n) ?_
    refine pf_X7_18 B dX7_startAt_2 ht rfl (by first | exact kRf_r _ | exact kRf_q _ | exact kRf_n) ?_
    refine k_aload_n B dX7_startAt_5 rfl (by first | exact kRf_r _ | exact kRf_q _ | exact kRf_n) ?_
    refine k_ifnonnullR B 17 dX7_startAt_6 (by decide) ?_
    refine k_aload_n B dX7_startAt_17 rfl (by first | exact kRf_r _ | exact kRf_q _ | exact kRf_n) ?_
    refine gf_X7_7 B dX7_startAt_18 (kUp_o hat hP.1) rfl ?_
    refine k_ifnonnullN B 29 dX7_startAt_21 (by decide) ?_
    refine k_aload_n B dX7_startAt_24 rfl (by first | exact kRf_r _ | exact kRf_q _ | exact kRf_n) ?_
    refine k_aload_n B dX7_startAt_25 rfl (by first | exact kRf_r _ | exact kRf_q _ | exact kRf_n) ?_
    refine pf_X7_13 B dX7_startAt_26 kUp_eq rfl (by first | exact kRf_r _ | exact kRf_q _ | exact kRf_n) ?_
    refine k_vret B hr dX7_startAt_29 ?_ (by first | exact Nat.le_of_ble_eq_true rfl | omega | (simp only [kR, Value.category, kCat_q, List.map, List.sum_cons, List.sum_nil]; omega)) (by first | exact Nat.le_of_ble_eq_true rfl | omega | (simp only [kR, Value.category, kCat_q, List.map, List.sum_cons, List.sum_nil]; omega))
    exact ⟨rfl, by rw [kUp_uu]; rfl⟩
  | (a, p1) :: (b, p2) :: r, hP =>
    have hat : a ≠ t := kNe hP.1 ht (by decide)
    refine k_aload_n B dX7_startAt_0 rfl (by first | exact kRf_r _ | exact kRf_q _ | exact kRf_n) ?_
    refine k_aload_n B dX7_startAt_1 rfl (by first | exact kRf_r _ | exact kRf_q _ | exact kRf_n) ?_
    refine pf_X7_18 B dX7_startAt_2 ht rfl (by first | exact kRf_r _ | exact kRf_q _ | exact kRf_n) ?_
    refine k_aload_n B dX7_startAt_5 rfl (by first | exact kRf_r _ | exact kRf_q _ | exact kRf_n) ?_
    refine k_ifnonnullR B 17 dX7_startAt_6 (by decide) ?_
    refine k_aload_n B dX7_startAt_17 rfl (by first | exact kRf_r _ | exact kRf_q _ | exact kRf_n) ?_
    refine gf_X7_7 B dX7_startAt_18 (kUp_o hat hP.1) rfl ?_
    refine k_ifnonnullR B 29 dX7_startAt_21 (by decide) ?_
    refine k_vret B hr dX7_startAt_29 ?_ (by first | exact Nat.le_of_ble_eq_true rfl | omega | (simp only [kR, Value.category, kCat_q, List.map, List.sum_cons, List.sum_nil]; omega)) (by first | exact Nat.le_of_ble_eq_true rfl | omega | (simp only [kR, Value.category, kCat_q, List.map, List.sum_cons, List.sum_nil]; omega))
    exact ⟨rfl, rfl⟩
set_option maxRecDepth 100000 in
theorem c_X1_tankAt (hl : l.stackTraces = false) {f z sp : Option Nat} {i : Nat} {ft : Nat → Option Nat} (hJ : σ aJ = some (jE tk f z sp)) (hT : σ tk = some (.inl (D.1 18, 10, .inr (.inr (.inr (.inr ft)))))) (hi : i < 10) : kMh hX1_tankAt l D yX1_tankAt 1 0 0 [.ref aJ, .int (nI i)] σ (fun v s2 => v = some (va_rf (ft i)) ∧ s2 = σ) (fun _ => False) := by
  refine kM_of (L := [some (.ref aJ), some (.int (nI i))]) (by decide +kernel) hl (List.forall_mem_cons.mpr ⟨rfl, (List.forall_mem_cons.mpr ⟨rfl, (fun _ h => absurd h List.not_mem_nil)⟩)⟩) (Nat.le_of_ble_eq_true rfl) rfl ?_
  intro p e s m args below meth c B hr hex hnm
  have B : kB p l s m args meth c D (kA σ s.heap.size) 2 cX1_tankAt RX1 := B
  refine k_iload_n B dX1_tankAt_0 rfl ?_
  refine k_if_lt B 10 dX1_tankAt_1 (by decide) (fun c1 => ?_) (fun c1 => ?_)
  · exact absurd c1 (nI_pos (by omega))
  · refine k_iload_n B dX1_tankAt_4 rfl ?_
    refine k_bipush B (v := 10) dX1_tankAt_5 (by decide) ?_
    refine k_icmp_lt B 14 dX1_tankAt_7 (by decide) (fun c7 => ?_) (fun c7 => ?_)
    · refine k_aload_n B dX1_tankAt_14 rfl (by first | exact kRf_r _ | exact kRf_q _ | exact kRf_n) ?_
      refine gf_X1_11 B dX1_tankAt_15 hJ rfl ?_
      refine k_iload_n B dX1_tankAt_18 rfl ?_
      refine k_aald B (ti := 7) (C := RX7) rfl dX1_tankAt_19 hT (vp_in_nI hi (by omega)) ?_
      refine kK.rev (y := va_rf (ft i)) (by rw [nI_clamp (by omega)]) ?_
      refine k_aret B hr ⟨_, rfl⟩ dX1_tankAt_20 (by first | exact kRf_r _ | exact kRf_q _ | exact kRf_n) ?_ (by first | exact Nat.le_of_ble_eq_true rfl | omega | (simp only [kR, Value.category, kCat_q, List.map, List.sum_cons, List.sum_nil]; omega)) (by first | exact Nat.le_of_ble_eq_true rfl | omega | (simp only [kR, Value.category, kCat_q, List.map, List.sum_cons, List.sum_nil]; omega))
      exact ⟨rfl, rfl⟩
    · exact absurd (show nI i < nI 10 from (nI_ltI (by omega) (by omega)).mpr hi) c7
set_option maxRecDepth 100000 in
theorem c_X1_tankAtN (hl : l.stackTraces = false) {x : Int32} (hx : x < 0 ∨ 10 ≤ x) : kMh hX1_tankAt l D yX1_tankAt 1 0 0 [.ref aJ, .int x] σ (fun v s2 => v = some .null ∧ s2 = σ) (fun _ => False) := by
  refine kM_of (L := [some (.ref aJ), some (.int x)]) (by decide +kernel) hl (List.forall_mem_cons.mpr ⟨rfl, (List.forall_mem_cons.mpr ⟨rfl, (fun _ h => absurd h List.not_mem_nil)⟩)⟩) (Nat.le_of_ble_eq_true rfl) rfl ?_
  intro p e s m args below meth c B hr hex hnm
  have B : kB p l s m args meth c D (kA σ s.heap.size) 2 cX1_tankAt RX1 := B
  have no : kK p l e (kR 1 0 0) s m args below meth c D (kA σ s.heap.size) 2 (kQ below args s D σ (fun v s2 => v = some .null ∧ s2 = σ) (fun _ => False) 0 0) σ 0 0 10 [some (.ref aJ), some (.int x)] [] := by
    refine k_null B dX1_tankAt_10 ?_
    refine k_goto B 20 dX1_tankAt_11 (by decide) ?_
    refine k_aret B hr ⟨_, rfl⟩ dX1_tankAt_20 (by first | exact kRf_r _ | exact kRf_q _ | exact kRf_n) ?_ (by first | exact Nat.le_of_ble_eq_true rfl | omega | (simp only [kR, Value.category, kCat_q, List.map, List.sum_cons, List.sum_nil]; omega)) (by first | exact Nat.le_of_ble_eq_true rfl | omega | (simp only [kR, Value.category, kCat_q, List.map, List.sum_cons, List.sum_nil]; omega))
    exact ⟨rfl, rfl⟩
  refine k_iload_n B dX1_tankAt_0 rfl ?_
  refine k_if_lt B 10 dX1_tankAt_1 (by decide) (fun c1 => ?_) (fun c1 => ?_)
  · exact no
  · refine k_iload_n B dX1_tankAt_4 rfl ?_
    refine k_bipush B (v := 10) dX1_tankAt_5 (by decide) ?_
    refine k_icmp_lt B 14 dX1_tankAt_7 (by decide) (fun c7 => ?_) (fun c7 => ?_)
    · rcases hx with h | h
      · exact absurd h c1
      · exact absurd h (i32_lt_nle c7)
    · exact no
set_option maxRecDepth 100000 in
theorem c_X1_cut0 (hl : l.stackTraces = false) {a e0 : Nat} {q : Nat × Nat} {nx : Option Nat} (ha : σ a = some (tpE q nx)) (h1 : q.1 + q.2 ≤ e0) (h2 : e0 < 2 ^ 30) : kMh hX1_cut l D yX1_cut 3 0 0 [.ref aJ, .ref a, .int (nI e0)] σ (fun v s2 => v = some (va_rf nx) ∧ s2 = σ) (fun _ => False) := by
  refine kM_of (L := [some (.ref aJ), some (.ref a), some (.int (nI e0)), none, none]) (by decide +kernel) hl (List.forall_mem_cons.mpr ⟨rfl, (List.forall_mem_cons.mpr ⟨rfl, (List.forall_mem_cons.mpr ⟨rfl, (fun _ h => absurd h List.not_mem_nil)⟩)⟩)⟩) (Nat.le_of_ble_eq_true rfl) rfl ?_
  intro p e s m args below meth c B hr hex hnm
  have B : kB p l s m args meth c D (kA σ s.heap.size) 5 cX1_cut RX1 := B
  refine k_aload_n B dX1_cut_0 rfl (by first | exact kRf_r _ | exact kRf_q _ | exact kRf_n) ?_
  refine gf_X1_85 B dX1_cut_1 ha rfl ?_
  refine k_aload_n B dX1_cut_4 rfl (by first | exact kRf_r _ | exact kRf_q _ | exact kRf_n) ?_
  refine gf_X1_92 B dX1_cut_5 ha rfl ?_
  refine k_iadd B dX1_cut_8 ?_
  refine kK.rei (y := nI (q.1 + q.2)) (nI_add _ _) ?_
  refine k_iload_n B dX1_cut_9 rfl ?_
  refine k_isub B dX1_cut_10 ?_
  refine k_istore_n B dX1_cut_11 (by decide) ?_
  try refine kK.set1 (by first | exact True.intro | rfl | exact kCat_q _) ?_
  refine k_iload_n B dX1_cut_12 rfl ?_
  refine k_if_gt B 21 dX1_cut_13 (by decide) (fun c13 => ?_) (fun c13 => ?_)
  · exact absurd ((pc_sub_le (by omega) h2).mpr h1) (i32_lt_nle c13)
  · refine k_aload_n B dX1_cut_16 rfl (by first | exact kRf_r _ | exact kRf_q _ | exact kRf_n) ?_
    refine gf_X1_57 B dX1_cut_17 ha rfl ?_
    refine k_aret B hr ⟨_, rfl⟩ dX1_cut_20 (by first | exact kRf_r _ | exact kRf_q _ | exact kRf_n) ?_ (by first | exact Nat.le_of_ble_eq_true rfl | omega | (simp only [kR, Value.category, kCat_q, List.map, List.sum_cons, List.sum_nil]; omega)) (by first | exact Nat.le_of_ble_eq_true rfl | omega | (simp only [kR, Value.category, kCat_q, List.map, List.sum_cons, List.sum_nil]; omega))
    exact ⟨rfl, rfl⟩
def ctP (σ : kS) (aJ tk : Nat) (f z : Option Nat) (SP : kQs) (a e0 : Nat) (q : Nat × Nat) (nx : Option Nat) (v : Option Value) (s2 : kS) : Prop := ∃ (b : Nat) (SP2 : kQs), v = some (.ref b) ∧ s2 aJ = some (jE tk f z (hdA SP2)) ∧ gSeg pcE s2 SP2 none ∧ s2 a = some (tpE (q.1, e0 - q.1) nx) ∧ s2 b = some (tpE (e0, q.1 + q.2 - e0) nx) ∧ b ≠ a ∧ kOut (fun x => x = aJ ∨ x = a ∨ x ∈ ad SP) σ s2 ∧ ((SP = [] ∧ SP2 = [] ∧ σ b = none) ∨ ∃ q, SP = (b, q) :: SP2) ∧ kFr k14 σ s2
set_option maxRecDepth 100000 in
theorem c_X1_cut1 (hl : l.stackTraces = false) {a e0 : Nat} {q : Nat × Nat} {nx f z : Option Nat} {SP : kQs} (hJ : σ aJ = some (jE tk f z (hdA SP))) (hs : gSeg pcE σ SP none) (hn : (ad SP).Nodup) (ha : σ a = some (tpE q nx)) (haS : a ∉ ad SP) (h0 : q.1 ≤ e0) (h1 : e0 < q.1 + q.2) (h2 : q.1 + q.2 < 2 ^ 30) : kMh hX1_cut l D yX1_cut 3 (spN SP) (3 * spN SP) [.ref aJ, .ref a, .int (nI e0)] σ (ctP σ aJ tk f z SP a e0 q nx) (fun _ => False) := by
  refine kM_of (L := [some (.ref aJ), some (.ref a), some (.int (nI e0)), none, none]) (by decide +kernel) hl (List.forall_mem_cons.mpr ⟨rfl, (List.forall_mem_cons.mpr ⟨rfl, (List.forall_mem_cons.mpr ⟨rfl, (fun _ h => absurd h List.not_mem_nil)⟩)⟩)⟩) (Nat.le_of_ble_eq_true rfl) rfl ?_
  intro p e s m args below meth c B hr hex hnm
  have B : kB p l s m args meth c D (kA σ s.heap.size) 5 cX1_cut RX1 := B
  refine k_aload_n B dX1_cut_0 rfl (by first | exact kRf_r _ | exact kRf_q _ | exact kRf_n) ?_
  refine gf_X1_85 B dX1_cut_1 ha rfl ?_
  refine k_aload_n B dX1_cut_4 rfl (by first | exact kRf_r _ | exact kRf_q _ | exact kRf_n) ?_
  refine gf_X1_92 B dX1_cut_5 ha rfl ?_
  refine k_iadd B dX1_cut_8 ?_
  refine kK.rei (y := nI (q.1 + q.2)) (nI_add _ _) ?_
  refine k_iload_n B dX1_cut_9 rfl ?_
  refine k_isub B dX1_cut_10 ?_
  refine kK.rei (y := nI (q.1 + q.2 - e0)) (pk_sub (by omega)) ?_
  refine k_istore_n B dX1_cut_11 (by decide) ?_
  try refine kK.set1 (by first | exact True.intro | rfl | exact kCat_q _) ?_
  refine k_iload_n B dX1_cut_12 rfl ?_
  refine k_if_gt B 21 dX1_cut_13 (by decide) (fun c13 => ?_) (fun c13 => ?_)
  · refine k_aload_n B dX1_cut_21 rfl (by first | exact kRf_r _ | exact kRf_q _ | exact kRf_n) ?_
    refine k_iload_n B dX1_cut_22 rfl ?_
    refine k_iload_n B dX1_cut_23 rfl ?_
    refine cl_X1_74 B (c_X1_newPiece hl hJ hs hn) hJ dX1_cut_24 (by first | exact Nat.le_of_ble_eq_true rfl | omega | (simp only [kR, Value.category, kCat_q, List.map, List.sum_cons, List.sum_nil]; omega)) (by first | exact Nat.le_of_ble_eq_true rfl | omega | (simp only [kR, Value.category, kCat_q, List.map, List.sum_cons, List.sum_nil]; omega)) (by first | exact Nat.le_of_ble_eq_true rfl | omega | (simp only [kR, Value.category, kCat_q, List.map, List.sum_cons, List.sum_nil]; omega)) (by first | exact Nat.le_of_ble_eq_true rfl | omega | (simp only [kR, Value.category, kCat_q, List.map, List.sum_cons, List.sum_nil]; omega)) (by first | exact Nat.le_of_ble_eq_true rfl | omega | (simp only [kR, Value.category, kCat_q, List.map, List.sum_cons, List.sum_nil]; omega)) (fun _ hx => hx.elim) (fun v24 s24 hp24 => ?_)
    obtain ⟨b, SP2, nx2, rfl, g1, g2, g3, g4, g5, g6⟩ := hp24
    have haJ : a ≠ aJ := kNe ha hJ (by decide)
    have ha2 := g4 a _ ha (fun h => h.elim haJ haS)
    have hba : b ≠ a := by
      rcases g5 with ⟨e1, e2, e3⟩ | ⟨q2, e1⟩
      · exact fun h => by rw [h, ha] at e3; cases e3
      · exact fun h => haS (by rw [e1, ← h]; simp [ad])
    have hbJ : b ≠ aJ := kNe g3 g1 (by decide)
    refine k_astore B dX1_cut_27 (by decide) (by first | exact kRf_r _ | exact kRf_q _ | exact kRf_n) ?_
    try refine kK.set1 (by first | exact True.intro | rfl | exact kCat_q _) ?_
    refine k_aload B dX1_cut_29 rfl (by first | exact kRf_r _ | exact kRf_q _ | exact kRf_n) ?_
    refine k_aload_n B dX1_cut_31 rfl (by first | exact kRf_r _ | exact kRf_q _ | exact kRf_n) ?_
    refine gf_X1_57 B dX1_cut_32 ha2 rfl ?_
    refine pf_X1_57 B dX1_cut_35 g3 rfl (by first | exact kRf_r _ | exact kRf_q _ | exact kRf_n) ?_
    refine k_aload_n B dX1_cut_38 rfl (by first | exact kRf_r _ | exact kRf_q _ | exact kRf_n) ?_
    refine k_dup B dX1_cut_39 rfl ?_
    refine gf_X1_92 B dX1_cut_40 (kUp_o (Ne.symm hba) ha2) rfl ?_
    refine k_iload_n B dX1_cut_43 rfl ?_
    refine k_isub B dX1_cut_44 ?_
    refine kK.rei (y := nI (e0 - q.1)) (by rw [pk_sub (by omega)]; congr 1; omega) ?_
    refine pf_X1_92 B dX1_cut_45 (kUp_o (Ne.symm hba) ha2) rfl ?_
    refine k_aload B dX1_cut_48 rfl (by first | exact kRf_r _ | exact kRf_q _ | exact kRf_n) ?_
    refine k_aret B hr ⟨_, rfl⟩ dX1_cut_50 (by first | exact kRf_r _ | exact kRf_q _ | exact kRf_n) ?_ (by first | exact Nat.le_of_ble_eq_true rfl | omega | (simp only [kR, Value.category, kCat_q, List.map, List.sum_cons, List.sum_nil]; omega)) (by first | exact Nat.le_of_ble_eq_true rfl | omega | (simp only [kR, Value.category, kCat_q, List.map, List.sum_cons, List.sum_nil]; omega))
    have hbS : b ∉ ad SP2 := by
      rcases g5 with ⟨e1, e2, e3⟩ | ⟨q2, e1⟩
      · rw [e2]; simp [ad]
      · rw [e1] at hn
        exact (List.nodup_cons.mp hn).1
    have haS2 : a ∉ ad SP2 := by
      rcases g5 with ⟨e1, e2, e3⟩ | ⟨q2, e1⟩
      · rw [e2]; simp [ad]
      · exact fun h => haS (by rw [e1]; exact List.mem_cons_of_mem _ h)
    refine ⟨b, SP2, rfl, kUp_o (Ne.symm haJ) (kUp_o (Ne.symm hbJ) g1), gSeg_up (gSeg_up g2 hbS) haS2, kUp_eq, kUp_o hba kUp_eq, hba, ?_, g5, ?_⟩
    · intro x y hx hX
      have hx2 := g4 x y hx (fun h => hX (h.elim Or.inl (fun h => Or.inr (Or.inr h))))
      refine kUp_o (fun h => hX (Or.inr (Or.inl h))) (kUp_o (fun h => ?_) hx2)
      rcases g5 with ⟨e1, e2, e3⟩ | ⟨q2, e1⟩
      · rw [← h, hx] at e3; cases e3
      · exact hX (Or.inr (Or.inr (by rw [e1, h]; simp [ad])))
    · exact g6.tr ((kFr.up g3 (Or.inr rfl)).tr (kFr.up (kUp_o (Ne.symm hba) ha2) (Or.inr rfl)))
  · exact absurd (show nI (q.1 + q.2 - e0) ≤ 0 from i32_nlt c13) (nI_nle (by omega) (by omega))
end Tank
