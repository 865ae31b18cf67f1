/-- what a move leaves -/
def mvO (D : va_G) (aM : Nat) (ma : Nat → Nat) (mv : Nat → Nat → Int32) (q : kQc) (kn : Nat) (Lk : Nat → kPs) (r d w : Nat) (σ : kS) (v : Option Value) (s2 : kS) : Prop :=
  v = none ∧ (∃ (mv2 : Nat → Nat → Int32) (kn2 : Nat) (Lk2 : Nat → kPs), mI D aM ma mv2 (setKn q (nI kn2)) s2 ∧ mL kn2 Lk2 mv2 ∧ kn2 ≤ kn + 1 ∧ (∀ i, i ≠ r → i ≠ d → Lk2 i = Lk i) ∧ kCon (Lk2 r) = (tkS (kCon (Lk r)) w).2 ∧ kCon (Lk2 d) = kCon (Lk d) ++ (tkS (kCon (Lk r)) w).1 ∧ ∀ a i, ¬ (7 ≤ a ∧ a ≤ 9) ∧ ¬ (11 ≤ a ∧ a ≤ 16) → mv2 a i = mv a i) ∧ kOut (mOwn aM ma) σ s2
section Kn3
variable {l : Launch} {D : va_G} {σ : kS} {aM : Nat} {ma : Nat → Nat} {mv : Nat → Nat → Int32} {q : kQc} {kn : Nat} {Lk : Nat → kPs}
set_option maxRecDepth 100000 in
theorem c_X10_moves (hl : l.stackTraces = false) (h : mI D aM ma mv q σ) (hq : q.1.2.1 = nI kn) (hkn : kn < 6200) (hL : mL kn Lk mv) {r d w : Nat} (hr5 : r < 51) (hd5 : d < 51) (hrd : r ≠ d) (hun : unS (kCon (Lk r)) < 2 ^ 31) (hu1 : ∀ p ∈ kCon (Lk r), 1 ≤ kUn p) (hwu : w ≤ unS (kCon (Lk r))) : kMh hX10_moves l D yX10_moves 3 0 0 [.ref aM, .int (nI r), .int (nI d), .int (nI w)] σ (mvO D aM ma mv q kn Lk r d w σ) (fun _ => False) := by
  refine kM_of (L := [some (.ref aM), some (.int (nI r)), some (.int (nI d)), some (.int (nI w)), none, none]) (by decide +kernel) hl (List.forall_mem_cons.mpr ⟨rfl, (List.forall_mem_cons.mpr ⟨rfl, (List.forall_mem_cons.mpr ⟨rfl, (List.forall_mem_cons.mpr ⟨rfl, (fun _ h => absurd h List.not_mem_nil)⟩)⟩)⟩)⟩) (Nat.le_of_ble_eq_true rfl) rfl ?_
  intro p e s m args below meth c B hr hex hnm
  have B : kB p l s m args meth c D (kA σ s.heap.size) 6 cX10_moves RX10 := B
  have loop : ∀ (n left : Nat) (mv1 : Nat → Nat → Int32) (kn1 : Nat) (Lk1 : Nat → kPs) (s1 : kS), left ≤ n → mI D aM ma mv1 (setKn q (nI kn1)) s1 → mL kn1 Lk1 mv1 → (kn1 = kn ∨ kn1 = kn + 1 ∧ left = 0) → (∀ i, i ≠ r → i ≠ d → Lk1 i = Lk i) → unS (kCon (Lk1 r)) < 2 ^ 31 → (∀ p ∈ kCon (Lk1 r), 1 ≤ kUn p) → left ≤ unS (kCon (Lk1 r)) → (tkS (kCon (Lk1 r)) left).2 = (tkS (kCon (Lk r)) w).2 → kCon (Lk1 d) ++ (tkS (kCon (Lk1 r)) left).1 = kCon (Lk d) ++ (tkS (kCon (Lk r)) w).1 → (∀ a i, ¬ (7 ≤ a ∧ a ≤ 9) ∧ ¬ (11 ≤ a ∧ a ≤ 16) → mv1 a i = mv a i) → kOut (mOwn aM ma) σ s1 →
      kK p l e (kR 3 0 0) s m args below meth c D (kA σ s.heap.size) 6 (kQ below args s D σ (mvO D aM ma mv q kn Lk r d w σ) (fun _ => False) 0 0) s1 0 0 3 [some (.ref aM), some (.int (nI r)), some (.int (nI d)), some (.int (nI w)), some (.int (nI left)), none] [] := by
    intro n
    induction n with
    | zero =>
      intro left mv1 kn1 Lk1 s1 hn h1 hL1 hk1 hi1 hun1 hu11 hwu1 t1 t2 hm1 f1
      have h0 : left = 0 := by omega
      subst h0
      refine k_iload B dX10_moves_3 rfl ?_
      refine k_if_le B 39 dX10_moves_5 (by decide) (fun c5 => ?_) (fun c5 => ?_)
      · refine k_vret B hr dX10_moves_39 ?_ (by first | exact Nat.le_of_ble_eq_true rfl | omega | (simp only [kR, Value.category, kCat_q, List.map, List.sum_cons, List.sum_nil]; omega)) (by first | exact Nat.le_of_ble_eq_true rfl | omega | (simp only [kR, Value.category, kCat_q, List.map, List.sum_cons, List.sum_nil]; omega))
        rw [tkS_0 hu11] at t1 t2
        exact ⟨rfl, ⟨mv1, kn1, Lk1, h1, hL1, by omega, hi1, t1, by rw [← t2]; exact (List.append_nil _).symm, hm1⟩, f1⟩
      · exact absurd (show nI 0 ≤ 0 by rw [nI_0]; exact Int32.le_refl _) c5
    | succ n ih =>
      intro left mv1 kn1 Lk1 s1 hn h1 hL1 hk1 hi1 hun1 hu11 hwu1 t1 t2 hm1 f1
      refine k_iload B dX10_moves_3 rfl ?_
      refine k_if_le B 39 dX10_moves_5 (by decide) (fun c5 => ?_) (fun c5 => ?_)
      · rename_i c5
        have h0 : left = 0 := nI_le0 (by omega) c5
        subst h0
        refine k_vret B hr dX10_moves_39 ?_ (by first | exact Nat.le_of_ble_eq_true rfl | omega | (simp only [kR, Value.category, kCat_q, List.map, List.sum_cons, List.sum_nil]; omega)) (by first | exact Nat.le_of_ble_eq_true rfl | omega | (simp only [kR, Value.category, kCat_q, List.map, List.sum_cons, List.sum_nil]; omega))
        rw [tkS_0 hu11] at t1 t2
        exact ⟨rfl, ⟨mv1, kn1, Lk1, h1, hL1, by omega, hi1, t1, by rw [← t2]; exact (List.append_nil _).symm, hm1⟩, f1⟩
      · rename_i c5
        have h0 : 1 ≤ left := by
          have : left ≠ 0 := fun q => c5 (by rw [q, nI_0]; exact Int32.le_refl _)
          omega
        have hkk : kn1 = kn := by omega
        subst hkk
        refine k_aload_n B dX10_moves_8 rfl (by first | exact kRf_r _ | exact kRf_q _ | exact kRf_n) ?_
        refine k_iload_n B dX10_moves_9 rfl ?_
        refine k_iload B dX10_moves_10 rfl ?_
        refine cl_X10_123 B (c_X10_takesOff hl h1 rfl hkn hL1 hr5 h0 (by omega) hun1 hu11 hwu1) h1.o dX10_moves_12 (by first | exact Nat.le_of_ble_eq_true rfl | omega | (simp only [kR, Value.category, kCat_q, List.map, List.sum_cons, List.sum_nil]; omega)) (by first | exact Nat.le_of_ble_eq_true rfl | omega | (simp only [kR, Value.category, kCat_q, List.map, List.sum_cons, List.sum_nil]; omega)) (by first | exact Nat.le_of_ble_eq_true rfl | omega | (simp only [kR, Value.category, kCat_q, List.map, List.sum_cons, List.sum_nil]; omega)) (by first | exact Nat.le_of_ble_eq_true rfl | omega | (simp only [kR, Value.category, kCat_q, List.map, List.sum_cons, List.sum_nil]; omega)) (by first | exact Nat.le_of_ble_eq_true rfl | omega | (simp only [kR, Value.category, kCat_q, List.map, List.sum_cons, List.sum_nil]; omega)) (fun _ hx => hx.elim) (fun v12 s12 hp12 => ?_)
        obtain ⟨⟨mv2, kn2, k, T, pt, e12, m1, m2, m3, m4, m5, m6, m7, m8, m9, m10, m11, m12⟩, f12⟩ := hp12
        rw [e12]
        have hk6 : k < 6200 := by omega
        refine k_istore B dX10_moves_15 (by decide) ?_
        try refine kK.set1 (by first | exact True.intro | rfl | exact kCat_q _) ?_
        refine k_iload B dX10_moves_17 rfl ?_
        refine k_aload_n B dX10_moves_19 rfl (by first | exact kRf_r _ | exact kRf_q _ | exact kRf_n) ?_
        refine gf_X10_40 B dX10_moves_20 m1.o rfl ?_
        refine k_iload B dX10_moves_23 rfl ?_
        refine k_iald B dX10_moves_25 (m1.i (k := 12) rfl (by decide)) (vp_in_nI hk6 (by decide)) ?_
        refine kK.rei (y := nI (kUn pt)) (by rw [nI_clamp (by omega)]; exact m6.2.2.2.2) ?_
        refine k_isub B dX10_moves_26 ?_
        refine kK.rei (y := nI (left - kUn pt)) (pk_sub m8) ?_
        refine k_istore B dX10_moves_27 (by decide) ?_
        try refine kK.set1 (by first | exact True.intro | rfl | exact kCat_q _) ?_
        refine k_aload_n B dX10_moves_29 rfl (by first | exact kRf_r _ | exact kRf_q _ | exact kRf_n) ?_
        refine k_iload_n B dX10_moves_30 rfl ?_
        refine k_iload B dX10_moves_31 rfl ?_
        refine cl_X10_127 B (c_X10_appends hl m1 m2 (r := d) hd5 m4 (by omega) m6 m5) m1.o dX10_moves_33 (by first | exact Nat.le_of_ble_eq_true rfl | omega | (simp only [kR, Value.category, kCat_q, List.map, List.sum_cons, List.sum_nil]; omega)) (by first | exact Nat.le_of_ble_eq_true rfl | omega | (simp only [kR, Value.category, kCat_q, List.map, List.sum_cons, List.sum_nil]; omega)) (by first | exact Nat.le_of_ble_eq_true rfl | omega | (simp only [kR, Value.category, kCat_q, List.map, List.sum_cons, List.sum_nil]; omega)) (by first | exact Nat.le_of_ble_eq_true rfl | omega | (simp only [kR, Value.category, kCat_q, List.map, List.sum_cons, List.sum_nil]; omega)) (by first | exact Nat.le_of_ble_eq_true rfl | omega | (simp only [kR, Value.category, kCat_q, List.map, List.sum_cons, List.sum_nil]; omega)) (fun _ hx => hx.elim) (fun v33 s33 hp33 => ?_)
        obtain ⟨rfl, ⟨mv3, a1, a2, a3⟩, f33⟩ := hp33
        refine k_goto B 3 dX10_moves_36 (by decide) ?_
        have er : upN (upN Lk1 r T) d (upN Lk1 r T d ++ [(k, pt)]) r = T := by rw [upN_ne hrd, upN_eq]
        have ed : upN (upN Lk1 r T) d (upN Lk1 r T d ++ [(k, pt)]) d = Lk1 d ++ [(k, pt)] := by rw [upN_eq, upN_ne (Ne.symm hrd)]
        refine kK.sub (L2 := [some (.ref aM), some (.int (nI r)), some (.int (nI d)), some (.int (nI w)), some (.int (nI (left - kUn pt))), none]) ⟨Or.inr rfl, Or.inr rfl, Or.inr rfl, Or.inr rfl, Or.inr rfl, Or.inl rfl, trivial⟩ ?_
        refine ih (left - kUn pt) mv3 kn2 (upN (upN Lk1 r T) d (upN Lk1 r T d ++ [(k, pt)])) _ (by omega) a1 a2 (m3.elim Or.inl (fun q => Or.inr ⟨q.1, by omega⟩)) (fun i hi hj => ?_) ?_ ?_ ?_ ?_ ?_ (fun a i ha => ?_) ((f1.tr f12).tr f33)
        · rw [upN_ne hj, upN_ne hi]; exact hi1 i hi hj
        · rw [er]; omega
        · rw [er]; exact m11
        · rw [er]; omega
        · rw [er, ← t1, m9]
        · rw [er, ed, ← t2, m9, kCon, List.map_append, List.append_assoc]; rfl
        · rw [a3 a i ⟨by omega, by omega⟩, m12 a i ha, hm1 a i ha]
  refine k_iload_n B dX10_moves_0 rfl ?_
  refine k_istore B dX10_moves_1 (by decide) ?_
  try refine kK.set1 (by first | exact True.intro | rfl | exact kCat_q _) ?_
  exact loop w w mv kn Lk σ (Nat.le_refl _) (by rw [setKn_s hq]; exact h) hL (Or.inl rfl) (fun i _ _ => rfl) hun hu1 hwu rfl rfl (fun a i _ => rfl) kOut.rf
end Kn3
