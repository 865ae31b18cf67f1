/-! ===== the reference's constructor ===== -/
theorem kK.gen {p : Program} {l : Launch} {e : Env} {R : Room} {s : State} {m : MethodId} {args : Array Value} {below : List Frame} {meth : Method} {c : Code} {D : va_G} {A : Nat → Prop} {nL : Nat} {Q : State → Prop} {σ : kS} {k n pc : Nat} {L : List (Option Value)} {S : List Value} {P : kS → Prop} (h : P σ) (kk : ∀ s2, P s2 → kK p l e R s m args below meth c D A nL Q s2 k n pc L S) : kK p l e R s m args below meth c D A nL Q σ k n pc L S := kk σ h
def mF (ma : Nat → Nat) (n k : Nat) : Value := if k < n then .ref (ma k) else .null
/-- the object while its arrays below n are made -/
def mXE (ma : Nat → Nat) (n : Nat) (sh : Int32) : va_E := .inr (10, [.int 0, mF ma n 1, mF ma n 2, mF ma n 3, mF ma n 4, mF ma n 5, mF ma n 6, mF ma n 7, mF ma n 8, mF ma n 9, .int 0, mF ma n 11, mF ma n 12, mF ma n 13, mF ma n 14, mF ma n 15, mF ma n 16, mF ma n 17, .int 0, mF ma n 19, mF ma n 20, mF ma n 21, .int 0, .int 0, .int 0, .int sh, .int 0, mF ma n 27, mF ma n 28, mF ma n 29, mF ma n 30, mF ma n 31, mF ma n 32, .int 0, .long 0, .long 0, .long 0, .long 0, .long 0, .int 0])
def b10E : va_E := .inr (10, [.int 0, .null, .null, .null, .null, .null, .null, .null, .null, .null, .int 0, .null, .null, .null, .null, .null, .null, .null, .int 0, .null, .null, .null, .int 0, .int 0, .int 0, .int 0, .int 0, .null, .null, .null, .null, .null, .null, .int 0, .long 0, .long 0, .long 0, .long 0, .long 0, .int 0])
def mX (D : va_G) (aM : Nat) (σ : kS) (ma : Nat → Nat) (n : Nat) (sh : Int32) (s : kS) : Prop := s aM = some (mXE ma n sh) ∧ (∀ k, mAr k = true → k < n → s (ma k) = some (.inl (mCl D k, mLen k, .inl fun _ => 0))) ∧ (∀ j k, mAr j = true → mAr k = true → j < n → k < n → ma j = ma k → j = k) ∧ (∀ k, mAr k = true → k < n → σ (ma k) = none) ∧ kOut (fun b => b = aM) σ s
section Ini10
variable {l : Launch} {D : va_G} {σ s : kS} {aM q : Nat} {ma : Nat → Nat} {n : Nat} {sh : Int32}
/-- an array more -/
theorem mX.arr (h : mX D aM σ ma n sh s) (hq : s q = none) {e : va_E} (he : e = mXE (upN ma n q) (n + 1) sh) (h31 : mCl D n = D.1 11 ∨ True) {a0 : vp_A} (ha : a0 = (mLen n, .inl fun _ => 0)) {ca : ClassId} (hca : ca = mCl D n) : mX D aM σ (upN ma n q) (n + 1) sh (kUp (kUp s q (.inl (ca, a0))) aM e) := by
  subst he; subst ha; subst hca
  obtain ⟨h1, h2, h3, h4, h5⟩ := h
  have hqa : aM ≠ q := kNeN h1 hq
  have hne : ∀ k, mAr k = true → k < n → ma k ≠ q := fun k hk hn => kNeN (h2 k hk hn) hq
  have hmk : ∀ k, k < n → upN ma n q k = ma k := fun k hk => upN_ne (by omega)
  have hσq : σ q = none := by
    cases hx : σ q with
    | none => rfl
    | some y => have := h5 q y hx (fun x => hqa x.symm); rw [hq] at this; cases this
  refine ⟨kUp_eq, fun k hk hn => ?_, fun j k hj hk hjn hkn hjk => ?_, fun k hk hn => ?_, (h5.tr (kOut.new hq)).tr (kOut.up rfl)⟩
  · by_cases x : k = n
    · subst x; rw [upN_eq]; exact kUp_o (Ne.symm hqa) kUp_eq
    · rw [upN_ne x]
      exact kUp_o (fun y => by have := h2 k hk (by omega); rw [y, h1] at this; cases this) (kUp_o (hne k hk (by omega)) (h2 k hk (by omega)))
  · by_cases x : j = n
    · by_cases y : k = n
      · rw [x, y]
      · subst x; rw [upN_eq, upN_ne y] at hjk; exact absurd hjk.symm (hne k hk (by omega))
    · by_cases y : k = n
      · subst y; rw [upN_eq, upN_ne x] at hjk; exact absurd hjk (hne j hj (by omega))
      · rw [upN_ne x, upN_ne y] at hjk; exact h3 j k hj hk (by omega) (by omega) hjk
  · by_cases x : k = n
    · subst x; rw [upN_eq]; exact hσq
    · rw [upN_ne x]; exact h4 k hk (by omega)
/-- a field that is no array -/
theorem mX.gap (h : mX D aM σ ma n sh s) (hn : mAr n = false) (he : mXE ma n sh = mXE ma (n + 1) sh) : mX D aM σ ma (n + 1) sh s := by
  obtain ⟨h1, h2, h3, h4, h5⟩ := h
  have hlt : ∀ k, mAr k = true → k < n + 1 → k < n := fun k hk hk1 => by
    have : k ≠ n := fun x => by subst x; rw [hk] at hn; cases hn
    omega
  exact ⟨h1.trans (by rw [he]), fun k hk hk1 => h2 k hk (hlt k hk hk1), fun j k hj hk a b => h3 j k hj hk (hlt j hj a) (hlt k hk b), fun k hk hk1 => h4 k hk (hlt k hk hk1), h5⟩
theorem mX.shr (h : mX D aM σ ma n sh s) {sh2 : Int32} {e : va_E} (he : e = mXE ma n sh2) : mX D aM σ ma n sh2 (kUp s aM e) := by
  subst he
  obtain ⟨h1, h2, h3, h4, h5⟩ := h
  exact ⟨kUp_eq, fun k hk hk1 => kUp_o (fun y => by have := h2 k hk hk1; rw [y, h1] at this; cases this) (h2 k hk hk1), h3, h4, h5.tr (kOut.up rfl)⟩
theorem mX.fin (h : mX D aM σ ma 33 1 s) : mI D aM ma (fun _ _ => 0) (qZ st0 0 0) s := by
  obtain ⟨h1, h2, h3, h4, h5⟩ := h
  have hlt : ∀ k, mAr k = true → k < 33 := fun k hk => by
    simp only [mAr, Bool.or_eq_true, Bool.and_eq_true, decide_eq_true_eq] at hk
    omega
  exact ⟨h1, fun k hk => h2 k hk (hlt k hk), fun j k hj hk => h3 j k hj hk (hlt j hj) (hlt k hk)⟩
set_option maxHeartbeats 8000000 in
set_option maxRecDepth 100000 in
theorem c_X10_init (hl : l.stackTraces = false) (ha : σ aM = some b10E) : kMh hX10_init l D yX10_init 2 25 37681 [.ref aM] σ (fun v s2 => v = none ∧ (∃ ma, cl10 D aM ma st0 0 s2 ∧ ∀ a, mOwn aM ma a → a = aM ∨ σ a = none) ∧ kOut (fun b => b = aM) σ s2) (fun _ => False) := by
  refine kM_of (L := [some (.ref aM), none]) (by decide +kernel) hl (List.forall_mem_cons.mpr ⟨rfl, (fun _ h => absurd h List.not_mem_nil)⟩) (Nat.le_of_ble_eq_true rfl) rfl ?_
  intro p e s m args below meth c B hr hex hnm
  have B : kB p l s m args meth c D (kA σ s.heap.size) 2 cX10_init RX10 := B
  have hini : meth.name = "<init>" := hnm
  refine k_aload_n B dX10_init_0 rfl (by first | exact kRf_r _ | exact kRf_q _ | exact kRf_n) ?_
  refine ob_X10_1 B dX10_init_1 (by first | exact Nat.le_of_ble_eq_true rfl | omega | (simp only [kR, Value.category, kCat_q, List.map, List.sum_cons, List.sum_nil]; omega)) (by first | exact Nat.le_of_ble_eq_true rfl | omega | (simp only [kR, Value.category, kCat_q, List.map, List.sum_cons, List.sum_nil]; omega)) ?_
  have x : mX D aM σ (fun _ => 0) 0 0 σ := ⟨ha, fun k hk h0 => absurd h0 (Nat.not_lt_zero k), fun j k hj hk h0 => absurd h0 (Nat.not_lt_zero j), fun k hk h0 => absurd h0 (Nat.not_lt_zero k), kOut.rf⟩
  have x := x.gap rfl rfl
  refine k_aload_n B dX10_init_4 rfl (by first | exact kRf_r _ | exact kRf_q _ | exact kRf_n) ?_
  refine k_bipush B (v := 10) dX10_init_5 (by decide) ?_
  refine k_newa B (atype := .int) (ti := 0) rfl rfl (fun C h => by cases h) qw961 dX10_init_7 (N := 10) (a0 := (10, .inl fun _ => 0)) (fun _ => rfl) (by decide) (by decide) (by decide) (by decide) (by decide) (fun q7 hq7 => ?_)
  refine pf_X10_7 B hini dX10_init_9 (kUp_o (kNeN x.1 hq7) x.1) rfl (by first | exact kRf_r _ | exact kRf_q _ | exact kRf_n) ?_
  refine kK.gen (P := mX D aM σ _ 2 0) (x.arr hq7 rfl (Or.inr trivial) rfl rfl) (fun s9 x => ?_)
  refine k_aload_n B dX10_init_12 rfl (by first | exact kRf_r _ | exact kRf_q _ | exact kRf_n) ?_
  refine k_bipush B (v := 10) dX10_init_13 (by decide) ?_
  refine k_newa B (atype := .int) (ti := 0) rfl rfl (fun C h => by cases h) qw961 dX10_init_15 (N := 10) (a0 := (10, .inl fun _ => 0)) (fun _ => rfl) (by decide) (by decide) (by decide) (by decide) (by decide) (fun q15 hq15 => ?_)
  refine pf_X10_13 B hini dX10_init_17 (kUp_o (kNeN x.1 hq15) x.1) rfl (by first | exact kRf_r _ | exact kRf_q _ | exact kRf_n) ?_
  refine kK.gen (P := mX D aM σ _ 3 0) (x.arr hq15 rfl (Or.inr trivial) rfl rfl) (fun s17 x => ?_)
  refine k_aload_n B dX10_init_20 rfl (by first | exact kRf_r _ | exact kRf_q _ | exact kRf_n) ?_
  refine k_bipush B (v := 10) dX10_init_21 (by decide) ?_
  refine k_newa B (atype := .int) (ti := 0) rfl rfl (fun C h => by cases h) qw961 dX10_init_23 (N := 10) (a0 := (10, .inl fun _ => 0)) (fun _ => rfl) (by decide) (by decide) (by decide) (by decide) (by decide) (fun q23 hq23 => ?_)
  refine pf_X10_16 B hini dX10_init_25 (kUp_o (kNeN x.1 hq23) x.1) rfl (by first | exact kRf_r _ | exact kRf_q _ | exact kRf_n) ?_
  refine kK.gen (P := mX D aM σ _ 4 0) (x.arr hq23 rfl (Or.inr trivial) rfl rfl) (fun s25 x => ?_)
  refine k_aload_n B dX10_init_28 rfl (by first | exact kRf_r _ | exact kRf_q _ | exact kRf_n) ?_
  refine k_bipush B (v := 10) dX10_init_29 (by decide) ?_
  refine k_newa B (atype := .int) (ti := 0) rfl rfl (fun C h => by cases h) qw961 dX10_init_31 (N := 10) (a0 := (10, .inl fun _ => 0)) (fun _ => rfl) (by decide) (by decide) (by decide) (by decide) (by decide) (fun q31 hq31 => ?_)
  refine pf_X10_19 B hini dX10_init_33 (kUp_o (kNeN x.1 hq31) x.1) rfl (by first | exact kRf_r _ | exact kRf_q _ | exact kRf_n) ?_
  refine kK.gen (P := mX D aM σ _ 5 0) (x.arr hq31 rfl (Or.inr trivial) rfl rfl) (fun s33 x => ?_)
  refine k_aload_n B dX10_init_36 rfl (by first | exact kRf_r _ | exact kRf_q _ | exact kRf_n) ?_
  refine k_bipush B (v := 10) dX10_init_37 (by decide) ?_
  refine k_newa B (atype := .int) (ti := 0) rfl rfl (fun C h => by cases h) qw961 dX10_init_39 (N := 10) (a0 := (10, .inl fun _ => 0)) (fun _ => rfl) (by decide) (by decide) (by decide) (by decide) (by decide) (fun q39 hq39 => ?_)
  refine pf_X10_22 B hini dX10_init_41 (kUp_o (kNeN x.1 hq39) x.1) rfl (by first | exact kRf_r _ | exact kRf_q _ | exact kRf_n) ?_
  refine kK.gen (P := mX D aM σ _ 6 0) (x.arr hq39 rfl (Or.inr trivial) rfl rfl) (fun s41 x => ?_)
  refine k_aload_n B dX10_init_44 rfl (by first | exact kRf_r _ | exact kRf_q _ | exact kRf_n) ?_
  refine k_bipush B (v := 10) dX10_init_45 (by decide) ?_
  refine k_newa B (atype := .int) (ti := 0) rfl rfl (fun C h => by cases h) qw961 dX10_init_47 (N := 10) (a0 := (10, .inl fun _ => 0)) (fun _ => rfl) (by decide) (by decide) (by decide) (by decide) (by decide) (fun q47 hq47 => ?_)
  refine pf_X10_25 B hini dX10_init_49 (kUp_o (kNeN x.1 hq47) x.1) rfl (by first | exact kRf_r _ | exact kRf_q _ | exact kRf_n) ?_
  refine kK.gen (P := mX D aM σ _ 7 0) (x.arr hq47 rfl (Or.inr trivial) rfl rfl) (fun s49 x => ?_)
  refine k_aload_n B dX10_init_52 rfl (by first | exact kRf_r _ | exact kRf_q _ | exact kRf_n) ?_
  refine k_bipush B (v := 51) dX10_init_53 (by decide) ?_
  refine k_newa B (atype := .int) (ti := 0) rfl rfl (fun C h => by cases h) qw961 dX10_init_55 (N := 51) (a0 := (51, .inl fun _ => 0)) (fun _ => rfl) (by decide) (by decide) (by decide) (by decide) (by decide) (fun q55 hq55 => ?_)
  refine pf_X10_28 B hini dX10_init_57 (kUp_o (kNeN x.1 hq55) x.1) rfl (by first | exact kRf_r _ | exact kRf_q _ | exact kRf_n) ?_
  refine kK.gen (P := mX D aM σ _ 8 0) (x.arr hq55 rfl (Or.inr trivial) rfl rfl) (fun s57 x => ?_)
  refine k_aload_n B dX10_init_60 rfl (by first | exact kRf_r _ | exact kRf_q _ | exact kRf_n) ?_
  refine k_bipush B (v := 51) dX10_init_61 (by decide) ?_
  refine k_newa B (atype := .int) (ti := 0) rfl rfl (fun C h => by cases h) qw961 dX10_init_63 (N := 51) (a0 := (51, .inl fun _ => 0)) (fun _ => rfl) (by decide) (by decide) (by decide) (by decide) (by decide) (fun q63 hq63 => ?_)
  refine pf_X10_31 B hini dX10_init_65 (kUp_o (kNeN x.1 hq63) x.1) rfl (by first | exact kRf_r _ | exact kRf_q _ | exact kRf_n) ?_
  refine kK.gen (P := mX D aM σ _ 9 0) (x.arr hq63 rfl (Or.inr trivial) rfl rfl) (fun s65 x => ?_)
  refine k_aload_n B dX10_init_68 rfl (by first | exact kRf_r _ | exact kRf_q _ | exact kRf_n) ?_
  refine k_bipush B (v := 51) dX10_init_69 (by decide) ?_
  refine k_newa B (atype := .int) (ti := 0) rfl rfl (fun C h => by cases h) qw961 dX10_init_71 (N := 51) (a0 := (51, .inl fun _ => 0)) (fun _ => rfl) (by decide) (by decide) (by decide) (by decide) (by decide) (fun q71 hq71 => ?_)
  refine pf_X10_34 B hini dX10_init_73 (kUp_o (kNeN x.1 hq71) x.1) rfl (by first | exact kRf_r _ | exact kRf_q _ | exact kRf_n) ?_
  refine kK.gen (P := mX D aM σ _ 10 0) (x.arr hq71 rfl (Or.inr trivial) rfl rfl) (fun s73 x => ?_)
  have x := x.gap rfl rfl
  refine k_aload_n B dX10_init_76 rfl (by first | exact kRf_r _ | exact kRf_q _ | exact kRf_n) ?_
  refine k_sipush B (v := 6200) dX10_init_77 (by decide) ?_
  refine k_newa B (atype := .int) (ti := 0) rfl rfl (fun C h => by cases h) qw961 dX10_init_80 (N := 6200) (a0 := (6200, .inl fun _ => 0)) (fun _ => rfl) (by decide) (by decide) (by decide) (by decide) (by decide) (fun q80 hq80 => ?_)
  refine pf_X10_37 B hini dX10_init_82 (kUp_o (kNeN x.1 hq80) x.1) rfl (by first | exact kRf_r _ | exact kRf_q _ | exact kRf_n) ?_
  refine kK.gen (P := mX D aM σ _ 12 0) (x.arr hq80 rfl (Or.inr trivial) rfl rfl) (fun s82 x => ?_)
  refine k_aload_n B dX10_init_85 rfl (by first | exact kRf_r _ | exact kRf_q _ | exact kRf_n) ?_
  refine k_sipush B (v := 6200) dX10_init_86 (by decide) ?_
  refine k_newa B (atype := .int) (ti := 0) rfl rfl (fun C h => by cases h) qw961 dX10_init_89 (N := 6200) (a0 := (6200, .inl fun _ => 0)) (fun _ => rfl) (by decide) (by decide) (by decide) (by decide) (by decide) (fun q89 hq89 => ?_)
  refine pf_X10_40 B hini dX10_init_91 (kUp_o (kNeN x.1 hq89) x.1) rfl (by first | exact kRf_r _ | exact kRf_q _ | exact kRf_n) ?_
  refine kK.gen (P := mX D aM σ _ 13 0) (x.arr hq89 rfl (Or.inr trivial) rfl rfl) (fun s91 x => ?_)
  refine k_aload_n B dX10_init_94 rfl (by first | exact kRf_r _ | exact kRf_q _ | exact kRf_n) ?_
  refine k_sipush B (v := 6200) dX10_init_95 (by decide) ?_
  refine k_newa B (atype := .int) (ti := 0) rfl rfl (fun C h => by cases h) qw961 dX10_init_98 (N := 6200) (a0 := (6200, .inl fun _ => 0)) (fun _ => rfl) (by decide) (by decide) (by decide) (by decide) (by decide) (fun q98 hq98 => ?_)
  refine pf_X10_43 B hini dX10_init_100 (kUp_o (kNeN x.1 hq98) x.1) rfl (by first | exact kRf_r _ | exact kRf_q _ | exact kRf_n) ?_
  refine kK.gen (P := mX D aM σ _ 14 0) (x.arr hq98 rfl (Or.inr trivial) rfl rfl) (fun s100 x => ?_)
  refine k_aload_n B dX10_init_103 rfl (by first | exact kRf_r _ | exact kRf_q _ | exact kRf_n) ?_
  refine k_sipush B (v := 6200) dX10_init_104 (by decide) ?_
  refine k_newa B (atype := .int) (ti := 0) rfl rfl (fun C h => by cases h) qw961 dX10_init_107 (N := 6200) (a0 := (6200, .inl fun _ => 0)) (fun _ => rfl) (by decide) (by decide) (by decide) (by decide) (by decide) (fun q107 hq107 => ?_)
  refine pf_X10_46 B hini dX10_init_109 (kUp_o (kNeN x.1 hq107) x.1) rfl (by first | exact kRf_r _ | exact kRf_q _ | exact kRf_n) ?_
  refine kK.gen (P := mX D aM σ _ 15 0) (x.arr hq107 rfl (Or.inr trivial) rfl rfl) (fun s109 x => ?_)
  refine k_aload_n B dX10_init_112 rfl (by first | exact kRf_r _ | exact kRf_q _ | exact kRf_n) ?_
  refine k_sipush B (v := 6200) dX10_init_113 (by decide) ?_
  refine k_newa B (atype := .int) (ti := 0) rfl rfl (fun C h => by cases h) qw961 dX10_init_116 (N := 6200) (a0 := (6200, .inl fun _ => 0)) (fun _ => rfl) (by decide) (by decide) (by decide) (by decide) (by decide) (fun q116 hq116 => ?_)
  refine pf_X10_49 B hini dX10_init_118 (kUp_o (kNeN x.1 hq116) x.1) rfl (by first | exact kRf_r _ | exact kRf_q _ | exact kRf_n) ?_
  refine kK.gen (P := mX D aM σ _ 16 0) (x.arr hq116 rfl (Or.inr trivial) rfl rfl) (fun s118 x => ?_)
  refine k_aload_n B dX10_init_121 rfl (by first | exact kRf_r _ | exact kRf_q _ | exact kRf_n) ?_
  refine k_sipush B (v := 6200) dX10_init_122 (by decide) ?_
  refine k_newa B (atype := .int) (ti := 0) rfl rfl (fun C h => by cases h) qw961 dX10_init_125 (N := 6200) (a0 := (6200, .inl fun _ => 0)) (fun _ => rfl) (by decide) (by decide) (by decide) (by decide) (by decide) (fun q125 hq125 => ?_)
  refine pf_X10_52 B hini dX10_init_127 (kUp_o (kNeN x.1 hq125) x.1) rfl (by first | exact kRf_r _ | exact kRf_q _ | exact kRf_n) ?_
  refine kK.gen (P := mX D aM σ _ 17 0) (x.arr hq125 rfl (Or.inr trivial) rfl rfl) (fun s127 x => ?_)
  refine k_aload_n B dX10_init_130 rfl (by first | exact kRf_r _ | exact kRf_q _ | exact kRf_n) ?_
  refine k_bipush B (v := 10) dX10_init_131 (by decide) ?_
  refine k_newa B (atype := .int) (ti := 0) rfl rfl (fun C h => by cases h) qw961 dX10_init_133 (N := 10) (a0 := (10, .inl fun _ => 0)) (fun _ => rfl) (by decide) (by decide) (by decide) (by decide) (by decide) (fun q133 hq133 => ?_)
  refine pf_X10_55 B hini dX10_init_135 (kUp_o (kNeN x.1 hq133) x.1) rfl (by first | exact kRf_r _ | exact kRf_q _ | exact kRf_n) ?_
  refine kK.gen (P := mX D aM σ _ 18 0) (x.arr hq133 rfl (Or.inr trivial) rfl rfl) (fun s135 x => ?_)
  have x := x.gap rfl rfl
  refine k_aload_n B dX10_init_138 rfl (by first | exact kRf_r _ | exact kRf_q _ | exact kRf_n) ?_
  refine k_bipush B (v := 6) dX10_init_139 (by decide) ?_
  refine k_newa B (atype := .int) (ti := 0) rfl rfl (fun C h => by cases h) qw961 dX10_init_141 (N := 6) (a0 := (6, .inl fun _ => 0)) (fun _ => rfl) (by decide) (by decide) (by decide) (by decide) (by decide) (fun q141 hq141 => ?_)
  refine pf_X10_58 B hini dX10_init_143 (kUp_o (kNeN x.1 hq141) x.1) rfl (by first | exact kRf_r _ | exact kRf_q _ | exact kRf_n) ?_
  refine kK.gen (P := mX D aM σ _ 20 0) (x.arr hq141 rfl (Or.inr trivial) rfl rfl) (fun s143 x => ?_)
  refine k_aload_n B dX10_init_146 rfl (by first | exact kRf_r _ | exact kRf_q _ | exact kRf_n) ?_
  refine k_bipush B (v := 6) dX10_init_147 (by decide) ?_
  refine k_newa B (atype := .int) (ti := 0) rfl rfl (fun C h => by cases h) qw961 dX10_init_149 (N := 6) (a0 := (6, .inl fun _ => 0)) (fun _ => rfl) (by decide) (by decide) (by decide) (by decide) (by decide) (fun q149 hq149 => ?_)
  refine pf_X10_61 B hini dX10_init_151 (kUp_o (kNeN x.1 hq149) x.1) rfl (by first | exact kRf_r _ | exact kRf_q _ | exact kRf_n) ?_
  refine kK.gen (P := mX D aM σ _ 21 0) (x.arr hq149 rfl (Or.inr trivial) rfl rfl) (fun s151 x => ?_)
  refine k_aload_n B dX10_init_154 rfl (by first | exact kRf_r _ | exact kRf_q _ | exact kRf_n) ?_
  refine k_bipush B (v := 6) dX10_init_155 (by decide) ?_
  refine k_newa B (atype := .int) (ti := 0) rfl rfl (fun C h => by cases h) qw961 dX10_init_157 (N := 6) (a0 := (6, .inl fun _ => 0)) (fun _ => rfl) (by decide) (by decide) (by decide) (by decide) (by decide) (fun q157 hq157 => ?_)
  refine pf_X10_64 B hini dX10_init_159 (kUp_o (kNeN x.1 hq157) x.1) rfl (by first | exact kRf_r _ | exact kRf_q _ | exact kRf_n) ?_
  refine kK.gen (P := mX D aM σ _ 22 0) (x.arr hq157 rfl (Or.inr trivial) rfl rfl) (fun s159 x => ?_)
  refine k_aload_n B dX10_init_162 rfl (by first | exact kRf_r _ | exact kRf_q _ | exact kRf_n) ?_
  refine k_iconst B (v := 1) dX10_init_163 (by decide) ?_
  refine pf_X10_67 B dX10_init_164 x.1 rfl ?_
  refine kK.gen (P := mX D aM σ _ 22 1) (x.shr rfl) (fun s164 x => ?_)
  have x := x.gap rfl rfl
  have x := x.gap rfl rfl
  have x := x.gap rfl rfl
  have x := x.gap rfl rfl
  have x := x.gap rfl rfl
  refine k_aload_n B dX10_init_167 rfl (by first | exact kRf_r _ | exact kRf_q _ | exact kRf_n) ?_
  refine k_bipush B (v := 40) dX10_init_168 (by decide) ?_
  refine k_newa B (atype := .int) (ti := 0) rfl rfl (fun C h => by cases h) qw961 dX10_init_170 (N := 40) (a0 := (40, .inl fun _ => 0)) (fun _ => rfl) (by decide) (by decide) (by decide) (by decide) (by decide) (fun q170 hq170 => ?_)
  refine pf_X10_71 B hini dX10_init_172 (kUp_o (kNeN x.1 hq170) x.1) rfl (by first | exact kRf_r _ | exact kRf_q _ | exact kRf_n) ?_
  refine kK.gen (P := mX D aM σ _ 28 1) (x.arr hq170 rfl (Or.inr trivial) rfl rfl) (fun s172 x => ?_)
  refine k_aload_n B dX10_init_175 rfl (by first | exact kRf_r _ | exact kRf_q _ | exact kRf_n) ?_
  refine k_bipush B (v := 40) dX10_init_176 (by decide) ?_
  refine k_newa B (atype := .int) (ti := 0) rfl rfl (fun C h => by cases h) qw961 dX10_init_178 (N := 40) (a0 := (40, .inl fun _ => 0)) (fun _ => rfl) (by decide) (by decide) (by decide) (by decide) (by decide) (fun q178 hq178 => ?_)
  refine pf_X10_74 B hini dX10_init_180 (kUp_o (kNeN x.1 hq178) x.1) rfl (by first | exact kRf_r _ | exact kRf_q _ | exact kRf_n) ?_
  refine kK.gen (P := mX D aM σ _ 29 1) (x.arr hq178 rfl (Or.inr trivial) rfl rfl) (fun s180 x => ?_)
  refine k_aload_n B dX10_init_183 rfl (by first | exact kRf_r _ | exact kRf_q _ | exact kRf_n) ?_
  refine k_bipush B (v := 40) dX10_init_184 (by decide) ?_
  refine k_newa B (atype := .int) (ti := 0) rfl rfl (fun C h => by cases h) qw961 dX10_init_186 (N := 40) (a0 := (40, .inl fun _ => 0)) (fun _ => rfl) (by decide) (by decide) (by decide) (by decide) (by decide) (fun q186 hq186 => ?_)
  refine pf_X10_77 B hini dX10_init_188 (kUp_o (kNeN x.1 hq186) x.1) rfl (by first | exact kRf_r _ | exact kRf_q _ | exact kRf_n) ?_
  refine kK.gen (P := mX D aM σ _ 30 1) (x.arr hq186 rfl (Or.inr trivial) rfl rfl) (fun s188 x => ?_)
  refine k_aload_n B dX10_init_191 rfl (by first | exact kRf_r _ | exact kRf_q _ | exact kRf_n) ?_
  refine k_bipush B (v := 40) dX10_init_192 (by decide) ?_
  refine k_newa B (atype := .int) (ti := 0) rfl rfl (fun C h => by cases h) qw961 dX10_init_194 (N := 40) (a0 := (40, .inl fun _ => 0)) (fun _ => rfl) (by decide) (by decide) (by decide) (by decide) (by decide) (fun q194 hq194 => ?_)
  refine pf_X10_80 B hini dX10_init_196 (kUp_o (kNeN x.1 hq194) x.1) rfl (by first | exact kRf_r _ | exact kRf_q _ | exact kRf_n) ?_
  refine kK.gen (P := mX D aM σ _ 31 1) (x.arr hq194 rfl (Or.inr trivial) rfl rfl) (fun s196 x => ?_)
  refine k_aload_n B dX10_init_199 rfl (by first | exact kRf_r _ | exact kRf_q _ | exact kRf_n) ?_
  refine k_bipush B (v := 40) dX10_init_200 (by decide) ?_
  refine k_newa B (atype := .boolean) (ti := 1) rfl rfl (fun C h => by cases h) qw962 dX10_init_202 (N := 40) (a0 := (40, .inl fun _ => 0)) (fun _ => rfl) (by decide) (by decide) (by decide) (by decide) (by decide) (fun q202 hq202 => ?_)
  refine pf_X10_83 B hini dX10_init_204 (kUp_o (kNeN x.1 hq202) x.1) rfl (by first | exact kRf_r _ | exact kRf_q _ | exact kRf_n) ?_
  refine kK.gen (P := mX D aM σ _ 32 1) (x.arr hq202 rfl (Or.inr trivial) rfl rfl) (fun s204 x => ?_)
  refine k_aload_n B dX10_init_207 rfl (by first | exact kRf_r _ | exact kRf_q _ | exact kRf_n) ?_
  refine k_bipush B (v := 40) dX10_init_208 (by decide) ?_
  refine k_newa B (atype := .boolean) (ti := 1) rfl rfl (fun C h => by cases h) qw962 dX10_init_210 (N := 40) (a0 := (40, .inl fun _ => 0)) (fun _ => rfl) (by decide) (by decide) (by decide) (by decide) (by decide) (fun q210 hq210 => ?_)
  refine pf_X10_87 B hini dX10_init_212 (kUp_o (kNeN x.1 hq210) x.1) rfl (by first | exact kRf_r _ | exact kRf_q _ | exact kRf_n) ?_
  refine kK.gen (P := mX D aM σ _ 33 1) (x.arr hq210 rfl (Or.inr trivial) rfl rfl) (fun s212 x => ?_)
  have hown : ∀ (ma : Nat → Nat) (s9 : kS), mX D aM σ ma 33 1 s9 → ∀ a, mOwn aM ma a → a = aM ∨ σ a = none := fun ma s9 h9 a hw => by
    rcases hw with rfl | ⟨k, hk, rfl⟩
    · exact Or.inl rfl
    · refine Or.inr (h9.2.2.2.1 k hk ?_)
      simp only [mAr, Bool.or_eq_true, Bool.and_eq_true, decide_eq_true_eq] at hk
      omega
  refine kK.gen (P := fun s2 => ∃ ma, mI D aM ma (fun _ _ => 0) (qZ st0 0 0) s2 ∧ (∀ a, mOwn aM ma a → a = aM ∨ σ a = none) ∧ kOut (fun b => b = aM) σ s2) ⟨_, x.fin, hown _ _ x, x.2.2.2.2⟩ (fun s0 hx => ?_)
  obtain ⟨ma, x0, ho, f0⟩ := hx
  have fo : ∀ {s8 : kS} {k : Nat} {y : va_E}, mAr k = true → kOut (fun b => b = aM) σ s8 → kOut (fun b => b = aM) σ (kUp s8 (ma k) y) := fun {s8} {k} {y} hk f8 b yb hb hne => kUp_o (fun hbk => by
    rcases ho (ma k) (mOwn.a hk) with h9 | h9
    · exact hne (hbk.trans h9)
    · rw [← hbk, hb] at h9; cases h9) (f8 b yb hb hne)
  -- no row begins
  have l2 : ∀ (d9 i : Nat) (mv1 : Nat → Nat → Int32) (s1 : kS), i + d9 = 51 → mI D aM ma mv1 (qZ st0 0 0) s1 → (∀ a b, a ≠ 1 → a ≠ 3 → a ≠ 7 → a ≠ 8 → mv1 a b = 0) → (∀ b, b < 10 → mv1 1 b = 5 ∧ mv1 3 b = ldI (kK0 b).1) → (∀ b, b < i → mv1 7 b = -1 ∧ mv1 8 b = -1) → kOut (fun b => b = aM) σ s1 → kK p l e (kR 2 25 37681) s m args below meth c D (kA σ s.heap.size) 2 (kQ below args s D σ (fun v s2 => v = none ∧ (∃ ma, cl10 D aM ma st0 0 s2 ∧ ∀ a, mOwn aM ma a → a = aM ∨ σ a = none) ∧ kOut (fun b => b = aM) σ s2) (fun _ => False) 25 37681) s1 25 37681 247 [some (.ref aM), some (.int (nI i))] [] := by
    intro d9
    induction d9 with
    | zero =>
      intro i mv1 s1 hi h1 hz h13 h78 f1
      obtain rfl : i = 51 := hi
      refine k_iload_n B dX10_init_247 rfl ?_
      refine k_bipush B (v := 51) dX10_init_248 (by decide) ?_
      refine k_icmp_ge B 273 dX10_init_250 (by decide) (fun c250 => ?_) (fun c250 => ?_)
      · refine k_vret B hr dX10_init_273 ?_ (by first | exact Nat.le_of_ble_eq_true rfl | omega | (simp only [kR, Value.category, kCat_q, List.map, List.sum_cons, List.sum_nil]; omega)) (by first | exact Nat.le_of_ble_eq_true rfl | omega | (simp only [kR, Value.category, kCat_q, List.map, List.sum_cons, List.sum_nil]; omega))
        refine ⟨rfl, ⟨ma, ⟨mv1, 0, fun _ => [], h1, Nat.zero_le _, fun b hb => ?_, fun b hb => absurd hb (Nat.not_lt_zero b), ⟨fun b hb => absurd hb (Nat.not_lt_zero b), fun b hb => ?_⟩, ⟨fun b hb => ?_, fun b hb a ha => (by cases ha), fun b hb => List.nodup_nil, fun b j hb hj hne a ha => (by cases ha)⟩, fun b hb => rfl, fun b hb hb2 => rfl⟩, ho⟩, f1⟩
        · exact ⟨(h13 b hb).1, hz _ _ (by decide) (by decide) (by decide) (by decide), (h13 b hb).2, hz _ _ (by decide) (by decide) (by decide) (by decide), hz _ _ (by decide) (by decide) (by decide) (by decide), hz _ _ (by decide) (by decide) (by decide) (by decide)⟩
        · exact ⟨hz _ _ (by decide) (by decide) (by decide) (by decide), hz _ _ (by decide) (by decide) (by decide) (by decide)⟩
        · exact ⟨(h78 b hb).1, (h78 b hb).2, hz _ _ (by decide) (by decide) (by decide) (by decide), trivial⟩
      · exact absurd (Int32.le_refl _) c250
    | succ d9 ih =>
      intro i mv1 s1 hi h1 hz h13 h78 f1
      have hi51 : i < 51 := by omega
      refine k_iload_n B dX10_init_247 rfl ?_
      refine k_bipush B (v := 51) dX10_init_248 (by decide) ?_
      refine k_icmp_ge B 273 dX10_init_250 (by decide) (fun c250 => ?_) (fun c250 => ?_)
      · exact absurd (show nI 51 ≤ nI i from c250) (nI_ge hi51 (by omega))
      · refine k_aload_n B dX10_init_253 rfl (by first | exact kRf_r _ | exact kRf_q _ | exact kRf_n) ?_
        refine gf_X10_28 B dX10_init_254 h1.o rfl ?_
        refine k_iload_n B dX10_init_257 rfl ?_
        refine k_iconst B (v := (-1)) dX10_init_258 (by decide) ?_
        refine k_iast B dX10_init_259 (h1.i (k := 7) rfl (by decide)) (vp_in_nI hi51 (by decide)) ?_
        have h2 := h1.s (k := 7) rfl (by decide) (i := i) (by omega) (-1)
        refine k_aload_n B dX10_init_260 rfl (by first | exact kRf_r _ | exact kRf_q _ | exact kRf_n) ?_
        refine gf_X10_31 B dX10_init_261 h2.o rfl ?_
        refine k_iload_n B dX10_init_264 rfl ?_
        refine k_iconst B (v := (-1)) dX10_init_265 (by decide) ?_
        refine k_iast B dX10_init_266 (h2.i (k := 8) rfl (by decide)) (vp_in_nI hi51 (by decide)) ?_
        have h3 := h2.s (k := 8) rfl (by decide) (i := i) (by omega) (-1)
        refine k_iinc1 B dX10_init_267 rfl (by decide) ?_
        try refine kK.set1 (by first | exact True.intro | rfl | exact kCat_q _) ?_
        refine k_goto B 247 dX10_init_270 (by decide) ?_
        rw [nI_1]
        refine ih (i + 1) _ _ (by omega) h3 (fun a b q1 q2 q3 q4 => by rw [mS_k q4, mS_k q3]; exact hz a b q1 q2 q3 q4) (fun b hb => ⟨(mS_k (by decide)).trans ((mS_k (by decide)).trans (h13 b hb).1), (mS_k (by decide)).trans ((mS_k (by decide)).trans (h13 b hb).2)⟩) (fun b hb => ?_) (fo rfl (fo rfl f1))
        by_cases q : b = i
        · subst q; exact ⟨(mS_k (by decide)).trans mS_eq, mS_eq⟩
        · exact ⟨(mS_j q).trans ((mS_j q).trans (h78 b (by omega)).1), (mS_j q).trans ((mS_j q).trans (h78 b (by omega)).2)⟩
  -- the cells
  have l1 : ∀ (d9 i : Nat) (mv1 : Nat → Nat → Int32) (s1 : kS), i + d9 = 10 → mI D aM ma mv1 (qZ st0 0 0) s1 → (∀ a b, a ≠ 1 → a ≠ 3 → mv1 a b = 0) → (∀ b, b < i → mv1 1 b = 5 ∧ mv1 3 b = ldI (kK0 b).1) → kOut (fun b => b = aM) σ s1 → kK p l e (kR 2 25 37681) s m args below meth c D (kA σ s.heap.size) 2 (kQ below args s D σ (fun v s2 => v = none ∧ (∃ ma, cl10 D aM ma st0 0 s2 ∧ ∀ a, mOwn aM ma a → a = aM ∨ σ a = none) ∧ kOut (fun b => b = aM) σ s2) (fun _ => False) 25 37681) s1 25 37681 217 [some (.ref aM), some (.int (nI i))] [] := by
    intro d9
    induction d9 with
    | zero =>
      intro i mv1 s1 hi h1 hz h13 f1
      obtain rfl : i = 10 := hi
      refine k_iload_n B dX10_init_217 rfl ?_
      refine k_bipush B (v := 10) dX10_init_218 (by decide) ?_
      refine k_icmp_ge B 245 dX10_init_220 (by decide) (fun c220 => ?_) (fun c220 => ?_)
      · refine k_iconst B (v := 0) dX10_init_245 (by decide) ?_
        refine k_istore_n B dX10_init_246 (by decide) ?_
        try refine kK.set1 (by first | exact True.intro | rfl | exact kCat_q _) ?_
        rw [← nI_0]
        exact l2 51 0 mv1 s1 rfl h1 (fun a b q1 q2 _ _ => hz a b q1 q2) h13 (fun b hb => absurd hb (Nat.not_lt_zero b)) f1
      · exact absurd (Int32.le_refl _) c220
    | succ d9 ih =>
      intro i mv1 s1 hi h1 hz h13 f1
      have hi10 : i < 10 := by omega
      refine k_iload_n B dX10_init_217 rfl ?_
      refine k_bipush B (v := 10) dX10_init_218 (by decide) ?_
      refine k_icmp_ge B 245 dX10_init_220 (by decide) (fun c220 => ?_) (fun c220 => ?_)
      · exact absurd (show nI 10 ≤ nI i from c220) (nI_ge hi10 (by omega))
      · refine k_aload_n B dX10_init_223 rfl (by first | exact kRf_r _ | exact kRf_q _ | exact kRf_n) ?_
        refine gf_X10_7 B dX10_init_224 h1.o rfl ?_
        refine k_iload_n B dX10_init_227 rfl ?_
        refine k_iconst B (v := 5) dX10_init_228 (by decide) ?_
        refine k_iast B dX10_init_229 (h1.i (k := 1) rfl (by decide)) (vp_in_nI hi10 (by decide)) ?_
        have h2 := h1.s (k := 1) rfl (by decide) (i := i) (by omega) 5
        refine k_aload_n B dX10_init_230 rfl (by first | exact kRf_r _ | exact kRf_q _ | exact kRf_n) ?_
        refine gf_X10_16 B dX10_init_231 h2.o rfl ?_
        refine k_iload_n B dX10_init_234 rfl ?_
        refine k_iload_n B dX10_init_235 rfl ?_
        refine k_iconst B (v := 1) dX10_init_236 (by decide) ?_
        refine k_isub B dX10_init_237 ?_
        refine kK.rei (y := ldI (kK0 i).1) (by
          have : i = 0 ∨ i = 1 ∨ i = 2 ∨ i = 3 ∨ i = 4 ∨ i = 5 ∨ i = 6 ∨ i = 7 ∨ i = 8 ∨ i = 9 := by omega
          rcases this with q | q | q | q | q | q | q | q | q | q <;> subst q <;> decide) ?_
        refine k_iast B dX10_init_238 (h2.i (k := 3) rfl (by decide)) (vp_in_nI hi10 (by decide)) ?_
        have h3 := h2.s (k := 3) rfl (by decide) (i := i) (by omega) (ldI (kK0 i).1)
        refine k_iinc1 B dX10_init_239 rfl (by decide) ?_
        try refine kK.set1 (by first | exact True.intro | rfl | exact kCat_q _) ?_
        refine k_goto B 217 dX10_init_242 (by decide) ?_
        rw [nI_1]
        refine ih (i + 1) _ _ (by omega) h3 (fun a b q1 q2 => by rw [mS_k q2, mS_k q1]; exact hz a b q1 q2) (fun b hb => ?_) (fo rfl (fo rfl f1))
        by_cases q : b = i
        · subst q; exact ⟨(mS_k (by decide)).trans mS_eq, mS_eq⟩
        · exact ⟨(mS_j q).trans ((mS_j q).trans (h13 b (by omega)).1), (mS_j q).trans ((mS_j q).trans (h13 b (by omega)).2)⟩
  refine k_iconst B (v := 0) dX10_init_215 (by decide) ?_
  refine k_istore_n B dX10_init_216 (by decide) ?_
  try refine kK.set1 (by first | exact True.intro | rfl | exact kCat_q _) ?_
  rw [← nI_0]
  exact l1 10 0 _ s0 rfl x0 (fun a b _ _ => rfl) (fun b hb => absurd hb (Nat.not_lt_zero b)) f0
end Ini10
