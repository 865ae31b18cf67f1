/-! ===== the law's helpers ===== -/
section LF
variable {p : Program} {l : Launch} {e : Env} {R : Room} {s : State} {m : MethodId} {args : Array Value} {below : List Frame} {meth : Method} {c : Code} {D : va_G} {A : Nat → Prop} {nL : Nat} {cc : ByteArray} {own : String} {Q : State → Prop} {σ : kS} {k n pc : Nat} {L : List (Option Value)} {S : List Value}
theorem k_f2d (B : kB p l s m args meth c D A nL cc own) {x : UInt32} (hd : decode cc pc = .ok (.f2d, 1)) (hne : vf_n64 (FP.f2d x)) (kk : kK p l e R s m args below meth c D A nL Q σ k n (pc + 1) L (.double (FP.f2d x) :: S)) : kK p l e R s m args below meth c D A nL Q σ k n pc L (.float x :: S) := fun H locs ls h1 h2 h3 h4 => lv_f2d B.1 B.2.1 hd hne (kk H locs ls h1 h2 h3 h4)
theorem kB_ncA (B : kB p l s m args meth c D A nL cc own) : va_Nc eA eI s := B.2.2.2.2.2.2.2.1.2.2.2.2.2.2.1
theorem kB_ncSI (B : kB p l s m args meth c D A nL cc own) : va_Nc eS eI s := B.2.2.2.2.2.2.2.1.2.2.2.2.2.2.2.1
theorem kB_ncSA (B : kB p l s m args meth c D A nL cc own) : va_Nc eS eA s := B.2.2.2.2.2.2.2.1.2.2.2.2.2.2.2.2
end LF
theorem nn_of64 {r : UInt64} (h : r.toNat % 2 ^ 63 ≤ 9218868437227405312) : vf_n64 r := by
  unfold vf_n64
  rw [UInt64.le_iff_toNat_le, UInt64.toNat_and]
  show r.toNat &&& 9223372036854775807 ≤ 9218868437227405312
  rw [show 9223372036854775807 = 2 ^ 63 - 1 by decide, Nat.and_two_pow_sub_one_eq_mod]
  exact h
theorem nn_no {r : UInt32} (h : vf_n32 r) : FP.Core.fIsNaN r = false := by
  cases hx : FP.Core.fIsNaN r with
  | false => rfl
  | true =>
    have h2 := (FP.Core.isNaN_bits32 r).mp hx
    unfold vf_n32 at h
    rw [UInt32.le_iff_toNat_le, UInt32.toNat_and] at h
    have h : r.toNat &&& 2147483647 ≤ 2139095040 := h
    rw [show 2147483647 = 2 ^ 31 - 1 by decide, Nat.and_two_pow_sub_one_eq_mod] at h
    omega
theorem nn_d {r : UInt32} (h : vf_n32 r) : FP.Core.dIsNaN (FP.f2d r) = false := by
  rw [FP.f2d_core (nn_no h)]
  exact FP.Core.f2d_out (nn_no h)
theorem nn_f2d {r : UInt32} (h : vf_n32 r) : vf_n64 (FP.f2d r) := by
  refine nn_of64 (Nat.le_of_not_lt (fun hx => ?_))
  have h2 := (FP.Core.isNaN_bits (FP.f2d r)).mpr hx
  rw [nn_d h] at h2
  cases h2
/-- whichever exception -/
theorem gCell_s {c : Int32} {g : Option String} {E : String} (h : gCell c g = some E) : E = eI ∨ g = some E := by
  by_cases q : 0 ≤ c ∧ c < 10
  · exact Or.inr ((gCell_p q).symm.trans h)
  · rw [gCell, if_neg q] at h; cases h; exact Or.inl rfl
theorem gIx_s {c n : Int32} {g : Option String} {E : String} (h : gIx c n g = some E) : E = eI ∨ g = some E := by
  by_cases q : 0 ≤ c ∧ c < n
  · exact Or.inr ((gIx_p q).symm.trans h)
  · rw [gIx, if_neg q] at h; cases h; exact Or.inl rfl
theorem gRg_s {x lo hi : Int32} {g : Option String} {E : String} (h : gRg x lo hi g = some E) : E = eA ∨ g = some E := by
  by_cases q : lo ≤ x ∧ x ≤ hi
  · exact Or.inr ((gRg_p q).symm.trans h)
  · rw [gRg, if_neg q] at h; cases h; exact Or.inl rfl
theorem gSt_s {b : Bool} {E : String} (h : gSt b = some E) : E = eS := by
  cases b with
  | true => cases h
  | false => cases h; rfl
theorem gArg_s {b : Bool} {E : String} (h : gArg b = some E) : E = eA := by
  cases b with
  | true => cases h
  | false => cases h; rfl
theorem gLead_s {c t : Int32} {E : String} (h : gLead c t = some E) : E = eI ∨ E = eA := by
  rcases gCell_s h with h | h
  · exact Or.inl h
  · by_cases q : t = -1
    · rw [if_pos q] at h; exact Or.inr (gArg_s h)
    · rw [if_neg q] at h
      rcases gCell_s h with h | h
      · exact Or.inl h
      · exact Or.inr (gArg_s h)
/-- what a helper leaves -/
def lPo (g : Option String) (tt : String → Int32) (Q : kS → Prop) (σ : kS) (v : Option Value) (s2 : kS) : Prop := (g = none ∧ v = some (.int 0) ∧ Q s2) ∨ ∃ E, g = some E ∧ v = some (.int (tt E)) ∧ s2 = σ
/-- only the object and the answer's cell may have changed -/
def kFx (aL : Nat) (σ s2 : kS) : Prop := ∀ (a : Nat) (e : va_E), σ a = some e → ¬ k9F (kC e) → a ≠ aL → s2 a = some e
def lArr (D : va_G) (f : Nat → Int64) : va_E := .inl (D.1 13, 1, .inr (.inl f))
def dArr (D : va_G) (f : Nat → UInt64) : va_E := .inl (D.1 14, 1, .inr (.inr (.inr (.inl f))))
section LK
variable {D : va_G} {σ s2 : kS} {aO aL : Nat} {z : kSt} {J : List kJe} {F : kF}
theorem isAr_15 {N : Nat} {e : va_E} (h : isAr N e) : kC e = 15 := by
  obtain ⟨c1, M, f | f | f | f | f⟩ | f := e
  all_goals first | exact h.elim | rfl
theorem cl9.keepF (h : cl9 D aO z J F σ) (hf : ∀ (a : Nat) (e : va_E), σ a = some e → k9F (kC e) → s2 a = some e) : cl9 D aO z J F s2 := by
  obtain ⟨cA, wA, lA, aJ, cad, ra, wad, lad, R, h⟩ := h
  have hk : ∀ P : va_E → Prop, (∀ e, P e → k9F (kC e)) → kKp P σ s2 := fun P hp a e he q => hf a e he (hp e q)
  have hA : ∀ N e, isAr N e → k9F (kC e) := fun N e q => Or.inr (isAr_15 q)
  refine ⟨cA, wA, lA, aJ, cad, ra, wad, lad, R, hf _ _ h.o (Or.inl (Nat.le_refl 9)), h.a.keep (hk _ (hA _)), h.aw.keep (hk _ (hA _)), h.al.keep (hk _ (hA _)), h.c.keep (hk _ (fun e q => Or.inl (by have q : kC e = 0 := q; omega))), h.w.keep (hk _ (fun e q => Or.inl (by have q : kC e = 8 := q; omega))), h.lo.keep (hk _ (fun e q => Or.inl (by have q : kC e = 2 := q; omega))), h.r.keep (hk _ (fun e q => Or.inl (by rcases q with q | q <;> omega))), h.rc, h.j.keep (hk _ (fun e q => ?_))⟩
  rcases q with q | q | q | q | q
  · exact Or.inl (by omega)
  · exact Or.inl (by omega)
  · exact Or.inl (by omega)
  · exact Or.inl (by omega)
  · exact hA _ _ q
theorem nkL {f : Nat → Int64} : ¬ k9F (kC (lArr D f)) := fun q => by
  rcases q with q | q
  · exact absurd q (by show ¬ _ ≤ 9; simp [lArr, kC])
  · exact absurd q (by simp [lArr, kC])
theorem nkD {f : Nat → UInt64} : ¬ k9F (kC (dArr D f)) := fun q => by
  rcases q with q | q
  · exact absurd q (by show ¬ _ ≤ 9; simp [dArr, kC])
  · exact absurd q (by simp [dArr, kC])
/-- the answer put down -/
theorem cl9.out (h : cl9 D aO z J F σ) {e0 e1 : va_E} (h0 : σ aL = some e0) (hn : ¬ k9F (kC e0)) : cl9 D aO z J F (kUp σ aL e1) := h.keepF (fun a e he hk => kUp_o (fun q => by subst q; rw [h0] at he; cases he; exact hn hk) he)
theorem kFx.of (h : kFr k9F σ s2) {e1 : va_E} : kFx aL σ (kUp s2 aL e1) := fun a e he hk ha => kUp_o ha (h a e he hk)
theorem kFx.of0 (h : kFr k9F σ s2) : kFx aL σ s2 := fun a e he hk _ => h a e he hk
theorem cl9.fs (h : cl9 D aO z J F σ) : ∃ fs, σ aO = some (.inr (9, fs)) := by
  obtain ⟨cA, wA, lA, aJ, cad, ra, wad, lad, R, h⟩ := h
  exact ⟨_, h.o⟩
end LK
section LH
variable {l : Launch} {D : va_G} {σ : kS} {aO aL : Nat} {z : kSt} {J : List kJe} {F : kF}
set_option maxRecDepth 100000 in
theorem c_L_rock (hl : l.stackTraces = false) (hs : sOk z) (h : cl9 D aO z J F σ) {p0 p1 : Int32} {f0 : Nat → Int64} (ho : σ aL = some (lArr D f0)) : kMh hL_rock l D yL_rock 9 2 12 [.ref aO, .int p0, .int p1, .ref aL] σ (lPo (gRock p0 p1) (tCd 1 2 3) (fun s2 => cl9 D aO (nRock z p0 p1) J F s2 ∧ (∃ f, s2 aL = some (lArr D f) ∧ f 0 = (rRock z p0).toInt64) ∧ kFx aL σ s2) σ) (fun _ => False) := by
  refine kM_ofW (L := [some (.ref aO), some (.int p0), some (.int p1), some (.ref aL), none]) (by decide +kernel) hl (List.forall_mem_cons.mpr ⟨rfl, (List.forall_mem_cons.mpr ⟨rfl, (List.forall_mem_cons.mpr ⟨rfl, (List.forall_mem_cons.mpr ⟨rfl, (fun _ h => absurd h List.not_mem_nil)⟩)⟩)⟩)⟩) (Nat.le_of_ble_eq_true rfl) rfl ?_
  intro p e s m args below meth c B hr hex hnm
  have B : kB p l s m args meth c D (kA σ s.heap.size) 5 cL_rock RL := B
  obtain ⟨fs9, h9⟩ := h.fs
  refine k_aload_n B dL_rock_0 rfl (by first | exact kRf_r _ | exact kRf_q _ | exact kRf_n) ?_
  refine k_iconst B (v := 0) dL_rock_1 (by decide) ?_
  refine k_aload_n B dL_rock_2 rfl (by first | exact kRf_r _ | exact kRf_q _ | exact kRf_n) ?_
  refine k_iload_n B dL_rock_3 rfl ?_
  refine k_iload_n B dL_rock_4 rfl ?_
  refine cl_L_7 B (c_X9_rock hl hs h) h9 dL_rock_5 (by first | exact Nat.le_of_ble_eq_true rfl | omega | (simp only [kR, Value.category, kCat_q, List.map, List.sum_cons, List.sum_nil]; omega)) (by first | exact Nat.le_of_ble_eq_true rfl | omega | (simp only [kR, Value.category, kCat_q, List.map, List.sum_cons, List.sum_nil]; omega)) (by first | exact Nat.le_of_ble_eq_true rfl | omega | (simp only [kR, Value.category, kCat_q, List.map, List.sum_cons, List.sum_nil]; omega)) (by first | exact Nat.le_of_ble_eq_true rfl | omega | (simp only [kR, Value.category, kCat_q, List.map, List.sum_cons, List.sum_nil]; omega)) (by first | exact Nat.le_of_ble_eq_true rfl | omega | (simp only [kR, Value.category, kCat_q, List.map, List.sum_cons, List.sum_nil]; omega)) (fun E hE => ?_) (fun v5 s5 hp5 => ?_)
  · skip
    rcases gCell_s hE with rfl | h22
    · skip
      refine k_catch B [] ⟨0, 10, 13, 13⟩ [⟨0, 10, 17, 15⟩] hex (fun z hz => absurd hz List.not_mem_nil) (by decide) (by decide) qw232 csTx1 (fun q9 => ?_)
      refine k_astore B dL_rock_13 (by decide) (by first | exact kRf_r _ | exact kRf_q _ | exact kRf_n) ?_
      try refine kK.set1 (by first | exact True.intro | rfl | exact kCat_q _) ?_
      refine k_iconst B (v := 1) dL_rock_15 (by decide) ?_
      refine k_iret B hr dL_rock_16 ?_ (by first | exact Nat.le_of_ble_eq_true rfl | omega | (simp only [kR, Value.category, kCat_q, List.map, List.sum_cons, List.sum_nil]; omega)) (by first | exact Nat.le_of_ble_eq_true rfl | omega | (simp only [kR, Value.category, kCat_q, List.map, List.sum_cons, List.sum_nil]; omega))
      exact Or.inr ⟨eI, hE, by rw [tCd_I], rfl⟩
    · skip
      rcases gRg_s h22 with rfl | h21
      · skip
        refine k_catch B [⟨0, 10, 13, 13⟩] ⟨0, 10, 17, 15⟩ [] hex (List.forall_mem_cons.mpr ⟨Or.inr ⟨by decide, eI, qw232, kB_ncA B⟩, (fun _ hz => absurd hz List.not_mem_nil)⟩) (by decide) (by decide) qw233 csTx2 (fun q9 => ?_)
        refine k_astore B dL_rock_17 (by decide) (by first | exact kRf_r _ | exact kRf_q _ | exact kRf_n) ?_
        try refine kK.set1 (by first | exact True.intro | rfl | exact kCat_q _) ?_
        refine k_iconst B (v := 2) dL_rock_19 (by decide) ?_
        refine k_iret B hr dL_rock_20 ?_ (by first | exact Nat.le_of_ble_eq_true rfl | omega | (simp only [kR, Value.category, kCat_q, List.map, List.sum_cons, List.sum_nil]; omega)) (by first | exact Nat.le_of_ble_eq_true rfl | omega | (simp only [kR, Value.category, kCat_q, List.map, List.sum_cons, List.sum_nil]; omega))
        exact Or.inr ⟨eA, hE, by rw [tCd_A], rfl⟩
      · cases h21
  · obtain ⟨hg, e1, h2, f2⟩ := hp5
    rw [e1]
    refine kK.rev (y := .int (rRock z p0)) rfl ?_
    refine k_i2l B dL_rock_8 ?_
    refine k_last B dL_rock_9 (f2 _ _ ho nkL) (vp_in_nI (n := 0) (N := 1) (by decide) (by decide)) ?_
    refine k_goto B 21 dL_rock_10 (by decide) ?_
    refine k_iconst B (v := 0) dL_rock_21 (by decide) ?_
    refine k_iret B hr dL_rock_22 ?_ (by first | exact Nat.le_of_ble_eq_true rfl | omega | (simp only [kR, Value.category, kCat_q, List.map, List.sum_cons, List.sum_nil]; omega)) (by first | exact Nat.le_of_ble_eq_true rfl | omega | (simp only [kR, Value.category, kCat_q, List.map, List.sum_cons, List.sum_nil]; omega))
    exact Or.inl ⟨hg, rfl, h2.out (f2 _ _ ho nkL) nkL, ⟨_, kUp_eq, rfl⟩, kFx.of f2⟩
set_option maxRecDepth 100000 in
theorem c_L_land (hl : l.stackTraces = false) (hs : sOk z) (h : cl9 D aO z J F σ) {p0 p1 : Int32} {f0 : Nat → Int64} (ho : σ aL = some (lArr D f0)) : kMh hL_land l D yL_land 9 3 18 [.ref aO, .int p0, .int p1, .ref aL] σ (lPo (gLand z p0 p1) (tCd 1 2 3) (fun s2 => cl9 D aO (nLand z p0 p1) J F s2 ∧ (∃ f, s2 aL = some (lArr D f) ∧ f 0 = (rLand z p0).toInt64) ∧ kFx aL σ s2) σ) (fun _ => False) := by
  refine kM_ofW (L := [some (.ref aO), some (.int p0), some (.int p1), some (.ref aL), none]) (by decide +kernel) hl (List.forall_mem_cons.mpr ⟨rfl, (List.forall_mem_cons.mpr ⟨rfl, (List.forall_mem_cons.mpr ⟨rfl, (List.forall_mem_cons.mpr ⟨rfl, (fun _ h => absurd h List.not_mem_nil)⟩)⟩)⟩)⟩) (Nat.le_of_ble_eq_true rfl) rfl ?_
  intro p e s m args below meth c B hr hex hnm
  have B : kB p l s m args meth c D (kA σ s.heap.size) 5 cL_land RL := B
  obtain ⟨fs9, h9⟩ := h.fs
  refine k_aload_n B dL_land_0 rfl (by first | exact kRf_r _ | exact kRf_q _ | exact kRf_n) ?_
  refine k_iconst B (v := 0) dL_land_1 (by decide) ?_
  refine k_aload_n B dL_land_2 rfl (by first | exact kRf_r _ | exact kRf_q _ | exact kRf_n) ?_
  refine k_iload_n B dL_land_3 rfl ?_
  refine k_iload_n B dL_land_4 rfl ?_
  refine cl_L_17 B (c_X9_land hl hs h) h9 dL_land_5 (by first | exact Nat.le_of_ble_eq_true rfl | omega | (simp only [kR, Value.category, kCat_q, List.map, List.sum_cons, List.sum_nil]; omega)) (by first | exact Nat.le_of_ble_eq_true rfl | omega | (simp only [kR, Value.category, kCat_q, List.map, List.sum_cons, List.sum_nil]; omega)) (by first | exact Nat.le_of_ble_eq_true rfl | omega | (simp only [kR, Value.category, kCat_q, List.map, List.sum_cons, List.sum_nil]; omega)) (by first | exact Nat.le_of_ble_eq_true rfl | omega | (simp only [kR, Value.category, kCat_q, List.map, List.sum_cons, List.sum_nil]; omega)) (by first | exact Nat.le_of_ble_eq_true rfl | omega | (simp only [kR, Value.category, kCat_q, List.map, List.sum_cons, List.sum_nil]; omega)) (fun E hE => ?_) (fun v5 s5 hp5 => ?_)
  · skip
    rcases gCell_s hE with rfl | h23
    · skip
      refine k_catch B [] ⟨0, 10, 13, 13⟩ [⟨0, 10, 17, 15⟩, ⟨0, 10, 21, 20⟩] hex (fun z hz => absurd hz List.not_mem_nil) (by decide) (by decide) qw232 csTx1 (fun q9 => ?_)
      refine k_astore B dL_land_13 (by decide) (by first | exact kRf_r _ | exact kRf_q _ | exact kRf_n) ?_
      try refine kK.set1 (by first | exact True.intro | rfl | exact kCat_q _) ?_
      refine k_iconst B (v := 1) dL_land_15 (by decide) ?_
      refine k_iret B hr dL_land_16 ?_ (by first | exact Nat.le_of_ble_eq_true rfl | omega | (simp only [kR, Value.category, kCat_q, List.map, List.sum_cons, List.sum_nil]; omega)) (by first | exact Nat.le_of_ble_eq_true rfl | omega | (simp only [kR, Value.category, kCat_q, List.map, List.sum_cons, List.sum_nil]; omega))
      exact Or.inr ⟨eI, hE, by rw [tCd_I], rfl⟩
    · skip
      rcases gRg_s h23 with rfl | h22
      · skip
        refine k_catch B [⟨0, 10, 13, 13⟩] ⟨0, 10, 17, 15⟩ [⟨0, 10, 21, 20⟩] hex (List.forall_mem_cons.mpr ⟨Or.inr ⟨by decide, eI, qw232, kB_ncA B⟩, (fun _ hz => absurd hz List.not_mem_nil)⟩) (by decide) (by decide) qw233 csTx2 (fun q9 => ?_)
        refine k_astore B dL_land_17 (by decide) (by first | exact kRf_r _ | exact kRf_q _ | exact kRf_n) ?_
        try refine kK.set1 (by first | exact True.intro | rfl | exact kCat_q _) ?_
        refine k_iconst B (v := 2) dL_land_19 (by decide) ?_
        refine k_iret B hr dL_land_20 ?_ (by first | exact Nat.le_of_ble_eq_true rfl | omega | (simp only [kR, Value.category, kCat_q, List.map, List.sum_cons, List.sum_nil]; omega)) (by first | exact Nat.le_of_ble_eq_true rfl | omega | (simp only [kR, Value.category, kCat_q, List.map, List.sum_cons, List.sum_nil]; omega))
        exact Or.inr ⟨eA, hE, by rw [tCd_A], rfl⟩
      · skip
        obtain rfl := gSt_s h22
        refine k_catch B [⟨0, 10, 13, 13⟩, ⟨0, 10, 17, 15⟩] ⟨0, 10, 21, 20⟩ [] hex (List.forall_mem_cons.mpr ⟨Or.inr ⟨by decide, eI, qw232, kB_ncSI B⟩, (List.forall_mem_cons.mpr ⟨Or.inr ⟨by decide, eA, qw233, kB_ncSA B⟩, (fun _ hz => absurd hz List.not_mem_nil)⟩)⟩) (by decide) (by decide) qw338 csTx3 (fun q9 => ?_)
        refine k_astore B dL_land_21 (by decide) (by first | exact kRf_r _ | exact kRf_q _ | exact kRf_n) ?_
        try refine kK.set1 (by first | exact True.intro | rfl | exact kCat_q _) ?_
        refine k_iconst B (v := 3) dL_land_23 (by decide) ?_
        refine k_iret B hr dL_land_24 ?_ (by first | exact Nat.le_of_ble_eq_true rfl | omega | (simp only [kR, Value.category, kCat_q, List.map, List.sum_cons, List.sum_nil]; omega)) (by first | exact Nat.le_of_ble_eq_true rfl | omega | (simp only [kR, Value.category, kCat_q, List.map, List.sum_cons, List.sum_nil]; omega))
        exact Or.inr ⟨eS, hE, by rw [tCd_S], rfl⟩
  · obtain ⟨hg, e1, h2, f2⟩ := hp5
    rw [e1]
    refine kK.rev (y := .int (rLand z p0)) rfl ?_
    refine k_i2l B dL_land_8 ?_
    refine k_last B dL_land_9 (f2 _ _ ho nkL) (vp_in_nI (n := 0) (N := 1) (by decide) (by decide)) ?_
    refine k_goto B 25 dL_land_10 (by decide) ?_
    refine k_iconst B (v := 0) dL_land_25 (by decide) ?_
    refine k_iret B hr dL_land_26 ?_ (by first | exact Nat.le_of_ble_eq_true rfl | omega | (simp only [kR, Value.category, kCat_q, List.map, List.sum_cons, List.sum_nil]; omega)) (by first | exact Nat.le_of_ble_eq_true rfl | omega | (simp only [kR, Value.category, kCat_q, List.map, List.sum_cons, List.sum_nil]; omega))
    exact Or.inl ⟨hg, rfl, h2.out (f2 _ _ ho nkL) nkL, ⟨_, kUp_eq, rfl⟩, kFx.of f2⟩
set_option maxRecDepth 100000 in
theorem c_L_lead (hl : l.stackTraces = false) (hs : sOk z) (h : cl9 D aO z J F σ) {p0 p1 : Int32} {f0 : Nat → Int64} (ho : σ aL = some (lArr D f0)) : kMh hL_lead l D yL_lead 9 3 18 [.ref aO, .int p0, .int p1, .ref aL] σ (lPo (gLead p0 p1) (tCd 1 2 3) (fun s2 => cl9 D aO (nLead z p0 p1) J F s2 ∧ (∃ f, s2 aL = some (lArr D f) ∧ f 0 = (rLead z p0).toInt64) ∧ kFx aL σ s2) σ) (fun _ => False) := by
  refine kM_ofW (L := [some (.ref aO), some (.int p0), some (.int p1), some (.ref aL), none]) (by decide +kernel) hl (List.forall_mem_cons.mpr ⟨rfl, (List.forall_mem_cons.mpr ⟨rfl, (List.forall_mem_cons.mpr ⟨rfl, (List.forall_mem_cons.mpr ⟨rfl, (fun _ h => absurd h List.not_mem_nil)⟩)⟩)⟩)⟩) (Nat.le_of_ble_eq_true rfl) rfl ?_
  intro p e s m args below meth c B hr hex hnm
  have B : kB p l s m args meth c D (kA σ s.heap.size) 5 cL_lead RL := B
  obtain ⟨fs9, h9⟩ := h.fs
  refine k_aload_n B dL_lead_0 rfl (by first | exact kRf_r _ | exact kRf_q _ | exact kRf_n) ?_
  refine k_iconst B (v := 0) dL_lead_1 (by decide) ?_
  refine k_aload_n B dL_lead_2 rfl (by first | exact kRf_r _ | exact kRf_q _ | exact kRf_n) ?_
  refine k_iload_n B dL_lead_3 rfl ?_
  refine k_iload_n B dL_lead_4 rfl ?_
  refine cl_L_22 B (c_X9_lead hl hs h) h9 dL_lead_5 (by first | exact Nat.le_of_ble_eq_true rfl | omega | (simp only [kR, Value.category, kCat_q, List.map, List.sum_cons, List.sum_nil]; omega)) (by first | exact Nat.le_of_ble_eq_true rfl | omega | (simp only [kR, Value.category, kCat_q, List.map, List.sum_cons, List.sum_nil]; omega)) (by first | exact Nat.le_of_ble_eq_true rfl | omega | (simp only [kR, Value.category, kCat_q, List.map, List.sum_cons, List.sum_nil]; omega)) (by first | exact Nat.le_of_ble_eq_true rfl | omega | (simp only [kR, Value.category, kCat_q, List.map, List.sum_cons, List.sum_nil]; omega)) (by first | exact Nat.le_of_ble_eq_true rfl | omega | (simp only [kR, Value.category, kCat_q, List.map, List.sum_cons, List.sum_nil]; omega)) (fun E hE => ?_) (fun v5 s5 hp5 => ?_)
  · skip
    rcases gLead_s hE with rfl | rfl
    · skip
      refine k_catch B [] ⟨0, 10, 13, 13⟩ [⟨0, 10, 17, 15⟩] hex (fun z hz => absurd hz List.not_mem_nil) (by decide) (by decide) qw232 csTx1 (fun q9 => ?_)
      refine k_astore B dL_lead_13 (by decide) (by first | exact kRf_r _ | exact kRf_q _ | exact kRf_n) ?_
      try refine kK.set1 (by first | exact True.intro | rfl | exact kCat_q _) ?_
      refine k_iconst B (v := 1) dL_lead_15 (by decide) ?_
      refine k_iret B hr dL_lead_16 ?_ (by first | exact Nat.le_of_ble_eq_true rfl | omega | (simp only [kR, Value.category, kCat_q, List.map, List.sum_cons, List.sum_nil]; omega)) (by first | exact Nat.le_of_ble_eq_true rfl | omega | (simp only [kR, Value.category, kCat_q, List.map, List.sum_cons, List.sum_nil]; omega))
      exact Or.inr ⟨eI, hE, by rw [tCd_I], rfl⟩
    · skip
      refine k_catch B [⟨0, 10, 13, 13⟩] ⟨0, 10, 17, 15⟩ [] hex (List.forall_mem_cons.mpr ⟨Or.inr ⟨by decide, eI, qw232, kB_ncA B⟩, (fun _ hz => absurd hz List.not_mem_nil)⟩) (by decide) (by decide) qw233 csTx2 (fun q9 => ?_)
      refine k_astore B dL_lead_17 (by decide) (by first | exact kRf_r _ | exact kRf_q _ | exact kRf_n) ?_
      try refine kK.set1 (by first | exact True.intro | rfl | exact kCat_q _) ?_
      refine k_iconst B (v := 2) dL_lead_19 (by decide) ?_
      refine k_iret B hr dL_lead_20 ?_ (by first | exact Nat.le_of_ble_eq_true rfl | omega | (simp only [kR, Value.category, kCat_q, List.map, List.sum_cons, List.sum_nil]; omega)) (by first | exact Nat.le_of_ble_eq_true rfl | omega | (simp only [kR, Value.category, kCat_q, List.map, List.sum_cons, List.sum_nil]; omega))
      exact Or.inr ⟨eA, hE, by rw [tCd_A], rfl⟩
  · obtain ⟨hg, e1, h2, f2⟩ := hp5
    rw [e1]
    refine kK.rev (y := .int (rLead z p0)) rfl ?_
    refine k_i2l B dL_lead_8 ?_
    refine k_last B dL_lead_9 (f2 _ _ ho nkL) (vp_in_nI (n := 0) (N := 1) (by decide) (by decide)) ?_
    refine k_goto B 21 dL_lead_10 (by decide) ?_
    refine k_iconst B (v := 0) dL_lead_21 (by decide) ?_
    refine k_iret B hr dL_lead_22 ?_ (by first | exact Nat.le_of_ble_eq_true rfl | omega | (simp only [kR, Value.category, kCat_q, List.map, List.sum_cons, List.sum_nil]; omega)) (by first | exact Nat.le_of_ble_eq_true rfl | omega | (simp only [kR, Value.category, kCat_q, List.map, List.sum_cons, List.sum_nil]; omega))
    exact Or.inl ⟨hg, rfl, h2.out (f2 _ _ ho nkL) nkL, ⟨_, kUp_eq, rfl⟩, kFx.of f2⟩
set_option maxRecDepth 100000 in
theorem c_L_spill (hl : l.stackTraces = false) (hs : sOk z) (h : cl9 D aO z J F σ) {p0 p1 : Int32} {f0 : Nat → Int64} (ho : σ aL = some (lArr D f0)) : kMh hL_spill l D yL_spill 9 3 18 [.ref aO, .int p0, .int p1, .ref aL] σ (lPo (gSpill z p0 p1) (tCd 1 2 2) (fun s2 => cl9 D aO (nSpill z p0 p1) J F s2 ∧ (∃ f, s2 aL = some (lArr D f) ∧ f 0 = (rSpill z p0 p1).toInt64) ∧ kFx aL σ s2) σ) (fun _ => False) := by
  refine kM_ofW (L := [some (.ref aO), some (.int p0), some (.int p1), some (.ref aL), none]) (by decide +kernel) hl (List.forall_mem_cons.mpr ⟨rfl, (List.forall_mem_cons.mpr ⟨rfl, (List.forall_mem_cons.mpr ⟨rfl, (List.forall_mem_cons.mpr ⟨rfl, (fun _ h => absurd h List.not_mem_nil)⟩)⟩)⟩)⟩) (Nat.le_of_ble_eq_true rfl) rfl ?_
  intro p e s m args below meth c B hr hex hnm
  have B : kB p l s m args meth c D (kA σ s.heap.size) 5 cL_spill RL := B
  obtain ⟨fs9, h9⟩ := h.fs
  refine k_aload_n B dL_spill_0 rfl (by first | exact kRf_r _ | exact kRf_q _ | exact kRf_n) ?_
  refine k_iconst B (v := 0) dL_spill_1 (by decide) ?_
  refine k_aload_n B dL_spill_2 rfl (by first | exact kRf_r _ | exact kRf_q _ | exact kRf_n) ?_
  refine k_iload_n B dL_spill_3 rfl ?_
  refine k_iload_n B dL_spill_4 rfl ?_
  refine cl_L_25 B (c_X9_spill hl hs h) h9 dL_spill_5 (by first | exact Nat.le_of_ble_eq_true rfl | omega | (simp only [kR, Value.category, kCat_q, List.map, List.sum_cons, List.sum_nil]; omega)) (by first | exact Nat.le_of_ble_eq_true rfl | omega | (simp only [kR, Value.category, kCat_q, List.map, List.sum_cons, List.sum_nil]; omega)) (by first | exact Nat.le_of_ble_eq_true rfl | omega | (simp only [kR, Value.category, kCat_q, List.map, List.sum_cons, List.sum_nil]; omega)) (by first | exact Nat.le_of_ble_eq_true rfl | omega | (simp only [kR, Value.category, kCat_q, List.map, List.sum_cons, List.sum_nil]; omega)) (by first | exact Nat.le_of_ble_eq_true rfl | omega | (simp only [kR, Value.category, kCat_q, List.map, List.sum_cons, List.sum_nil]; omega)) (fun E hE => ?_) (fun v5 s5 hp5 => ?_)
  · skip
    rcases gCell_s hE with rfl | h23
    · skip
      refine k_catch B [] ⟨0, 10, 13, 13⟩ [⟨0, 10, 17, 20⟩] hex (fun z hz => absurd hz List.not_mem_nil) (by decide) (by decide) qw232 csTx1 (fun q9 => ?_)
      refine k_astore B dL_spill_13 (by decide) (by first | exact kRf_r _ | exact kRf_q _ | exact kRf_n) ?_
      try refine kK.set1 (by first | exact True.intro | rfl | exact kCat_q _) ?_
      refine k_iconst B (v := 1) dL_spill_15 (by decide) ?_
      refine k_iret B hr dL_spill_16 ?_ (by first | exact Nat.le_of_ble_eq_true rfl | omega | (simp only [kR, Value.category, kCat_q, List.map, List.sum_cons, List.sum_nil]; omega)) (by first | exact Nat.le_of_ble_eq_true rfl | omega | (simp only [kR, Value.category, kCat_q, List.map, List.sum_cons, List.sum_nil]; omega))
      exact Or.inr ⟨eI, hE, by rw [tCd_I], rfl⟩
    · skip
      rcases gIx_s h23 with rfl | h22
      · skip
        refine k_catch B [] ⟨0, 10, 13, 13⟩ [⟨0, 10, 17, 20⟩] hex (fun z hz => absurd hz List.not_mem_nil) (by decide) (by decide) qw232 csTx1 (fun q9 => ?_)
        refine k_astore B dL_spill_13 (by decide) (by first | exact kRf_r _ | exact kRf_q _ | exact kRf_n) ?_
        try refine kK.set1 (by first | exact True.intro | rfl | exact kCat_q _) ?_
        refine k_iconst B (v := 1) dL_spill_15 (by decide) ?_
        refine k_iret B hr dL_spill_16 ?_ (by first | exact Nat.le_of_ble_eq_true rfl | omega | (simp only [kR, Value.category, kCat_q, List.map, List.sum_cons, List.sum_nil]; omega)) (by first | exact Nat.le_of_ble_eq_true rfl | omega | (simp only [kR, Value.category, kCat_q, List.map, List.sum_cons, List.sum_nil]; omega))
        exact Or.inr ⟨eI, hE, by rw [tCd_I], rfl⟩
      · skip
        obtain rfl := gSt_s h22
        refine k_catch B [⟨0, 10, 13, 13⟩] ⟨0, 10, 17, 20⟩ [] hex (List.forall_mem_cons.mpr ⟨Or.inr ⟨by decide, eI, qw232, kB_ncSI B⟩, (fun _ hz => absurd hz List.not_mem_nil)⟩) (by decide) (by decide) qw338 csTx3 (fun q9 => ?_)
        refine k_astore B dL_spill_17 (by decide) (by first | exact kRf_r _ | exact kRf_q _ | exact kRf_n) ?_
        try refine kK.set1 (by first | exact True.intro | rfl | exact kCat_q _) ?_
        refine k_iconst B (v := 2) dL_spill_19 (by decide) ?_
        refine k_iret B hr dL_spill_20 ?_ (by first | exact Nat.le_of_ble_eq_true rfl | omega | (simp only [kR, Value.category, kCat_q, List.map, List.sum_cons, List.sum_nil]; omega)) (by first | exact Nat.le_of_ble_eq_true rfl | omega | (simp only [kR, Value.category, kCat_q, List.map, List.sum_cons, List.sum_nil]; omega))
        exact Or.inr ⟨eS, hE, by rw [tCd_S], rfl⟩
  · obtain ⟨hg, e1, h2, f2⟩ := hp5
    rw [e1]
    refine kK.rev (y := .int (rSpill z p0 p1)) rfl ?_
    refine k_i2l B dL_spill_8 ?_
    refine k_last B dL_spill_9 (f2 _ _ ho nkL) (vp_in_nI (n := 0) (N := 1) (by decide) (by decide)) ?_
    refine k_goto B 21 dL_spill_10 (by decide) ?_
    refine k_iconst B (v := 0) dL_spill_21 (by decide) ?_
    refine k_iret B hr dL_spill_22 ?_ (by first | exact Nat.le_of_ble_eq_true rfl | omega | (simp only [kR, Value.category, kCat_q, List.map, List.sum_cons, List.sum_nil]; omega)) (by first | exact Nat.le_of_ble_eq_true rfl | omega | (simp only [kR, Value.category, kCat_q, List.map, List.sum_cons, List.sum_nil]; omega))
    exact Or.inl ⟨hg, rfl, h2.out (f2 _ _ ho nkL) nkL, ⟨_, kUp_eq, rfl⟩, kFx.of f2⟩
set_option maxRecDepth 100000 in
theorem c_L_contract (hl : l.stackTraces = false) (hs : sOk z) (h : cl9 D aO z J F σ) {p0 p1 p2 : Int32} : kMh hL_contract l D yL_contract 9 4 24 [.ref aO, .int p0, .int p1, .int p2] σ (lPo (gContract z p0 p1 p2) (tCd 1 2 3) (fun s2 => cl9 D aO (nContract z p0 p1 p2) J F s2 ∧ kFr k9F σ s2) σ) (fun _ => False) := by
  refine kM_ofW (L := [some (.ref aO), some (.int p0), some (.int p1), some (.int p2), none]) (by decide +kernel) hl (List.forall_mem_cons.mpr ⟨rfl, (List.forall_mem_cons.mpr ⟨rfl, (List.forall_mem_cons.mpr ⟨rfl, (List.forall_mem_cons.mpr ⟨rfl, (fun _ h => absurd h List.not_mem_nil)⟩)⟩)⟩)⟩) (Nat.le_of_ble_eq_true rfl) rfl ?_
  intro p e s m args below meth c B hr hex hnm
  have B : kB p l s m args meth c D (kA σ s.heap.size) 5 cL_contract RL := B
  obtain ⟨fs9, h9⟩ := h.fs
  refine k_aload_n B dL_contract_0 rfl (by first | exact kRf_r _ | exact kRf_q _ | exact kRf_n) ?_
  refine k_iload_n B dL_contract_1 rfl ?_
  refine k_iload_n B dL_contract_2 rfl ?_
  refine k_iload_n B dL_contract_3 rfl ?_
  refine cl_L_28 B (c_X9_contract hl hs h) h9 dL_contract_4 (by first | exact Nat.le_of_ble_eq_true rfl | omega | (simp only [kR, Value.category, kCat_q, List.map, List.sum_cons, List.sum_nil]; omega)) (by first | exact Nat.le_of_ble_eq_true rfl | omega | (simp only [kR, Value.category, kCat_q, List.map, List.sum_cons, List.sum_nil]; omega)) (by first | exact Nat.le_of_ble_eq_true rfl | omega | (simp only [kR, Value.category, kCat_q, List.map, List.sum_cons, List.sum_nil]; omega)) (by first | exact Nat.le_of_ble_eq_true rfl | omega | (simp only [kR, Value.category, kCat_q, List.map, List.sum_cons, List.sum_nil]; omega)) (by first | exact Nat.le_of_ble_eq_true rfl | omega | (simp only [kR, Value.category, kCat_q, List.map, List.sum_cons, List.sum_nil]; omega)) (fun E hE => ?_) (fun v4 s4 hp4 => ?_)
  · skip
    rcases gCell_s hE with rfl | h24
    · skip
      refine k_catch B [] ⟨0, 7, 10, 13⟩ [⟨0, 7, 14, 15⟩, ⟨0, 7, 18, 20⟩] hex (fun z hz => absurd hz List.not_mem_nil) (by decide) (by decide) qw232 csTx1 (fun q9 => ?_)
      refine k_astore B dL_contract_10 (by decide) (by first | exact kRf_r _ | exact kRf_q _ | exact kRf_n) ?_
      try refine kK.set1 (by first | exact True.intro | rfl | exact kCat_q _) ?_
      refine k_iconst B (v := 1) dL_contract_12 (by decide) ?_
      refine k_iret B hr dL_contract_13 ?_ (by first | exact Nat.le_of_ble_eq_true rfl | omega | (simp only [kR, Value.category, kCat_q, List.map, List.sum_cons, List.sum_nil]; omega)) (by first | exact Nat.le_of_ble_eq_true rfl | omega | (simp only [kR, Value.category, kCat_q, List.map, List.sum_cons, List.sum_nil]; omega))
      exact Or.inr ⟨eI, hE, by rw [tCd_I], rfl⟩
    · skip
      rcases gRg_s h24 with rfl | h23
      · skip
        refine k_catch B [⟨0, 7, 10, 13⟩] ⟨0, 7, 14, 15⟩ [⟨0, 7, 18, 20⟩] hex (List.forall_mem_cons.mpr ⟨Or.inr ⟨by decide, eI, qw232, kB_ncA B⟩, (fun _ hz => absurd hz List.not_mem_nil)⟩) (by decide) (by decide) qw233 csTx2 (fun q9 => ?_)
        refine k_astore B dL_contract_14 (by decide) (by first | exact kRf_r _ | exact kRf_q _ | exact kRf_n) ?_
        try refine kK.set1 (by first | exact True.intro | rfl | exact kCat_q _) ?_
        refine k_iconst B (v := 2) dL_contract_16 (by decide) ?_
        refine k_iret B hr dL_contract_17 ?_ (by first | exact Nat.le_of_ble_eq_true rfl | omega | (simp only [kR, Value.category, kCat_q, List.map, List.sum_cons, List.sum_nil]; omega)) (by first | exact Nat.le_of_ble_eq_true rfl | omega | (simp only [kR, Value.category, kCat_q, List.map, List.sum_cons, List.sum_nil]; omega))
        exact Or.inr ⟨eA, hE, by rw [tCd_A], rfl⟩
      · skip
        rcases gRg_s h23 with rfl | h22
        · skip
          refine k_catch B [⟨0, 7, 10, 13⟩] ⟨0, 7, 14, 15⟩ [⟨0, 7, 18, 20⟩] hex (List.forall_mem_cons.mpr ⟨Or.inr ⟨by decide, eI, qw232, kB_ncA B⟩, (fun _ hz => absurd hz List.not_mem_nil)⟩) (by decide) (by decide) qw233 csTx2 (fun q9 => ?_)
          refine k_astore B dL_contract_14 (by decide) (by first | exact kRf_r _ | exact kRf_q _ | exact kRf_n) ?_
          try refine kK.set1 (by first | exact True.intro | rfl | exact kCat_q _) ?_
          refine k_iconst B (v := 2) dL_contract_16 (by decide) ?_
          refine k_iret B hr dL_contract_17 ?_ (by first | exact Nat.le_of_ble_eq_true rfl | omega | (simp only [kR, Value.category, kCat_q, List.map, List.sum_cons, List.sum_nil]; omega)) (by first | exact Nat.le_of_ble_eq_true rfl | omega | (simp only [kR, Value.category, kCat_q, List.map, List.sum_cons, List.sum_nil]; omega))
          exact Or.inr ⟨eA, hE, by rw [tCd_A], rfl⟩
        · skip
          obtain rfl := gSt_s h22
          refine k_catch B [⟨0, 7, 10, 13⟩, ⟨0, 7, 14, 15⟩] ⟨0, 7, 18, 20⟩ [] hex (List.forall_mem_cons.mpr ⟨Or.inr ⟨by decide, eI, qw232, kB_ncSI B⟩, (List.forall_mem_cons.mpr ⟨Or.inr ⟨by decide, eA, qw233, kB_ncSA B⟩, (fun _ hz => absurd hz List.not_mem_nil)⟩)⟩) (by decide) (by decide) qw338 csTx3 (fun q9 => ?_)
          refine k_astore B dL_contract_18 (by decide) (by first | exact kRf_r _ | exact kRf_q _ | exact kRf_n) ?_
          try refine kK.set1 (by first | exact True.intro | rfl | exact kCat_q _) ?_
          refine k_iconst B (v := 3) dL_contract_20 (by decide) ?_
          refine k_iret B hr dL_contract_21 ?_ (by first | exact Nat.le_of_ble_eq_true rfl | omega | (simp only [kR, Value.category, kCat_q, List.map, List.sum_cons, List.sum_nil]; omega)) (by first | exact Nat.le_of_ble_eq_true rfl | omega | (simp only [kR, Value.category, kCat_q, List.map, List.sum_cons, List.sum_nil]; omega))
          exact Or.inr ⟨eS, hE, by rw [tCd_S], rfl⟩
  · obtain ⟨hg, e1, h2, f2⟩ := hp4
    rw [e1]
    refine k_goto B 22 dL_contract_7 (by decide) ?_
    refine k_iconst B (v := 0) dL_contract_22 (by decide) ?_
    refine k_iret B hr dL_contract_23 ?_ (by first | exact Nat.le_of_ble_eq_true rfl | omega | (simp only [kR, Value.category, kCat_q, List.map, List.sum_cons, List.sum_nil]; omega)) (by first | exact Nat.le_of_ble_eq_true rfl | omega | (simp only [kR, Value.category, kCat_q, List.map, List.sum_cons, List.sum_nil]; omega))
    exact Or.inl ⟨hg, rfl, h2, f2⟩
set_option maxRecDepth 100000 in
theorem c_L_pass (hl : l.stackTraces = false) (hs : sOk z) (h : cl9 D aO z J F σ) {p0 p1 : Int32} {f0 : Nat → Int64} (ho : σ aL = some (lArr D f0)) : kMh hL_pass l D yL_pass 9 (3 + 31 * passN z p0 p1) (18 + 164 * passN z p0 p1) [.ref aO, .int p0, .int p1, .ref aL] σ (lPo (gPass z p0 p1) (tCd 1 1 2) (fun s2 => cl9 D aO (nPass z p0 p1) (jPass z p0 p1 J) F s2 ∧ (∃ f, s2 aL = some (lArr D f) ∧ f 0 = (rPass z p0 p1).toInt64) ∧ kFx aL σ s2) σ) (fun _ => False) := by
  refine kM_ofW (L := [some (.ref aO), some (.int p0), some (.int p1), some (.ref aL), none]) (by decide +kernel) hl (List.forall_mem_cons.mpr ⟨rfl, (List.forall_mem_cons.mpr ⟨rfl, (List.forall_mem_cons.mpr ⟨rfl, (List.forall_mem_cons.mpr ⟨rfl, (fun _ h => absurd h List.not_mem_nil)⟩)⟩)⟩)⟩) (Nat.le_of_ble_eq_true rfl) rfl ?_
  intro p e s m args below meth c B hr hex hnm
  have B : kB p l s m args meth c D (kA σ s.heap.size) 5 cL_pass RL := B
  obtain ⟨fs9, h9⟩ := h.fs
  refine k_aload_n B dL_pass_0 rfl (by first | exact kRf_r _ | exact kRf_q _ | exact kRf_n) ?_
  refine k_iconst B (v := 0) dL_pass_1 (by decide) ?_
  refine k_aload_n B dL_pass_2 rfl (by first | exact kRf_r _ | exact kRf_q _ | exact kRf_n) ?_
  refine k_iload_n B dL_pass_3 rfl ?_
  refine k_iload_n B dL_pass_4 rfl ?_
  refine cl_L_32 B (c_X9_pass hl hs h) h9 dL_pass_5 (by first | exact Nat.le_of_ble_eq_true rfl | omega | (simp only [kR, Value.category, kCat_q, List.map, List.sum_cons, List.sum_nil]; omega)) (by first | exact Nat.le_of_ble_eq_true rfl | omega | (simp only [kR, Value.category, kCat_q, List.map, List.sum_cons, List.sum_nil]; omega)) (by first | exact Nat.le_of_ble_eq_true rfl | omega | (simp only [kR, Value.category, kCat_q, List.map, List.sum_cons, List.sum_nil]; omega)) (by first | exact Nat.le_of_ble_eq_true rfl | omega | (simp only [kR, Value.category, kCat_q, List.map, List.sum_cons, List.sum_nil]; omega)) (by first | exact Nat.le_of_ble_eq_true rfl | omega | (simp only [kR, Value.category, kCat_q, List.map, List.sum_cons, List.sum_nil]; omega)) (fun E hE => ?_) (fun v5 s5 hp5 => ?_)
  · skip
    rcases gRg_s hE with rfl | h23
    · skip
      refine k_catch B [] ⟨0, 10, 13, 15⟩ [⟨0, 10, 17, 20⟩] hex (fun z hz => absurd hz List.not_mem_nil) (by decide) (by decide) qw233 csTx2 (fun q9 => ?_)
      refine k_astore B dL_pass_13 (by decide) (by first | exact kRf_r _ | exact kRf_q _ | exact kRf_n) ?_
      try refine kK.set1 (by first | exact True.intro | rfl | exact kCat_q _) ?_
      refine k_iconst B (v := 1) dL_pass_15 (by decide) ?_
      refine k_iret B hr dL_pass_16 ?_ (by first | exact Nat.le_of_ble_eq_true rfl | omega | (simp only [kR, Value.category, kCat_q, List.map, List.sum_cons, List.sum_nil]; omega)) (by first | exact Nat.le_of_ble_eq_true rfl | omega | (simp only [kR, Value.category, kCat_q, List.map, List.sum_cons, List.sum_nil]; omega))
      exact Or.inr ⟨eA, hE, by rw [tCd_A], rfl⟩
    · skip
      rcases gRg_s h23 with rfl | h22
      · skip
        refine k_catch B [] ⟨0, 10, 13, 15⟩ [⟨0, 10, 17, 20⟩] hex (fun z hz => absurd hz List.not_mem_nil) (by decide) (by decide) qw233 csTx2 (fun q9 => ?_)
        refine k_astore B dL_pass_13 (by decide) (by first | exact kRf_r _ | exact kRf_q _ | exact kRf_n) ?_
        try refine kK.set1 (by first | exact True.intro | rfl | exact kCat_q _) ?_
        refine k_iconst B (v := 1) dL_pass_15 (by decide) ?_
        refine k_iret B hr dL_pass_16 ?_ (by first | exact Nat.le_of_ble_eq_true rfl | omega | (simp only [kR, Value.category, kCat_q, List.map, List.sum_cons, List.sum_nil]; omega)) (by first | exact Nat.le_of_ble_eq_true rfl | omega | (simp only [kR, Value.category, kCat_q, List.map, List.sum_cons, List.sum_nil]; omega))
        exact Or.inr ⟨eA, hE, by rw [tCd_A], rfl⟩
      · skip
        obtain rfl := gSt_s h22
        refine k_catch B [⟨0, 10, 13, 15⟩] ⟨0, 10, 17, 20⟩ [] hex (List.forall_mem_cons.mpr ⟨Or.inr ⟨by decide, eA, qw233, kB_ncSA B⟩, (fun _ hz => absurd hz List.not_mem_nil)⟩) (by decide) (by decide) qw338 csTx3 (fun q9 => ?_)
        refine k_astore B dL_pass_17 (by decide) (by first | exact kRf_r _ | exact kRf_q _ | exact kRf_n) ?_
        try refine kK.set1 (by first | exact True.intro | rfl | exact kCat_q _) ?_
        refine k_iconst B (v := 2) dL_pass_19 (by decide) ?_
        refine k_iret B hr dL_pass_20 ?_ (by first | exact Nat.le_of_ble_eq_true rfl | omega | (simp only [kR, Value.category, kCat_q, List.map, List.sum_cons, List.sum_nil]; omega)) (by first | exact Nat.le_of_ble_eq_true rfl | omega | (simp only [kR, Value.category, kCat_q, List.map, List.sum_cons, List.sum_nil]; omega))
        exact Or.inr ⟨eS, hE, by rw [tCd_S], rfl⟩
  · obtain ⟨hg, e1, h2, f2⟩ := hp5
    rw [e1]
    refine kK.rev (y := .int (rPass z p0 p1)) rfl ?_
    refine k_i2l B dL_pass_8 ?_
    refine k_last B dL_pass_9 (f2 _ _ ho nkL) (vp_in_nI (n := 0) (N := 1) (by decide) (by decide)) ?_
    refine k_goto B 21 dL_pass_10 (by decide) ?_
    refine k_iconst B (v := 0) dL_pass_21 (by decide) ?_
    refine k_iret B hr dL_pass_22 ?_ (by first | exact Nat.le_of_ble_eq_true rfl | omega | (simp only [kR, Value.category, kCat_q, List.map, List.sum_cons, List.sum_nil]; omega)) (by first | exact Nat.le_of_ble_eq_true rfl | omega | (simp only [kR, Value.category, kCat_q, List.map, List.sum_cons, List.sum_nil]; omega))
    exact Or.inl ⟨hg, rfl, h2.out (f2 _ _ ho nkL) nkL, ⟨_, kUp_eq, rfl⟩, kFx.of f2⟩
set_option maxRecDepth 100000 in
theorem c_L_well (hl : l.stackTraces = false) (hs : sOk z) (h : cl9 D aO z J F σ) {p0 p1 : Int32} {f0 : Nat → Int64} (ho : σ aL = some (lArr D f0)) : kMh hL_well l D yL_well 9 4 21 [.ref aO, .int p0, .int p1, .ref aL] σ (lPo (gWell z p0 p1) (tCd 1 2 3) (fun s2 => cl9 D aO (nWell z p0 p1) J F s2 ∧ (∃ f, s2 aL = some (lArr D f) ∧ f 0 = (rWell z).toInt64) ∧ kFx aL σ s2) σ) (fun _ => False) := by
  refine kM_ofW (L := [some (.ref aO), some (.int p0), some (.int p1), some (.ref aL), none]) (by decide +kernel) hl (List.forall_mem_cons.mpr ⟨rfl, (List.forall_mem_cons.mpr ⟨rfl, (List.forall_mem_cons.mpr ⟨rfl, (List.forall_mem_cons.mpr ⟨rfl, (fun _ h => absurd h List.not_mem_nil)⟩)⟩)⟩)⟩) (Nat.le_of_ble_eq_true rfl) rfl ?_
  intro p e s m args below meth c B hr hex hnm
  have B : kB p l s m args meth c D (kA σ s.heap.size) 5 cL_well RL := B
  obtain ⟨fs9, h9⟩ := h.fs
  refine k_aload_n B dL_well_0 rfl (by first | exact kRf_r _ | exact kRf_q _ | exact kRf_n) ?_
  refine k_iconst B (v := 0) dL_well_1 (by decide) ?_
  refine k_aload_n B dL_well_2 rfl (by first | exact kRf_r _ | exact kRf_q _ | exact kRf_n) ?_
  refine k_iload_n B dL_well_3 rfl ?_
  refine k_iload_n B dL_well_4 rfl ?_
  refine cl_L_35 B (c_X9_well hl hs h) h9 dL_well_5 (by first | exact Nat.le_of_ble_eq_true rfl | omega | (simp only [kR, Value.category, kCat_q, List.map, List.sum_cons, List.sum_nil]; omega)) (by first | exact Nat.le_of_ble_eq_true rfl | omega | (simp only [kR, Value.category, kCat_q, List.map, List.sum_cons, List.sum_nil]; omega)) (by first | exact Nat.le_of_ble_eq_true rfl | omega | (simp only [kR, Value.category, kCat_q, List.map, List.sum_cons, List.sum_nil]; omega)) (by first | exact Nat.le_of_ble_eq_true rfl | omega | (simp only [kR, Value.category, kCat_q, List.map, List.sum_cons, List.sum_nil]; omega)) (by first | exact Nat.le_of_ble_eq_true rfl | omega | (simp only [kR, Value.category, kCat_q, List.map, List.sum_cons, List.sum_nil]; omega)) (fun E hE => ?_) (fun v5 s5 hp5 => ?_)
  · skip
    rcases gCell_s hE with rfl | h23
    · skip
      refine k_catch B [] ⟨0, 10, 13, 13⟩ [⟨0, 10, 17, 15⟩, ⟨0, 10, 21, 20⟩] hex (fun z hz => absurd hz List.not_mem_nil) (by decide) (by decide) qw232 csTx1 (fun q9 => ?_)
      refine k_astore B dL_well_13 (by decide) (by first | exact kRf_r _ | exact kRf_q _ | exact kRf_n) ?_
      try refine kK.set1 (by first | exact True.intro | rfl | exact kCat_q _) ?_
      refine k_iconst B (v := 1) dL_well_15 (by decide) ?_
      refine k_iret B hr dL_well_16 ?_ (by first | exact Nat.le_of_ble_eq_true rfl | omega | (simp only [kR, Value.category, kCat_q, List.map, List.sum_cons, List.sum_nil]; omega)) (by first | exact Nat.le_of_ble_eq_true rfl | omega | (simp only [kR, Value.category, kCat_q, List.map, List.sum_cons, List.sum_nil]; omega))
      exact Or.inr ⟨eI, hE, by rw [tCd_I], rfl⟩
    · skip
      rcases gRg_s h23 with rfl | h22
      · skip
        refine k_catch B [⟨0, 10, 13, 13⟩] ⟨0, 10, 17, 15⟩ [⟨0, 10, 21, 20⟩] hex (List.forall_mem_cons.mpr ⟨Or.inr ⟨by decide, eI, qw232, kB_ncA B⟩, (fun _ hz => absurd hz List.not_mem_nil)⟩) (by decide) (by decide) qw233 csTx2 (fun q9 => ?_)
        refine k_astore B dL_well_17 (by decide) (by first | exact kRf_r _ | exact kRf_q _ | exact kRf_n) ?_
        try refine kK.set1 (by first | exact True.intro | rfl | exact kCat_q _) ?_
        refine k_iconst B (v := 2) dL_well_19 (by decide) ?_
        refine k_iret B hr dL_well_20 ?_ (by first | exact Nat.le_of_ble_eq_true rfl | omega | (simp only [kR, Value.category, kCat_q, List.map, List.sum_cons, List.sum_nil]; omega)) (by first | exact Nat.le_of_ble_eq_true rfl | omega | (simp only [kR, Value.category, kCat_q, List.map, List.sum_cons, List.sum_nil]; omega))
        exact Or.inr ⟨eA, hE, by rw [tCd_A], rfl⟩
      · skip
        obtain rfl := gSt_s h22
        refine k_catch B [⟨0, 10, 13, 13⟩, ⟨0, 10, 17, 15⟩] ⟨0, 10, 21, 20⟩ [] hex (List.forall_mem_cons.mpr ⟨Or.inr ⟨by decide, eI, qw232, kB_ncSI B⟩, (List.forall_mem_cons.mpr ⟨Or.inr ⟨by decide, eA, qw233, kB_ncSA B⟩, (fun _ hz => absurd hz List.not_mem_nil)⟩)⟩) (by decide) (by decide) qw338 csTx3 (fun q9 => ?_)
        refine k_astore B dL_well_21 (by decide) (by first | exact kRf_r _ | exact kRf_q _ | exact kRf_n) ?_
        try refine kK.set1 (by first | exact True.intro | rfl | exact kCat_q _) ?_
        refine k_iconst B (v := 3) dL_well_23 (by decide) ?_
        refine k_iret B hr dL_well_24 ?_ (by first | exact Nat.le_of_ble_eq_true rfl | omega | (simp only [kR, Value.category, kCat_q, List.map, List.sum_cons, List.sum_nil]; omega)) (by first | exact Nat.le_of_ble_eq_true rfl | omega | (simp only [kR, Value.category, kCat_q, List.map, List.sum_cons, List.sum_nil]; omega))
        exact Or.inr ⟨eS, hE, by rw [tCd_S], rfl⟩
  · obtain ⟨hg, e1, h2, f2⟩ := hp5
    rw [e1]
    refine kK.rev (y := .int (rWell z)) rfl ?_
    refine k_i2l B dL_well_8 ?_
    refine k_last B dL_well_9 (f2 _ _ ho nkL) (vp_in_nI (n := 0) (N := 1) (by decide) (by decide)) ?_
    refine k_goto B 25 dL_well_10 (by decide) ?_
    refine k_iconst B (v := 0) dL_well_25 (by decide) ?_
    refine k_iret B hr dL_well_26 ?_ (by first | exact Nat.le_of_ble_eq_true rfl | omega | (simp only [kR, Value.category, kCat_q, List.map, List.sum_cons, List.sum_nil]; omega)) (by first | exact Nat.le_of_ble_eq_true rfl | omega | (simp only [kR, Value.category, kCat_q, List.map, List.sum_cons, List.sum_nil]; omega))
    exact Or.inl ⟨hg, rfl, h2.out (f2 _ _ ho nkL) nkL, ⟨_, kUp_eq, rfl⟩, kFx.of f2⟩
set_option maxRecDepth 100000 in
theorem c_L_drought (hl : l.stackTraces = false) (hs : sOk z) (h : cl9 D aO z J F σ) {p0 p1 p2 : Int32} : kMh hL_drought l D yL_drought 9 3 18 [.ref aO, .int p0, .int p1, .int p2] σ (lPo (gDrought p0 p1 p2) (tCd 1 2 2) (fun s2 => cl9 D aO (nDrought z p0 p1 p2) J F s2 ∧ kFr k9F σ s2) σ) (fun _ => False) := by
  refine kM_ofW (L := [some (.ref aO), some (.int p0), some (.int p1), some (.int p2), none]) (by decide +kernel) hl (List.forall_mem_cons.mpr ⟨rfl, (List.forall_mem_cons.mpr ⟨rfl, (List.forall_mem_cons.mpr ⟨rfl, (List.forall_mem_cons.mpr ⟨rfl, (fun _ h => absurd h List.not_mem_nil)⟩)⟩)⟩)⟩) (Nat.le_of_ble_eq_true rfl) rfl ?_
  intro p e s m args below meth c B hr hex hnm
  have B : kB p l s m args meth c D (kA σ s.heap.size) 5 cL_drought RL := B
  obtain ⟨fs9, h9⟩ := h.fs
  refine k_aload_n B dL_drought_0 rfl (by first | exact kRf_r _ | exact kRf_q _ | exact kRf_n) ?_
  refine k_iload_n B dL_drought_1 rfl ?_
  refine k_iload_n B dL_drought_2 rfl ?_
  refine k_iload_n B dL_drought_3 rfl ?_
  refine cl_L_38 B (c_X9_drought hl hs h) h9 dL_drought_4 (by first | exact Nat.le_of_ble_eq_true rfl | omega | (simp only [kR, Value.category, kCat_q, List.map, List.sum_cons, List.sum_nil]; omega)) (by first | exact Nat.le_of_ble_eq_true rfl | omega | (simp only [kR, Value.category, kCat_q, List.map, List.sum_cons, List.sum_nil]; omega)) (by first | exact Nat.le_of_ble_eq_true rfl | omega | (simp only [kR, Value.category, kCat_q, List.map, List.sum_cons, List.sum_nil]; omega)) (by first | exact Nat.le_of_ble_eq_true rfl | omega | (simp only [kR, Value.category, kCat_q, List.map, List.sum_cons, List.sum_nil]; omega)) (by first | exact Nat.le_of_ble_eq_true rfl | omega | (simp only [kR, Value.category, kCat_q, List.map, List.sum_cons, List.sum_nil]; omega)) (fun E hE => ?_) (fun v4 s4 hp4 => ?_)
  · skip
    rcases gCell_s hE with rfl | h23
    · skip
      refine k_catch B [] ⟨0, 7, 10, 13⟩ [⟨0, 7, 14, 15⟩] hex (fun z hz => absurd hz List.not_mem_nil) (by decide) (by decide) qw232 csTx1 (fun q9 => ?_)
      refine k_astore B dL_drought_10 (by decide) (by first | exact kRf_r _ | exact kRf_q _ | exact kRf_n) ?_
      try refine kK.set1 (by first | exact True.intro | rfl | exact kCat_q _) ?_
      refine k_iconst B (v := 1) dL_drought_12 (by decide) ?_
      refine k_iret B hr dL_drought_13 ?_ (by first | exact Nat.le_of_ble_eq_true rfl | omega | (simp only [kR, Value.category, kCat_q, List.map, List.sum_cons, List.sum_nil]; omega)) (by first | exact Nat.le_of_ble_eq_true rfl | omega | (simp only [kR, Value.category, kCat_q, List.map, List.sum_cons, List.sum_nil]; omega))
      exact Or.inr ⟨eI, hE, by rw [tCd_I], rfl⟩
    · skip
      rcases gRg_s h23 with rfl | h22
      · skip
        refine k_catch B [⟨0, 7, 10, 13⟩] ⟨0, 7, 14, 15⟩ [] hex (List.forall_mem_cons.mpr ⟨Or.inr ⟨by decide, eI, qw232, kB_ncA B⟩, (fun _ hz => absurd hz List.not_mem_nil)⟩) (by decide) (by decide) qw233 csTx2 (fun q9 => ?_)
        refine k_astore B dL_drought_14 (by decide) (by first | exact kRf_r _ | exact kRf_q _ | exact kRf_n) ?_
        try refine kK.set1 (by first | exact True.intro | rfl | exact kCat_q _) ?_
        refine k_iconst B (v := 2) dL_drought_16 (by decide) ?_
        refine k_iret B hr dL_drought_17 ?_ (by first | exact Nat.le_of_ble_eq_true rfl | omega | (simp only [kR, Value.category, kCat_q, List.map, List.sum_cons, List.sum_nil]; omega)) (by first | exact Nat.le_of_ble_eq_true rfl | omega | (simp only [kR, Value.category, kCat_q, List.map, List.sum_cons, List.sum_nil]; omega))
        exact Or.inr ⟨eA, hE, by rw [tCd_A], rfl⟩
      · skip
        rcases gRg_s h22 with rfl | h21
        · skip
          refine k_catch B [⟨0, 7, 10, 13⟩] ⟨0, 7, 14, 15⟩ [] hex (List.forall_mem_cons.mpr ⟨Or.inr ⟨by decide, eI, qw232, kB_ncA B⟩, (fun _ hz => absurd hz List.not_mem_nil)⟩) (by decide) (by decide) qw233 csTx2 (fun q9 => ?_)
          refine k_astore B dL_drought_14 (by decide) (by first | exact kRf_r _ | exact kRf_q _ | exact kRf_n) ?_
          try refine kK.set1 (by first | exact True.intro | rfl | exact kCat_q _) ?_
          refine k_iconst B (v := 2) dL_drought_16 (by decide) ?_
          refine k_iret B hr dL_drought_17 ?_ (by first | exact Nat.le_of_ble_eq_true rfl | omega | (simp only [kR, Value.category, kCat_q, List.map, List.sum_cons, List.sum_nil]; omega)) (by first | exact Nat.le_of_ble_eq_true rfl | omega | (simp only [kR, Value.category, kCat_q, List.map, List.sum_cons, List.sum_nil]; omega))
          exact Or.inr ⟨eA, hE, by rw [tCd_A], rfl⟩
        · cases h21
  · obtain ⟨hg, e1, h2, f2⟩ := hp4
    rw [e1]
    refine k_goto B 18 dL_drought_7 (by decide) ?_
    refine k_iconst B (v := 0) dL_drought_18 (by decide) ?_
    refine k_iret B hr dL_drought_19 ?_ (by first | exact Nat.le_of_ble_eq_true rfl | omega | (simp only [kR, Value.category, kCat_q, List.map, List.sum_cons, List.sum_nil]; omega)) (by first | exact Nat.le_of_ble_eq_true rfl | omega | (simp only [kR, Value.category, kCat_q, List.map, List.sum_cons, List.sum_nil]; omega))
    exact Or.inl ⟨hg, rfl, h2, f2⟩
set_option maxRecDepth 100000 in
theorem c_L_share (hl : l.stackTraces = false) (hs : sOk z) (h : cl9 D aO z J F σ) {p0 : Int32} {f0 : Nat → Int64} (ho : σ aL = some (lArr D f0)) : kMh hL_share l D yL_share 9 1 6 [.ref aO, .int p0, .ref aL] σ (lPo (gShare p0) (tCd 1 1 1) (fun s2 => cl9 D aO (nShare z p0) J F s2 ∧ (∃ f, s2 aL = some (lArr D f) ∧ f 0 = (rShare z).toInt64) ∧ kFx aL σ s2) σ) (fun _ => False) := by
  refine kM_ofW (L := [some (.ref aO), some (.int p0), some (.ref aL), none]) (by decide +kernel) hl (List.forall_mem_cons.mpr ⟨rfl, (List.forall_mem_cons.mpr ⟨rfl, (List.forall_mem_cons.mpr ⟨rfl, (fun _ h => absurd h List.not_mem_nil)⟩)⟩)⟩) (Nat.le_of_ble_eq_true rfl) rfl ?_
  intro p e s m args below meth c B hr hex hnm
  have B : kB p l s m args meth c D (kA σ s.heap.size) 4 cL_share RL := B
  obtain ⟨fs9, h9⟩ := h.fs
  refine k_aload_n B dL_share_0 rfl (by first | exact kRf_r _ | exact kRf_q _ | exact kRf_n) ?_
  refine k_iconst B (v := 0) dL_share_1 (by decide) ?_
  refine k_aload_n B dL_share_2 rfl (by first | exact kRf_r _ | exact kRf_q _ | exact kRf_n) ?_
  refine k_iload_n B dL_share_3 rfl ?_
  refine cl_L_41 B (c_X9_share hl h) h9 dL_share_4 (by first | exact Nat.le_of_ble_eq_true rfl | omega | (simp only [kR, Value.category, kCat_q, List.map, List.sum_cons, List.sum_nil]; omega)) (by first | exact Nat.le_of_ble_eq_true rfl | omega | (simp only [kR, Value.category, kCat_q, List.map, List.sum_cons, List.sum_nil]; omega)) (by first | exact Nat.le_of_ble_eq_true rfl | omega | (simp only [kR, Value.category, kCat_q, List.map, List.sum_cons, List.sum_nil]; omega)) (by first | exact Nat.le_of_ble_eq_true rfl | omega | (simp only [kR, Value.category, kCat_q, List.map, List.sum_cons, List.sum_nil]; omega)) (by first | exact Nat.le_of_ble_eq_true rfl | omega | (simp only [kR, Value.category, kCat_q, List.map, List.sum_cons, List.sum_nil]; omega)) (fun E hE => ?_) (fun v4 s4 hp4 => ?_)
  · skip
    rcases gRg_s hE with rfl | h21
    · skip
      refine k_catch B [] ⟨0, 9, 12, 15⟩ [] hex (fun z hz => absurd hz List.not_mem_nil) (by decide) (by decide) qw233 csTx2 (fun q9 => ?_)
      refine k_astore_n B dL_share_12 (by decide) (by first | exact kRf_r _ | exact kRf_q _ | exact kRf_n) ?_
      try refine kK.set1 (by first | exact True.intro | rfl | exact kCat_q _) ?_
      refine k_iconst B (v := 1) dL_share_13 (by decide) ?_
      refine k_iret B hr dL_share_14 ?_ (by first | exact Nat.le_of_ble_eq_true rfl | omega | (simp only [kR, Value.category, kCat_q, List.map, List.sum_cons, List.sum_nil]; omega)) (by first | exact Nat.le_of_ble_eq_true rfl | omega | (simp only [kR, Value.category, kCat_q, List.map, List.sum_cons, List.sum_nil]; omega))
      exact Or.inr ⟨eA, hE, by rw [tCd_A], rfl⟩
    · cases h21
  · obtain ⟨hg, e1, h2, f2⟩ := hp4
    rw [e1]
    refine kK.rev (y := .int (rShare z)) rfl ?_
    refine k_i2l B dL_share_7 ?_
    refine k_last B dL_share_8 (f2 _ _ ho nkL) (vp_in_nI (n := 0) (N := 1) (by decide) (by decide)) ?_
    refine k_goto B 15 dL_share_9 (by decide) ?_
    refine k_iconst B (v := 0) dL_share_15 (by decide) ?_
    refine k_iret B hr dL_share_16 ?_ (by first | exact Nat.le_of_ble_eq_true rfl | omega | (simp only [kR, Value.category, kCat_q, List.map, List.sum_cons, List.sum_nil]; omega)) (by first | exact Nat.le_of_ble_eq_true rfl | omega | (simp only [kR, Value.category, kCat_q, List.map, List.sum_cons, List.sum_nil]; omega))
    exact Or.inl ⟨hg, rfl, h2.out (f2 _ _ ho nkL) nkL, ⟨_, kUp_eq, rfl⟩, kFx.of f2⟩
set_option maxRecDepth 100000 in
theorem c_L_bottle (hl : l.stackTraces = false) (hs : sOk z) (h : cl9 D aO z J F σ) {p0 p1 : Int32} {f0 : Nat → Int64} (ho : σ aL = some (lArr D f0)) : kMh hL_bottle l D yL_bottle 9 7 38 [.ref aO, .int p0, .int p1, .ref aL] σ (lPo (gBottle z p0 p1) (tCd 1 2 3) (fun s2 => cl9 D aO (nBottle z p0 p1) (jBottle z p0 p1 J) F s2 ∧ (∃ f, s2 aL = some (lArr D f) ∧ f 0 = (rBottle z).toInt64) ∧ kFx aL σ s2) σ) (fun _ => False) := by
  refine kM_ofW (L := [some (.ref aO), some (.int p0), some (.int p1), some (.ref aL), none]) (by decide +kernel) hl (List.forall_mem_cons.mpr ⟨rfl, (List.forall_mem_cons.mpr ⟨rfl, (List.forall_mem_cons.mpr ⟨rfl, (List.forall_mem_cons.mpr ⟨rfl, (fun _ h => absurd h List.not_mem_nil)⟩)⟩)⟩)⟩) (Nat.le_of_ble_eq_true rfl) rfl ?_
  intro p e s m args below meth c B hr hex hnm
  have B : kB p l s m args meth c D (kA σ s.heap.size) 5 cL_bottle RL := B
  obtain ⟨fs9, h9⟩ := h.fs
  refine k_aload_n B dL_bottle_0 rfl (by first | exact kRf_r _ | exact kRf_q _ | exact kRf_n) ?_
  refine k_iconst B (v := 0) dL_bottle_1 (by decide) ?_
  refine k_aload_n B dL_bottle_2 rfl (by first | exact kRf_r _ | exact kRf_q _ | exact kRf_n) ?_
  refine k_iload_n B dL_bottle_3 rfl ?_
  refine k_iload_n B dL_bottle_4 rfl ?_
  refine cl_L_45 B (c_X9_bottle hl hs h) h9 dL_bottle_5 (by first | exact Nat.le_of_ble_eq_true rfl | omega | (simp only [kR, Value.category, kCat_q, List.map, List.sum_cons, List.sum_nil]; omega)) (by first | exact Nat.le_of_ble_eq_true rfl | omega | (simp only [kR, Value.category, kCat_q, List.map, List.sum_cons, List.sum_nil]; omega)) (by first | exact Nat.le_of_ble_eq_true rfl | omega | (simp only [kR, Value.category, kCat_q, List.map, List.sum_cons, List.sum_nil]; omega)) (by first | exact Nat.le_of_ble_eq_true rfl | omega | (simp only [kR, Value.category, kCat_q, List.map, List.sum_cons, List.sum_nil]; omega)) (by first | exact Nat.le_of_ble_eq_true rfl | omega | (simp only [kR, Value.category, kCat_q, List.map, List.sum_cons, List.sum_nil]; omega)) (fun E hE => ?_) (fun v5 s5 hp5 => ?_)
  · skip
    rcases gIx_s hE with rfl | h23
    · skip
      refine k_catch B [] ⟨0, 10, 13, 13⟩ [⟨0, 10, 17, 15⟩, ⟨0, 10, 21, 20⟩] hex (fun z hz => absurd hz List.not_mem_nil) (by decide) (by decide) qw232 csTx1 (fun q9 => ?_)
      refine k_astore B dL_bottle_13 (by decide) (by first | exact kRf_r _ | exact kRf_q _ | exact kRf_n) ?_
      try refine kK.set1 (by first | exact True.intro | rfl | exact kCat_q _) ?_
      refine k_iconst B (v := 1) dL_bottle_15 (by decide) ?_
      refine k_iret B hr dL_bottle_16 ?_ (by first | exact Nat.le_of_ble_eq_true rfl | omega | (simp only [kR, Value.category, kCat_q, List.map, List.sum_cons, List.sum_nil]; omega)) (by first | exact Nat.le_of_ble_eq_true rfl | omega | (simp only [kR, Value.category, kCat_q, List.map, List.sum_cons, List.sum_nil]; omega))
      exact Or.inr ⟨eI, hE, by rw [tCd_I], rfl⟩
    · skip
      rcases gRg_s h23 with rfl | h22
      · skip
        refine k_catch B [⟨0, 10, 13, 13⟩] ⟨0, 10, 17, 15⟩ [⟨0, 10, 21, 20⟩] hex (List.forall_mem_cons.mpr ⟨Or.inr ⟨by decide, eI, qw232, kB_ncA B⟩, (fun _ hz => absurd hz List.not_mem_nil)⟩) (by decide) (by decide) qw233 csTx2 (fun q9 => ?_)
        refine k_astore B dL_bottle_17 (by decide) (by first | exact kRf_r _ | exact kRf_q _ | exact kRf_n) ?_
        try refine kK.set1 (by first | exact True.intro | rfl | exact kCat_q _) ?_
        refine k_iconst B (v := 2) dL_bottle_19 (by decide) ?_
        refine k_iret B hr dL_bottle_20 ?_ (by first | exact Nat.le_of_ble_eq_true rfl | omega | (simp only [kR, Value.category, kCat_q, List.map, List.sum_cons, List.sum_nil]; omega)) (by first | exact Nat.le_of_ble_eq_true rfl | omega | (simp only [kR, Value.category, kCat_q, List.map, List.sum_cons, List.sum_nil]; omega))
        exact Or.inr ⟨eA, hE, by rw [tCd_A], rfl⟩
      · skip
        obtain rfl := gSt_s h22
        refine k_catch B [⟨0, 10, 13, 13⟩, ⟨0, 10, 17, 15⟩] ⟨0, 10, 21, 20⟩ [] hex (List.forall_mem_cons.mpr ⟨Or.inr ⟨by decide, eI, qw232, kB_ncSI B⟩, (List.forall_mem_cons.mpr ⟨Or.inr ⟨by decide, eA, qw233, kB_ncSA B⟩, (fun _ hz => absurd hz List.not_mem_nil)⟩)⟩) (by decide) (by decide) qw338 csTx3 (fun q9 => ?_)
        refine k_astore B dL_bottle_21 (by decide) (by first | exact kRf_r _ | exact kRf_q _ | exact kRf_n) ?_
        try refine kK.set1 (by first | exact True.intro | rfl | exact kCat_q _) ?_
        refine k_iconst B (v := 3) dL_bottle_23 (by decide) ?_
        refine k_iret B hr dL_bottle_24 ?_ (by first | exact Nat.le_of_ble_eq_true rfl | omega | (simp only [kR, Value.category, kCat_q, List.map, List.sum_cons, List.sum_nil]; omega)) (by first | exact Nat.le_of_ble_eq_true rfl | omega | (simp only [kR, Value.category, kCat_q, List.map, List.sum_cons, List.sum_nil]; omega))
        exact Or.inr ⟨eS, hE, by rw [tCd_S], rfl⟩
  · obtain ⟨hg, e1, h2, f2⟩ := hp5
    rw [e1]
    refine kK.rev (y := .int (rBottle z)) rfl ?_
    refine k_i2l B dL_bottle_8 ?_
    refine k_last B dL_bottle_9 (f2 _ _ ho nkL) (vp_in_nI (n := 0) (N := 1) (by decide) (by decide)) ?_
    refine k_goto B 25 dL_bottle_10 (by decide) ?_
    refine k_iconst B (v := 0) dL_bottle_25 (by decide) ?_
    refine k_iret B hr dL_bottle_26 ?_ (by first | exact Nat.le_of_ble_eq_true rfl | omega | (simp only [kR, Value.category, kCat_q, List.map, List.sum_cons, List.sum_nil]; omega)) (by first | exact Nat.le_of_ble_eq_true rfl | omega | (simp only [kR, Value.category, kCat_q, List.map, List.sum_cons, List.sum_nil]; omega))
    exact Or.inl ⟨hg, rfl, h2.out (f2 _ _ ho nkL) nkL, ⟨_, kUp_eq, rfl⟩, kFx.of f2⟩
set_option maxRecDepth 100000 in
theorem c_L_treat (hl : l.stackTraces = false) (hs : sOk z) (h : cl9 D aO z J F σ) {p0 p1 : Int32} {f0 : Nat → Int64} (ho : σ aL = some (lArr D f0)) : kMh hL_treat l D yL_treat 9 3 18 [.ref aO, .int p0, .int p1, .ref aL] σ (lPo (gTreat z p0 p1) (tCd 1 2 2) (fun s2 => cl9 D aO (nTreat z p0 p1) J F s2 ∧ (∃ f, s2 aL = some (lArr D f) ∧ f 0 = (rTreat z p0 p1).toInt64) ∧ kFx aL σ s2) σ) (fun _ => False) := by
  refine kM_ofW (L := [some (.ref aO), some (.int p0), some (.int p1), some (.ref aL), none]) (by decide +kernel) hl (List.forall_mem_cons.mpr ⟨rfl, (List.forall_mem_cons.mpr ⟨rfl, (List.forall_mem_cons.mpr ⟨rfl, (List.forall_mem_cons.mpr ⟨rfl, (fun _ h => absurd h List.not_mem_nil)⟩)⟩)⟩)⟩) (Nat.le_of_ble_eq_true rfl) rfl ?_
  intro p e s m args below meth c B hr hex hnm
  have B : kB p l s m args meth c D (kA σ s.heap.size) 5 cL_treat RL := B
  obtain ⟨fs9, h9⟩ := h.fs
  refine k_aload_n B dL_treat_0 rfl (by first | exact kRf_r _ | exact kRf_q _ | exact kRf_n) ?_
  refine k_iconst B (v := 0) dL_treat_1 (by decide) ?_
  refine k_aload_n B dL_treat_2 rfl (by first | exact kRf_r _ | exact kRf_q _ | exact kRf_n) ?_
  refine k_iload_n B dL_treat_3 rfl ?_
  refine k_iload_n B dL_treat_4 rfl ?_
  refine cl_L_48 B (c_X9_treat hl hs h) h9 dL_treat_5 (by first | exact Nat.le_of_ble_eq_true rfl | omega | (simp only [kR, Value.category, kCat_q, List.map, List.sum_cons, List.sum_nil]; omega)) (by first | exact Nat.le_of_ble_eq_true rfl | omega | (simp only [kR, Value.category, kCat_q, List.map, List.sum_cons, List.sum_nil]; omega)) (by first | exact Nat.le_of_ble_eq_true rfl | omega | (simp only [kR, Value.category, kCat_q, List.map, List.sum_cons, List.sum_nil]; omega)) (by first | exact Nat.le_of_ble_eq_true rfl | omega | (simp only [kR, Value.category, kCat_q, List.map, List.sum_cons, List.sum_nil]; omega)) (by first | exact Nat.le_of_ble_eq_true rfl | omega | (simp only [kR, Value.category, kCat_q, List.map, List.sum_cons, List.sum_nil]; omega)) (fun E hE => ?_) (fun v5 s5 hp5 => ?_)
  · skip
    rcases gIx_s hE with rfl | h23
    · skip
      refine k_catch B [] ⟨0, 10, 13, 13⟩ [⟨0, 10, 17, 20⟩] hex (fun z hz => absurd hz List.not_mem_nil) (by decide) (by decide) qw232 csTx1 (fun q9 => ?_)
      refine k_astore B dL_treat_13 (by decide) (by first | exact kRf_r _ | exact kRf_q _ | exact kRf_n) ?_
      try refine kK.set1 (by first | exact True.intro | rfl | exact kCat_q _) ?_
      refine k_iconst B (v := 1) dL_treat_15 (by decide) ?_
      refine k_iret B hr dL_treat_16 ?_ (by first | exact Nat.le_of_ble_eq_true rfl | omega | (simp only [kR, Value.category, kCat_q, List.map, List.sum_cons, List.sum_nil]; omega)) (by first | exact Nat.le_of_ble_eq_true rfl | omega | (simp only [kR, Value.category, kCat_q, List.map, List.sum_cons, List.sum_nil]; omega))
      exact Or.inr ⟨eI, hE, by rw [tCd_I], rfl⟩
    · skip
      rcases gIx_s h23 with rfl | h22
      · skip
        refine k_catch B [] ⟨0, 10, 13, 13⟩ [⟨0, 10, 17, 20⟩] hex (fun z hz => absurd hz List.not_mem_nil) (by decide) (by decide) qw232 csTx1 (fun q9 => ?_)
        refine k_astore B dL_treat_13 (by decide) (by first | exact kRf_r _ | exact kRf_q _ | exact kRf_n) ?_
        try refine kK.set1 (by first | exact True.intro | rfl | exact kCat_q _) ?_
        refine k_iconst B (v := 1) dL_treat_15 (by decide) ?_
        refine k_iret B hr dL_treat_16 ?_ (by first | exact Nat.le_of_ble_eq_true rfl | omega | (simp only [kR, Value.category, kCat_q, List.map, List.sum_cons, List.sum_nil]; omega)) (by first | exact Nat.le_of_ble_eq_true rfl | omega | (simp only [kR, Value.category, kCat_q, List.map, List.sum_cons, List.sum_nil]; omega))
        exact Or.inr ⟨eI, hE, by rw [tCd_I], rfl⟩
      · skip
        obtain rfl := gSt_s h22
        refine k_catch B [⟨0, 10, 13, 13⟩] ⟨0, 10, 17, 20⟩ [] hex (List.forall_mem_cons.mpr ⟨Or.inr ⟨by decide, eI, qw232, kB_ncSI B⟩, (fun _ hz => absurd hz List.not_mem_nil)⟩) (by decide) (by decide) qw338 csTx3 (fun q9 => ?_)
        refine k_astore B dL_treat_17 (by decide) (by first | exact kRf_r _ | exact kRf_q _ | exact kRf_n) ?_
        try refine kK.set1 (by first | exact True.intro | rfl | exact kCat_q _) ?_
        refine k_iconst B (v := 2) dL_treat_19 (by decide) ?_
        refine k_iret B hr dL_treat_20 ?_ (by first | exact Nat.le_of_ble_eq_true rfl | omega | (simp only [kR, Value.category, kCat_q, List.map, List.sum_cons, List.sum_nil]; omega)) (by first | exact Nat.le_of_ble_eq_true rfl | omega | (simp only [kR, Value.category, kCat_q, List.map, List.sum_cons, List.sum_nil]; omega))
        exact Or.inr ⟨eS, hE, by rw [tCd_S], rfl⟩
  · obtain ⟨hg, e1, h2, f2⟩ := hp5
    rw [e1]
    refine kK.rev (y := .int (rTreat z p0 p1)) rfl ?_
    refine k_i2l B dL_treat_8 ?_
    refine k_last B dL_treat_9 (f2 _ _ ho nkL) (vp_in_nI (n := 0) (N := 1) (by decide) (by decide)) ?_
    refine k_goto B 21 dL_treat_10 (by decide) ?_
    refine k_iconst B (v := 0) dL_treat_21 (by decide) ?_
    refine k_iret B hr dL_treat_22 ?_ (by first | exact Nat.le_of_ble_eq_true rfl | omega | (simp only [kR, Value.category, kCat_q, List.map, List.sum_cons, List.sum_nil]; omega)) (by first | exact Nat.le_of_ble_eq_true rfl | omega | (simp only [kR, Value.category, kCat_q, List.map, List.sum_cons, List.sum_nil]; omega))
    exact Or.inl ⟨hg, rfl, h2.out (f2 _ _ ho nkL) nkL, ⟨_, kUp_eq, rfl⟩, kFx.of f2⟩
set_option maxRecDepth 100000 in
theorem c_L_label (hl : l.stackTraces = false) (hs : sOk z) (h : cl9 D aO z J F σ) {p0 p1 : Int32} {f0 : Nat → Int64} (ho : σ aL = some (lArr D f0)) : kMh hL_label l D yL_label 9 3 18 [.ref aO, .int p0, .int p1, .ref aL] σ (lPo (gLabel z p0 p1) (tCd 1 2 3) (fun s2 => cl9 D aO (nLabel z p0 p1) J F s2 ∧ (∃ f, s2 aL = some (lArr D f) ∧ f 0 = (rLabel z p0 p1).toInt64) ∧ kFx aL σ s2) σ) (fun _ => False) := by
  refine kM_ofW (L := [some (.ref aO), some (.int p0), some (.int p1), some (.ref aL), none]) (by decide +kernel) hl (List.forall_mem_cons.mpr ⟨rfl, (List.forall_mem_cons.mpr ⟨rfl, (List.forall_mem_cons.mpr ⟨rfl, (List.forall_mem_cons.mpr ⟨rfl, (fun _ h => absurd h List.not_mem_nil)⟩)⟩)⟩)⟩) (Nat.le_of_ble_eq_true rfl) rfl ?_
  intro p e s m args below meth c B hr hex hnm
  have B : kB p l s m args meth c D (kA σ s.heap.size) 5 cL_label RL := B
  obtain ⟨fs9, h9⟩ := h.fs
  refine k_aload_n B dL_label_0 rfl (by first | exact kRf_r _ | exact kRf_q _ | exact kRf_n) ?_
  refine k_iconst B (v := 0) dL_label_1 (by decide) ?_
  refine k_aload_n B dL_label_2 rfl (by first | exact kRf_r _ | exact kRf_q _ | exact kRf_n) ?_
  refine k_iload_n B dL_label_3 rfl ?_
  refine k_iload_n B dL_label_4 rfl ?_
  refine cl_L_51 B (c_X9_label hl hs h) h9 dL_label_5 (by first | exact Nat.le_of_ble_eq_true rfl | omega | (simp only [kR, Value.category, kCat_q, List.map, List.sum_cons, List.sum_nil]; omega)) (by first | exact Nat.le_of_ble_eq_true rfl | omega | (simp only [kR, Value.category, kCat_q, List.map, List.sum_cons, List.sum_nil]; omega)) (by first | exact Nat.le_of_ble_eq_true rfl | omega | (simp only [kR, Value.category, kCat_q, List.map, List.sum_cons, List.sum_nil]; omega)) (by first | exact Nat.le_of_ble_eq_true rfl | omega | (simp only [kR, Value.category, kCat_q, List.map, List.sum_cons, List.sum_nil]; omega)) (by first | exact Nat.le_of_ble_eq_true rfl | omega | (simp only [kR, Value.category, kCat_q, List.map, List.sum_cons, List.sum_nil]; omega)) (fun E hE => ?_) (fun v5 s5 hp5 => ?_)
  · skip
    rcases gIx_s hE with rfl | h23
    · skip
      refine k_catch B [] ⟨0, 17, 20, 13⟩ [⟨0, 17, 24, 15⟩, ⟨0, 17, 28, 20⟩] hex (fun z hz => absurd hz List.not_mem_nil) (by decide) (by decide) qw232 csTx1 (fun q9 => ?_)
      refine k_astore B dL_label_20 (by decide) (by first | exact kRf_r _ | exact kRf_q _ | exact kRf_n) ?_
      try refine kK.set1 (by first | exact True.intro | rfl | exact kCat_q _) ?_
      refine k_iconst B (v := 1) dL_label_22 (by decide) ?_
      refine k_iret B hr dL_label_23 ?_ (by first | exact Nat.le_of_ble_eq_true rfl | omega | (simp only [kR, Value.category, kCat_q, List.map, List.sum_cons, List.sum_nil]; omega)) (by first | exact Nat.le_of_ble_eq_true rfl | omega | (simp only [kR, Value.category, kCat_q, List.map, List.sum_cons, List.sum_nil]; omega))
      exact Or.inr ⟨eI, hE, by rw [tCd_I], rfl⟩
    · skip
      rcases gRg_s h23 with rfl | h22
      · skip
        refine k_catch B [⟨0, 17, 20, 13⟩] ⟨0, 17, 24, 15⟩ [⟨0, 17, 28, 20⟩] hex (List.forall_mem_cons.mpr ⟨Or.inr ⟨by decide, eI, qw232, kB_ncA B⟩, (fun _ hz => absurd hz List.not_mem_nil)⟩) (by decide) (by decide) qw233 csTx2 (fun q9 => ?_)
        refine k_astore B dL_label_24 (by decide) (by first | exact kRf_r _ | exact kRf_q _ | exact kRf_n) ?_
        try refine kK.set1 (by first | exact True.intro | rfl | exact kCat_q _) ?_
        refine k_iconst B (v := 2) dL_label_26 (by decide) ?_
        refine k_iret B hr dL_label_27 ?_ (by first | exact Nat.le_of_ble_eq_true rfl | omega | (simp only [kR, Value.category, kCat_q, List.map, List.sum_cons, List.sum_nil]; omega)) (by first | exact Nat.le_of_ble_eq_true rfl | omega | (simp only [kR, Value.category, kCat_q, List.map, List.sum_cons, List.sum_nil]; omega))
        exact Or.inr ⟨eA, hE, by rw [tCd_A], rfl⟩
      · skip
        obtain rfl := gSt_s h22
        refine k_catch B [⟨0, 17, 20, 13⟩, ⟨0, 17, 24, 15⟩] ⟨0, 17, 28, 20⟩ [] hex (List.forall_mem_cons.mpr ⟨Or.inr ⟨by decide, eI, qw232, kB_ncSI B⟩, (List.forall_mem_cons.mpr ⟨Or.inr ⟨by decide, eA, qw233, kB_ncSA B⟩, (fun _ hz => absurd hz List.not_mem_nil)⟩)⟩) (by decide) (by decide) qw338 csTx3 (fun q9 => ?_)
        refine k_astore B dL_label_28 (by decide) (by first | exact kRf_r _ | exact kRf_q _ | exact kRf_n) ?_
        try refine kK.set1 (by first | exact True.intro | rfl | exact kCat_q _) ?_
        refine k_iconst B (v := 3) dL_label_30 (by decide) ?_
        refine k_iret B hr dL_label_31 ?_ (by first | exact Nat.le_of_ble_eq_true rfl | omega | (simp only [kR, Value.category, kCat_q, List.map, List.sum_cons, List.sum_nil]; omega)) (by first | exact Nat.le_of_ble_eq_true rfl | omega | (simp only [kR, Value.category, kCat_q, List.map, List.sum_cons, List.sum_nil]; omega))
        exact Or.inr ⟨eS, hE, by rw [tCd_S], rfl⟩
  · obtain ⟨hg, e1, h2, f2⟩ := hp5
    rw [e1]
    refine kK.rev (y := .int (rLabel z p0 p1)) rfl ?_
    have fin : ∀ x : Int64, x = (rLabel z p0 p1).toInt64 → kK p l e (kR 9 3 18) s m args below meth c D (kA σ s.heap.size) 5 (kQ below args s D σ (lPo (gLabel z p0 p1) (tCd 1 2 3) (fun s2 => cl9 D aO (nLabel z p0 p1) J F s2 ∧ (∃ f, s2 aL = some (lArr D f) ∧ f 0 = (rLabel z p0 p1).toInt64) ∧ kFx aL σ s2) σ) (fun _ => False) 3 18) s5 3 18 16 [some (.ref aO), some (.int p0), some (.int p1), some (.ref aL), none] [.long x, .int 0, .ref aL] := by
      intro x hx
      refine k_last B dL_label_16 (f2 _ _ ho nkL) (vp_in_nI (n := 0) (N := 1) (by decide) (by decide)) ?_
      refine k_goto B 32 dL_label_17 (by decide) ?_
      refine k_iconst B (v := 0) dL_label_32 (by decide) ?_
      refine k_iret B hr dL_label_33 ?_ (by first | exact Nat.le_of_ble_eq_true rfl | omega | (simp only [kR, Value.category, kCat_q, List.map, List.sum_cons, List.sum_nil]; omega)) (by first | exact Nat.le_of_ble_eq_true rfl | omega | (simp only [kR, Value.category, kCat_q, List.map, List.sum_cons, List.sum_nil]; omega))
      exact Or.inl ⟨hg, rfl, h2.out (f2 _ _ ho nkL) nkL, ⟨_, kUp_eq, by rw [← hx]; rfl⟩, kFx.of f2⟩
    refine k_if_eq B 15 dL_label_8 (by decide) (fun c8 => ?_) (fun c8 => ?_)
    · refine k_lconst B (v := 0) dL_label_15 (by decide) ?_
      exact fin 0 (by rw [rLabel, bI_ff c8]; rfl)
    · refine k_lconst B (v := 1) dL_label_11 (by decide) ?_
      refine k_goto B 16 dL_label_12 (by decide) ?_
      exact fin 1 (by rw [rLabel, bI_tt c8]; rfl)
set_option maxRecDepth 100000 in
theorem c_L_forbid (hl : l.stackTraces = false) (hs : sOk z) (h : cl9 D aO z J F σ) {p0 : Int32} {f0 : Nat → Int64} (ho : σ aL = some (lArr D f0)) : kMh hL_forbid l D yL_forbid 9 2 12 [.ref aO, .int p0, .ref aL] σ (lPo (gForbid z p0) (tCd 1 2 2) (fun s2 => cl9 D aO (nForbid z p0) J F s2 ∧ (∃ f, s2 aL = some (lArr D f) ∧ f 0 = (rForbid z p0).toInt64) ∧ kFx aL σ s2) σ) (fun _ => False) := by
  refine kM_ofW (L := [some (.ref aO), some (.int p0), some (.ref aL), none]) (by decide +kernel) hl (List.forall_mem_cons.mpr ⟨rfl, (List.forall_mem_cons.mpr ⟨rfl, (List.forall_mem_cons.mpr ⟨rfl, (fun _ h => absurd h List.not_mem_nil)⟩)⟩)⟩) (Nat.le_of_ble_eq_true rfl) rfl ?_
  intro p e s m args below meth c B hr hex hnm
  have B : kB p l s m args meth c D (kA σ s.heap.size) 4 cL_forbid RL := B
  obtain ⟨fs9, h9⟩ := h.fs
  refine k_aload_n B dL_forbid_0 rfl (by first | exact kRf_r _ | exact kRf_q _ | exact kRf_n) ?_
  refine k_iconst B (v := 0) dL_forbid_1 (by decide) ?_
  refine k_aload_n B dL_forbid_2 rfl (by first | exact kRf_r _ | exact kRf_q _ | exact kRf_n) ?_
  refine k_iload_n B dL_forbid_3 rfl ?_
  refine cl_L_55 B (c_X9_forbid hl hs h) h9 dL_forbid_4 (by first | exact Nat.le_of_ble_eq_true rfl | omega | (simp only [kR, Value.category, kCat_q, List.map, List.sum_cons, List.sum_nil]; omega)) (by first | exact Nat.le_of_ble_eq_true rfl | omega | (simp only [kR, Value.category, kCat_q, List.map, List.sum_cons, List.sum_nil]; omega)) (by first | exact Nat.le_of_ble_eq_true rfl | omega | (simp only [kR, Value.category, kCat_q, List.map, List.sum_cons, List.sum_nil]; omega)) (by first | exact Nat.le_of_ble_eq_true rfl | omega | (simp only [kR, Value.category, kCat_q, List.map, List.sum_cons, List.sum_nil]; omega)) (by first | exact Nat.le_of_ble_eq_true rfl | omega | (simp only [kR, Value.category, kCat_q, List.map, List.sum_cons, List.sum_nil]; omega)) (fun E hE => ?_) (fun v4 s4 hp4 => ?_)
  · skip
    rcases gIx_s hE with rfl | h22
    · skip
      refine k_catch B [] ⟨0, 9, 12, 13⟩ [⟨0, 9, 15, 20⟩] hex (fun z hz => absurd hz List.not_mem_nil) (by decide) (by decide) qw232 csTx1 (fun q9 => ?_)
      refine k_astore_n B dL_forbid_12 (by decide) (by first | exact kRf_r _ | exact kRf_q _ | exact kRf_n) ?_
      try refine kK.set1 (by first | exact True.intro | rfl | exact kCat_q _) ?_
      refine k_iconst B (v := 1) dL_forbid_13 (by decide) ?_
      refine k_iret B hr dL_forbid_14 ?_ (by first | exact Nat.le_of_ble_eq_true rfl | omega | (simp only [kR, Value.category, kCat_q, List.map, List.sum_cons, List.sum_nil]; omega)) (by first | exact Nat.le_of_ble_eq_true rfl | omega | (simp only [kR, Value.category, kCat_q, List.map, List.sum_cons, List.sum_nil]; omega))
      exact Or.inr ⟨eI, hE, by rw [tCd_I], rfl⟩
    · skip
      obtain rfl := gSt_s h22
      refine k_catch B [⟨0, 9, 12, 13⟩] ⟨0, 9, 15, 20⟩ [] hex (List.forall_mem_cons.mpr ⟨Or.inr ⟨by decide, eI, qw232, kB_ncSI B⟩, (fun _ hz => absurd hz List.not_mem_nil)⟩) (by decide) (by decide) qw338 csTx3 (fun q9 => ?_)
      refine k_astore_n B dL_forbid_15 (by decide) (by first | exact kRf_r _ | exact kRf_q _ | exact kRf_n) ?_
      try refine kK.set1 (by first | exact True.intro | rfl | exact kCat_q _) ?_
      refine k_iconst B (v := 2) dL_forbid_16 (by decide) ?_
      refine k_iret B hr dL_forbid_17 ?_ (by first | exact Nat.le_of_ble_eq_true rfl | omega | (simp only [kR, Value.category, kCat_q, List.map, List.sum_cons, List.sum_nil]; omega)) (by first | exact Nat.le_of_ble_eq_true rfl | omega | (simp only [kR, Value.category, kCat_q, List.map, List.sum_cons, List.sum_nil]; omega))
      exact Or.inr ⟨eS, hE, by rw [tCd_S], rfl⟩
  · obtain ⟨hg, e1, h2, f2⟩ := hp4
    rw [e1]
    refine kK.rev (y := .int (rForbid z p0)) rfl ?_
    refine k_i2l B dL_forbid_7 ?_
    refine k_last B dL_forbid_8 (f2 _ _ ho nkL) (vp_in_nI (n := 0) (N := 1) (by decide) (by decide)) ?_
    refine k_goto B 18 dL_forbid_9 (by decide) ?_
    refine k_iconst B (v := 0) dL_forbid_18 (by decide) ?_
    refine k_iret B hr dL_forbid_19 ?_ (by first | exact Nat.le_of_ble_eq_true rfl | omega | (simp only [kR, Value.category, kCat_q, List.map, List.sum_cons, List.sum_nil]; omega)) (by first | exact Nat.le_of_ble_eq_true rfl | omega | (simp only [kR, Value.category, kCat_q, List.map, List.sum_cons, List.sum_nil]; omega))
    exact Or.inl ⟨hg, rfl, h2.out (f2 _ _ ho nkL) nkL, ⟨_, kUp_eq, rfl⟩, kFx.of f2⟩
set_option maxRecDepth 100000 in
theorem c_L_cellOf (hl : l.stackTraces = false) (hs : sOk z) (h : cl9 D aO z J F σ) {p0 p1 : Int32} {f0 : Nat → Int64} (ho : σ aL = some (lArr D f0)) : kMh hL_cellOf l D yL_cellOf 9 2 12 [.ref aO, .int p0, .int p1, .ref aL] σ (lPo (gCellOf p0 p1) (tCd 1 2 2) (fun s2 => cl9 D aO (z) J F s2 ∧ (∃ f, s2 aL = some (lArr D f) ∧ f 0 = (rCellOf z p0 p1).toInt64) ∧ kFx aL σ s2) σ) (fun _ => False) := by
  refine kM_ofW (L := [some (.ref aO), some (.int p0), some (.int p1), some (.ref aL), none]) (by decide +kernel) hl (List.forall_mem_cons.mpr ⟨rfl, (List.forall_mem_cons.mpr ⟨rfl, (List.forall_mem_cons.mpr ⟨rfl, (List.forall_mem_cons.mpr ⟨rfl, (fun _ h => absurd h List.not_mem_nil)⟩)⟩)⟩)⟩) (Nat.le_of_ble_eq_true rfl) rfl ?_
  intro p e s m args below meth c B hr hex hnm
  have B : kB p l s m args meth c D (kA σ s.heap.size) 5 cL_cellOf RL := B
  obtain ⟨fs9, h9⟩ := h.fs
  refine k_aload_n B dL_cellOf_0 rfl (by first | exact kRf_r _ | exact kRf_q _ | exact kRf_n) ?_
  refine k_iconst B (v := 0) dL_cellOf_1 (by decide) ?_
  refine k_aload_n B dL_cellOf_2 rfl (by first | exact kRf_r _ | exact kRf_q _ | exact kRf_n) ?_
  refine k_iload_n B dL_cellOf_3 rfl ?_
  refine k_iload_n B dL_cellOf_4 rfl ?_
  refine cl_L_58 B (c_X9_cellOf hl hs h) h9 dL_cellOf_5 (by first | exact Nat.le_of_ble_eq_true rfl | omega | (simp only [kR, Value.category, kCat_q, List.map, List.sum_cons, List.sum_nil]; omega)) (by first | exact Nat.le_of_ble_eq_true rfl | omega | (simp only [kR, Value.category, kCat_q, List.map, List.sum_cons, List.sum_nil]; omega)) (by first | exact Nat.le_of_ble_eq_true rfl | omega | (simp only [kR, Value.category, kCat_q, List.map, List.sum_cons, List.sum_nil]; omega)) (by first | exact Nat.le_of_ble_eq_true rfl | omega | (simp only [kR, Value.category, kCat_q, List.map, List.sum_cons, List.sum_nil]; omega)) (by first | exact Nat.le_of_ble_eq_true rfl | omega | (simp only [kR, Value.category, kCat_q, List.map, List.sum_cons, List.sum_nil]; omega)) (fun E hE => ?_) (fun v5 s5 hp5 => ?_)
  · skip
    rcases gCell_s hE with rfl | h22
    · skip
      refine k_catch B [] ⟨0, 10, 13, 13⟩ [⟨0, 10, 17, 15⟩] hex (fun z hz => absurd hz List.not_mem_nil) (by decide) (by decide) qw232 csTx1 (fun q9 => ?_)
      refine k_astore B dL_cellOf_13 (by decide) (by first | exact kRf_r _ | exact kRf_q _ | exact kRf_n) ?_
      try refine kK.set1 (by first | exact True.intro | rfl | exact kCat_q _) ?_
      refine k_iconst B (v := 1) dL_cellOf_15 (by decide) ?_
      refine k_iret B hr dL_cellOf_16 ?_ (by first | exact Nat.le_of_ble_eq_true rfl | omega | (simp only [kR, Value.category, kCat_q, List.map, List.sum_cons, List.sum_nil]; omega)) (by first | exact Nat.le_of_ble_eq_true rfl | omega | (simp only [kR, Value.category, kCat_q, List.map, List.sum_cons, List.sum_nil]; omega))
      exact Or.inr ⟨eI, hE, by rw [tCd_I], rfl⟩
    · skip
      rcases gRg_s h22 with rfl | h21
      · skip
        refine k_catch B [⟨0, 10, 13, 13⟩] ⟨0, 10, 17, 15⟩ [] hex (List.forall_mem_cons.mpr ⟨Or.inr ⟨by decide, eI, qw232, kB_ncA B⟩, (fun _ hz => absurd hz List.not_mem_nil)⟩) (by decide) (by decide) qw233 csTx2 (fun q9 => ?_)
        refine k_astore B dL_cellOf_17 (by decide) (by first | exact kRf_r _ | exact kRf_q _ | exact kRf_n) ?_
        try refine kK.set1 (by first | exact True.intro | rfl | exact kCat_q _) ?_
        refine k_iconst B (v := 2) dL_cellOf_19 (by decide) ?_
        refine k_iret B hr dL_cellOf_20 ?_ (by first | exact Nat.le_of_ble_eq_true rfl | omega | (simp only [kR, Value.category, kCat_q, List.map, List.sum_cons, List.sum_nil]; omega)) (by first | exact Nat.le_of_ble_eq_true rfl | omega | (simp only [kR, Value.category, kCat_q, List.map, List.sum_cons, List.sum_nil]; omega))
        exact Or.inr ⟨eA, hE, by rw [tCd_A], rfl⟩
      · cases h21
  · obtain ⟨hg, e1, e2⟩ := hp5
    rw [e1]
    rw [e2]
    refine kK.rev (y := .int (rCellOf z p0 p1)) rfl ?_
    refine k_i2l B dL_cellOf_8 ?_
    refine k_last B dL_cellOf_9 ho (vp_in_nI (n := 0) (N := 1) (by decide) (by decide)) ?_
    refine k_goto B 21 dL_cellOf_10 (by decide) ?_
    refine k_iconst B (v := 0) dL_cellOf_21 (by decide) ?_
    refine k_iret B hr dL_cellOf_22 ?_ (by first | exact Nat.le_of_ble_eq_true rfl | omega | (simp only [kR, Value.category, kCat_q, List.map, List.sum_cons, List.sum_nil]; omega)) (by first | exact Nat.le_of_ble_eq_true rfl | omega | (simp only [kR, Value.category, kCat_q, List.map, List.sum_cons, List.sum_nil]; omega))
    exact Or.inl ⟨hg, rfl, h.out ho nkL, ⟨_, kUp_eq, rfl⟩, kFx.of kFr.rf⟩
set_option maxRecDepth 100000 in
theorem c_L_flow (hl : l.stackTraces = false) (hs : sOk z) (h : cl9 D aO z J F σ) {p0 : Int32} {f0 : Nat → Int64} (ho : σ aL = some (lArr D f0)) : kMh hL_flow l D yL_flow 9 1 6 [.ref aO, .int p0, .ref aL] σ (lPo (gFlow p0) (tCd 1 1 1) (fun s2 => cl9 D aO (z) J F s2 ∧ (∃ f, s2 aL = some (lArr D f) ∧ f 0 = (rFlow z p0).toInt64) ∧ kFx aL σ s2) σ) (fun _ => False) := by
  refine kM_ofW (L := [some (.ref aO), some (.int p0), some (.ref aL), none]) (by decide +kernel) hl (List.forall_mem_cons.mpr ⟨rfl, (List.forall_mem_cons.mpr ⟨rfl, (List.forall_mem_cons.mpr ⟨rfl, (fun _ h => absurd h List.not_mem_nil)⟩)⟩)⟩) (Nat.le_of_ble_eq_true rfl) rfl ?_
  intro p e s m args below meth c B hr hex hnm
  have B : kB p l s m args meth c D (kA σ s.heap.size) 4 cL_flow RL := B
  obtain ⟨fs9, h9⟩ := h.fs
  refine k_aload_n B dL_flow_0 rfl (by first | exact kRf_r _ | exact kRf_q _ | exact kRf_n) ?_
  refine k_iconst B (v := 0) dL_flow_1 (by decide) ?_
  refine k_aload_n B dL_flow_2 rfl (by first | exact kRf_r _ | exact kRf_q _ | exact kRf_n) ?_
  refine k_iload_n B dL_flow_3 rfl ?_
  refine cl_L_61 B (c_X9_flow hl hs h) h9 dL_flow_4 (by first | exact Nat.le_of_ble_eq_true rfl | omega | (simp only [kR, Value.category, kCat_q, List.map, List.sum_cons, List.sum_nil]; omega)) (by first | exact Nat.le_of_ble_eq_true rfl | omega | (simp only [kR, Value.category, kCat_q, List.map, List.sum_cons, List.sum_nil]; omega)) (by first | exact Nat.le_of_ble_eq_true rfl | omega | (simp only [kR, Value.category, kCat_q, List.map, List.sum_cons, List.sum_nil]; omega)) (by first | exact Nat.le_of_ble_eq_true rfl | omega | (simp only [kR, Value.category, kCat_q, List.map, List.sum_cons, List.sum_nil]; omega)) (by first | exact Nat.le_of_ble_eq_true rfl | omega | (simp only [kR, Value.category, kCat_q, List.map, List.sum_cons, List.sum_nil]; omega)) (fun E hE => ?_) (fun v4 s4 hp4 => ?_)
  · skip
    rcases gRg_s hE with rfl | h21
    · skip
      refine k_catch B [] ⟨0, 9, 12, 15⟩ [] hex (fun z hz => absurd hz List.not_mem_nil) (by decide) (by decide) qw233 csTx2 (fun q9 => ?_)
      refine k_astore_n B dL_flow_12 (by decide) (by first | exact kRf_r _ | exact kRf_q _ | exact kRf_n) ?_
      try refine kK.set1 (by first | exact True.intro | rfl | exact kCat_q _) ?_
      refine k_iconst B (v := 1) dL_flow_13 (by decide) ?_
      refine k_iret B hr dL_flow_14 ?_ (by first | exact Nat.le_of_ble_eq_true rfl | omega | (simp only [kR, Value.category, kCat_q, List.map, List.sum_cons, List.sum_nil]; omega)) (by first | exact Nat.le_of_ble_eq_true rfl | omega | (simp only [kR, Value.category, kCat_q, List.map, List.sum_cons, List.sum_nil]; omega))
      exact Or.inr ⟨eA, hE, by rw [tCd_A], rfl⟩
    · cases h21
  · obtain ⟨hg, e1, e2⟩ := hp4
    rw [e1]
    rw [e2]
    refine kK.rev (y := .int (rFlow z p0)) rfl ?_
    refine k_i2l B dL_flow_7 ?_
    refine k_last B dL_flow_8 ho (vp_in_nI (n := 0) (N := 1) (by decide) (by decide)) ?_
    refine k_goto B 15 dL_flow_9 (by decide) ?_
    refine k_iconst B (v := 0) dL_flow_15 (by decide) ?_
    refine k_iret B hr dL_flow_16 ?_ (by first | exact Nat.le_of_ble_eq_true rfl | omega | (simp only [kR, Value.category, kCat_q, List.map, List.sum_cons, List.sum_nil]; omega)) (by first | exact Nat.le_of_ble_eq_true rfl | omega | (simp only [kR, Value.category, kCat_q, List.map, List.sum_cons, List.sum_nil]; omega))
    exact Or.inl ⟨hg, rfl, h.out ho nkL, ⟨_, kUp_eq, rfl⟩, kFx.of kFr.rf⟩
set_option maxRecDepth 100000 in
theorem c_L_wellOf (hl : l.stackTraces = false) (hs : sOk z) (h : cl9 D aO z J F σ) {p0 p1 : Int32} {f0 : Nat → Int64} (ho : σ aL = some (lArr D f0)) : kMh hL_wellOf l D yL_wellOf 9 2 12 [.ref aO, .int p0, .int p1, .ref aL] σ (lPo (gWellOf z p0 p1) (tCd 1 2 2) (fun s2 => cl9 D aO (z) J F s2 ∧ (∃ f, s2 aL = some (lArr D f) ∧ f 0 = (rWellOf z p0 p1).toInt64) ∧ kFx aL σ s2) σ) (fun _ => False) := by
  refine kM_ofW (L := [some (.ref aO), some (.int p0), some (.int p1), some (.ref aL), none]) (by decide +kernel) hl (List.forall_mem_cons.mpr ⟨rfl, (List.forall_mem_cons.mpr ⟨rfl, (List.forall_mem_cons.mpr ⟨rfl, (List.forall_mem_cons.mpr ⟨rfl, (fun _ h => absurd h List.not_mem_nil)⟩)⟩)⟩)⟩) (Nat.le_of_ble_eq_true rfl) rfl ?_
  intro p e s m args below meth c B hr hex hnm
  have B : kB p l s m args meth c D (kA σ s.heap.size) 5 cL_wellOf RL := B
  obtain ⟨fs9, h9⟩ := h.fs
  refine k_aload_n B dL_wellOf_0 rfl (by first | exact kRf_r _ | exact kRf_q _ | exact kRf_n) ?_
  refine k_iconst B (v := 0) dL_wellOf_1 (by decide) ?_
  refine k_aload_n B dL_wellOf_2 rfl (by first | exact kRf_r _ | exact kRf_q _ | exact kRf_n) ?_
  refine k_iload_n B dL_wellOf_3 rfl ?_
  refine k_iload_n B dL_wellOf_4 rfl ?_
  refine cl_L_64 B (c_X9_wellOf hl hs h) h9 dL_wellOf_5 (by first | exact Nat.le_of_ble_eq_true rfl | omega | (simp only [kR, Value.category, kCat_q, List.map, List.sum_cons, List.sum_nil]; omega)) (by first | exact Nat.le_of_ble_eq_true rfl | omega | (simp only [kR, Value.category, kCat_q, List.map, List.sum_cons, List.sum_nil]; omega)) (by first | exact Nat.le_of_ble_eq_true rfl | omega | (simp only [kR, Value.category, kCat_q, List.map, List.sum_cons, List.sum_nil]; omega)) (by first | exact Nat.le_of_ble_eq_true rfl | omega | (simp only [kR, Value.category, kCat_q, List.map, List.sum_cons, List.sum_nil]; omega)) (by first | exact Nat.le_of_ble_eq_true rfl | omega | (simp only [kR, Value.category, kCat_q, List.map, List.sum_cons, List.sum_nil]; omega)) (fun E hE => ?_) (fun v5 s5 hp5 => ?_)
  · skip
    rcases gIx_s hE with rfl | h22
    · skip
      refine k_catch B [] ⟨0, 10, 13, 13⟩ [⟨0, 10, 17, 15⟩] hex (fun z hz => absurd hz List.not_mem_nil) (by decide) (by decide) qw232 csTx1 (fun q9 => ?_)
      refine k_astore B dL_wellOf_13 (by decide) (by first | exact kRf_r _ | exact kRf_q _ | exact kRf_n) ?_
      try refine kK.set1 (by first | exact True.intro | rfl | exact kCat_q _) ?_
      refine k_iconst B (v := 1) dL_wellOf_15 (by decide) ?_
      refine k_iret B hr dL_wellOf_16 ?_ (by first | exact Nat.le_of_ble_eq_true rfl | omega | (simp only [kR, Value.category, kCat_q, List.map, List.sum_cons, List.sum_nil]; omega)) (by first | exact Nat.le_of_ble_eq_true rfl | omega | (simp only [kR, Value.category, kCat_q, List.map, List.sum_cons, List.sum_nil]; omega))
      exact Or.inr ⟨eI, hE, by rw [tCd_I], rfl⟩
    · skip
      rcases gRg_s h22 with rfl | h21
      · skip
        refine k_catch B [⟨0, 10, 13, 13⟩] ⟨0, 10, 17, 15⟩ [] hex (List.forall_mem_cons.mpr ⟨Or.inr ⟨by decide, eI, qw232, kB_ncA B⟩, (fun _ hz => absurd hz List.not_mem_nil)⟩) (by decide) (by decide) qw233 csTx2 (fun q9 => ?_)
        refine k_astore B dL_wellOf_17 (by decide) (by first | exact kRf_r _ | exact kRf_q _ | exact kRf_n) ?_
        try refine kK.set1 (by first | exact True.intro | rfl | exact kCat_q _) ?_
        refine k_iconst B (v := 2) dL_wellOf_19 (by decide) ?_
        refine k_iret B hr dL_wellOf_20 ?_ (by first | exact Nat.le_of_ble_eq_true rfl | omega | (simp only [kR, Value.category, kCat_q, List.map, List.sum_cons, List.sum_nil]; omega)) (by first | exact Nat.le_of_ble_eq_true rfl | omega | (simp only [kR, Value.category, kCat_q, List.map, List.sum_cons, List.sum_nil]; omega))
        exact Or.inr ⟨eA, hE, by rw [tCd_A], rfl⟩
      · cases h21
  · obtain ⟨hg, e1, e2⟩ := hp5
    rw [e1]
    rw [e2]
    refine kK.rev (y := .int (rWellOf z p0 p1)) rfl ?_
    refine k_i2l B dL_wellOf_8 ?_
    refine k_last B dL_wellOf_9 ho (vp_in_nI (n := 0) (N := 1) (by decide) (by decide)) ?_
    refine k_goto B 21 dL_wellOf_10 (by decide) ?_
    refine k_iconst B (v := 0) dL_wellOf_21 (by decide) ?_
    refine k_iret B hr dL_wellOf_22 ?_ (by first | exact Nat.le_of_ble_eq_true rfl | omega | (simp only [kR, Value.category, kCat_q, List.map, List.sum_cons, List.sum_nil]; omega)) (by first | exact Nat.le_of_ble_eq_true rfl | omega | (simp only [kR, Value.category, kCat_q, List.map, List.sum_cons, List.sum_nil]; omega))
    exact Or.inl ⟨hg, rfl, h.out ho nkL, ⟨_, kUp_eq, rfl⟩, kFx.of kFr.rf⟩
set_option maxRecDepth 100000 in
theorem c_L_lotOf (hl : l.stackTraces = false) (hs : sOk z) (h : cl9 D aO z J F σ) {p0 p1 : Int32} {f0 : Nat → Int64} (ho : σ aL = some (lArr D f0)) : kMh hL_lotOf l D yL_lotOf 9 2 12 [.ref aO, .int p0, .int p1, .ref aL] σ (lPo (gLotOf z p0 p1) (tCd 1 2 2) (fun s2 => cl9 D aO (z) J F s2 ∧ (∃ f, s2 aL = some (lArr D f) ∧ f 0 = (rLotOf z p0 p1).toInt64) ∧ kFx aL σ s2) σ) (fun _ => False) := by
  refine kM_ofW (L := [some (.ref aO), some (.int p0), some (.int p1), some (.ref aL), none]) (by decide +kernel) hl (List.forall_mem_cons.mpr ⟨rfl, (List.forall_mem_cons.mpr ⟨rfl, (List.forall_mem_cons.mpr ⟨rfl, (List.forall_mem_cons.mpr ⟨rfl, (fun _ h => absurd h List.not_mem_nil)⟩)⟩)⟩)⟩) (Nat.le_of_ble_eq_true rfl) rfl ?_
  intro p e s m args below meth c B hr hex hnm
  have B : kB p l s m args meth c D (kA σ s.heap.size) 5 cL_lotOf RL := B
  obtain ⟨fs9, h9⟩ := h.fs
  refine k_aload_n B dL_lotOf_0 rfl (by first | exact kRf_r _ | exact kRf_q _ | exact kRf_n) ?_
  refine k_iconst B (v := 0) dL_lotOf_1 (by decide) ?_
  refine k_aload_n B dL_lotOf_2 rfl (by first | exact kRf_r _ | exact kRf_q _ | exact kRf_n) ?_
  refine k_iload_n B dL_lotOf_3 rfl ?_
  refine k_iload_n B dL_lotOf_4 rfl ?_
  refine cl_L_67 B (c_X9_lotOf hl hs h) h9 dL_lotOf_5 (by first | exact Nat.le_of_ble_eq_true rfl | omega | (simp only [kR, Value.category, kCat_q, List.map, List.sum_cons, List.sum_nil]; omega)) (by first | exact Nat.le_of_ble_eq_true rfl | omega | (simp only [kR, Value.category, kCat_q, List.map, List.sum_cons, List.sum_nil]; omega)) (by first | exact Nat.le_of_ble_eq_true rfl | omega | (simp only [kR, Value.category, kCat_q, List.map, List.sum_cons, List.sum_nil]; omega)) (by first | exact Nat.le_of_ble_eq_true rfl | omega | (simp only [kR, Value.category, kCat_q, List.map, List.sum_cons, List.sum_nil]; omega)) (by first | exact Nat.le_of_ble_eq_true rfl | omega | (simp only [kR, Value.category, kCat_q, List.map, List.sum_cons, List.sum_nil]; omega)) (fun E hE => ?_) (fun v5 s5 hp5 => ?_)
  · skip
    rcases gIx_s hE with rfl | h22
    · skip
      refine k_catch B [] ⟨0, 10, 13, 13⟩ [⟨0, 10, 17, 15⟩] hex (fun z hz => absurd hz List.not_mem_nil) (by decide) (by decide) qw232 csTx1 (fun q9 => ?_)
      refine k_astore B dL_lotOf_13 (by decide) (by first | exact kRf_r _ | exact kRf_q _ | exact kRf_n) ?_
      try refine kK.set1 (by first | exact True.intro | rfl | exact kCat_q _) ?_
      refine k_iconst B (v := 1) dL_lotOf_15 (by decide) ?_
      refine k_iret B hr dL_lotOf_16 ?_ (by first | exact Nat.le_of_ble_eq_true rfl | omega | (simp only [kR, Value.category, kCat_q, List.map, List.sum_cons, List.sum_nil]; omega)) (by first | exact Nat.le_of_ble_eq_true rfl | omega | (simp only [kR, Value.category, kCat_q, List.map, List.sum_cons, List.sum_nil]; omega))
      exact Or.inr ⟨eI, hE, by rw [tCd_I], rfl⟩
    · skip
      rcases gRg_s h22 with rfl | h21
      · skip
        refine k_catch B [⟨0, 10, 13, 13⟩] ⟨0, 10, 17, 15⟩ [] hex (List.forall_mem_cons.mpr ⟨Or.inr ⟨by decide, eI, qw232, kB_ncA B⟩, (fun _ hz => absurd hz List.not_mem_nil)⟩) (by decide) (by decide) qw233 csTx2 (fun q9 => ?_)
        refine k_astore B dL_lotOf_17 (by decide) (by first | exact kRf_r _ | exact kRf_q _ | exact kRf_n) ?_
        try refine kK.set1 (by first | exact True.intro | rfl | exact kCat_q _) ?_
        refine k_iconst B (v := 2) dL_lotOf_19 (by decide) ?_
        refine k_iret B hr dL_lotOf_20 ?_ (by first | exact Nat.le_of_ble_eq_true rfl | omega | (simp only [kR, Value.category, kCat_q, List.map, List.sum_cons, List.sum_nil]; omega)) (by first | exact Nat.le_of_ble_eq_true rfl | omega | (simp only [kR, Value.category, kCat_q, List.map, List.sum_cons, List.sum_nil]; omega))
        exact Or.inr ⟨eA, hE, by rw [tCd_A], rfl⟩
      · cases h21
  · obtain ⟨hg, e1, e2⟩ := hp5
    rw [e1]
    rw [e2]
    refine kK.rev (y := .int (rLotOf z p0 p1)) rfl ?_
    refine k_i2l B dL_lotOf_8 ?_
    refine k_last B dL_lotOf_9 ho (vp_in_nI (n := 0) (N := 1) (by decide) (by decide)) ?_
    refine k_goto B 21 dL_lotOf_10 (by decide) ?_
    refine k_iconst B (v := 0) dL_lotOf_21 (by decide) ?_
    refine k_iret B hr dL_lotOf_22 ?_ (by first | exact Nat.le_of_ble_eq_true rfl | omega | (simp only [kR, Value.category, kCat_q, List.map, List.sum_cons, List.sum_nil]; omega)) (by first | exact Nat.le_of_ble_eq_true rfl | omega | (simp only [kR, Value.category, kCat_q, List.map, List.sum_cons, List.sum_nil]; omega))
    exact Or.inl ⟨hg, rfl, h.out ho nkL, ⟨_, kUp_eq, rfl⟩, kFx.of kFr.rf⟩
set_option maxRecDepth 100000 in
theorem c_L_age (hl : l.stackTraces = false) (hs : sOk z) (h : cl9 D aO z J F σ) {p0 : Int32} (hnn : ∀ i, i < sLn z → vf_n32 (ageF z i)) {f0 : Nat → UInt64} (ho : σ aL = some (dArr D f0)) : kMh hL_age l D yL_age 9 1 6 [.ref aO, .int p0, .ref aL] σ (lPo (gAge z p0) (tCd 1 1 1) (fun s2 => cl9 D aO (z) J F s2 ∧ (∃ f, s2 aL = some (dArr D f) ∧ f 0 = FP.f2d (ageF z (cN p0))) ∧ kFx aL σ s2) σ) (fun _ => False) := by
  refine kM_ofW (L := [some (.ref aO), some (.int p0), some (.ref aL), none]) (by decide +kernel) hl (List.forall_mem_cons.mpr ⟨rfl, (List.forall_mem_cons.mpr ⟨rfl, (List.forall_mem_cons.mpr ⟨rfl, (fun _ h => absurd h List.not_mem_nil)⟩)⟩)⟩) (Nat.le_of_ble_eq_true rfl) rfl ?_
  intro p e s m args below meth c B hr hex hnm
  have B : kB p l s m args meth c D (kA σ s.heap.size) 4 cL_age RL := B
  obtain ⟨fs9, h9⟩ := h.fs
  refine k_aload_n B dL_age_0 rfl (by first | exact kRf_r _ | exact kRf_q _ | exact kRf_n) ?_
  refine k_iconst B (v := 0) dL_age_1 (by decide) ?_
  refine k_aload_n B dL_age_2 rfl (by first | exact kRf_r _ | exact kRf_q _ | exact kRf_n) ?_
  refine k_iload_n B dL_age_3 rfl ?_
  refine cl_L_70 B (c_X9_age hl hs h hnn) h9 dL_age_4 (by first | exact Nat.le_of_ble_eq_true rfl | omega | (simp only [kR, Value.category, kCat_q, List.map, List.sum_cons, List.sum_nil]; omega)) (by first | exact Nat.le_of_ble_eq_true rfl | omega | (simp only [kR, Value.category, kCat_q, List.map, List.sum_cons, List.sum_nil]; omega)) (by first | exact Nat.le_of_ble_eq_true rfl | omega | (simp only [kR, Value.category, kCat_q, List.map, List.sum_cons, List.sum_nil]; omega)) (by first | exact Nat.le_of_ble_eq_true rfl | omega | (simp only [kR, Value.category, kCat_q, List.map, List.sum_cons, List.sum_nil]; omega)) (by first | exact Nat.le_of_ble_eq_true rfl | omega | (simp only [kR, Value.category, kCat_q, List.map, List.sum_cons, List.sum_nil]; omega)) (fun E hE => ?_) (fun v4 s4 hp4 => ?_)
  · skip
    rcases gIx_s hE with rfl | h21
    · skip
      refine k_catch B [] ⟨0, 9, 12, 13⟩ [] hex (fun z hz => absurd hz List.not_mem_nil) (by decide) (by decide) qw232 csTx1 (fun q9 => ?_)
      refine k_astore_n B dL_age_12 (by decide) (by first | exact kRf_r _ | exact kRf_q _ | exact kRf_n) ?_
      try refine kK.set1 (by first | exact True.intro | rfl | exact kCat_q _) ?_
      refine k_iconst B (v := 1) dL_age_13 (by decide) ?_
      refine k_iret B hr dL_age_14 ?_ (by first | exact Nat.le_of_ble_eq_true rfl | omega | (simp only [kR, Value.category, kCat_q, List.map, List.sum_cons, List.sum_nil]; omega)) (by first | exact Nat.le_of_ble_eq_true rfl | omega | (simp only [kR, Value.category, kCat_q, List.map, List.sum_cons, List.sum_nil]; omega))
      exact Or.inr ⟨eI, hE, by rw [tCd_I], rfl⟩
    · cases h21
  · obtain ⟨hg, e1, e2⟩ := hp4
    rw [e1]
    rw [e2]
    have hnv : vf_n32 (ageF z (cN p0)) := by
      have hg : gIx p0 (nI (sLn z)) none = none := hg
      obtain ⟨i, hi, ei⟩ := ix_of (n := sLn z) (by have := hs.2.2.2.1.1; omega) (gIx_i hg).1
      rw [ei, cN_nI (by have := hs.2.2.2.1.1; omega)]
      exact hnn i hi
    refine kK.rev (y := .float (ageF z (cN p0))) rfl ?_
    refine k_f2d B dL_age_7 (nn_f2d hnv) ?_
    refine k_dast B dL_age_8 ho (vp_in_nI (n := 0) (N := 1) (by decide) (by decide)) ?_
    refine k_goto B 15 dL_age_9 (by decide) ?_
    refine k_iconst B (v := 0) dL_age_15 (by decide) ?_
    refine k_iret B hr dL_age_16 ?_ (by first | exact Nat.le_of_ble_eq_true rfl | omega | (simp only [kR, Value.category, kCat_q, List.map, List.sum_cons, List.sum_nil]; omega)) (by first | exact Nat.le_of_ble_eq_true rfl | omega | (simp only [kR, Value.category, kCat_q, List.map, List.sum_cons, List.sum_nil]; omega))
    exact Or.inl ⟨hg, rfl, h.out ho nkD, ⟨_, kUp_eq, rfl⟩, kFx.of kFr.rf⟩
set_option maxRecDepth 100000 in
theorem c_L_best (hl : l.stackTraces = false) (hs : sOk z) (h : cl9 D aO z J F σ) {p0 : Int32} {f0 : Nat → Int64} (ho : σ aL = some (lArr D f0)) : kMh hL_best l D yL_best 9 1 6 [.ref aO, .int p0, .ref aL] σ (lPo (gBest z p0) (tCd 1 1 1) (fun s2 => cl9 D aO (z) J F s2 ∧ (∃ f, s2 aL = some (lArr D f) ∧ f 0 = (rBest z p0).toInt64) ∧ kFx aL σ s2) σ) (fun _ => False) := by
  refine kM_ofW (L := [some (.ref aO), some (.int p0), some (.ref aL), none]) (by decide +kernel) hl (List.forall_mem_cons.mpr ⟨rfl, (List.forall_mem_cons.mpr ⟨rfl, (List.forall_mem_cons.mpr ⟨rfl, (fun _ h => absurd h List.not_mem_nil)⟩)⟩)⟩) (Nat.le_of_ble_eq_true rfl) rfl ?_
  intro p e s m args below meth c B hr hex hnm
  have B : kB p l s m args meth c D (kA σ s.heap.size) 4 cL_best RL := B
  obtain ⟨fs9, h9⟩ := h.fs
  refine k_aload_n B dL_best_0 rfl (by first | exact kRf_r _ | exact kRf_q _ | exact kRf_n) ?_
  refine k_iconst B (v := 0) dL_best_1 (by decide) ?_
  refine k_aload_n B dL_best_2 rfl (by first | exact kRf_r _ | exact kRf_q _ | exact kRf_n) ?_
  refine k_iload_n B dL_best_3 rfl ?_
  refine cl_L_74 B (c_X9_best hl hs h) h9 dL_best_4 (by first | exact Nat.le_of_ble_eq_true rfl | omega | (simp only [kR, Value.category, kCat_q, List.map, List.sum_cons, List.sum_nil]; omega)) (by first | exact Nat.le_of_ble_eq_true rfl | omega | (simp only [kR, Value.category, kCat_q, List.map, List.sum_cons, List.sum_nil]; omega)) (by first | exact Nat.le_of_ble_eq_true rfl | omega | (simp only [kR, Value.category, kCat_q, List.map, List.sum_cons, List.sum_nil]; omega)) (by first | exact Nat.le_of_ble_eq_true rfl | omega | (simp only [kR, Value.category, kCat_q, List.map, List.sum_cons, List.sum_nil]; omega)) (by first | exact Nat.le_of_ble_eq_true rfl | omega | (simp only [kR, Value.category, kCat_q, List.map, List.sum_cons, List.sum_nil]; omega)) (fun E hE => ?_) (fun v4 s4 hp4 => ?_)
  · skip
    rcases gIx_s hE with rfl | h21
    · skip
      refine k_catch B [] ⟨0, 9, 12, 13⟩ [] hex (fun z hz => absurd hz List.not_mem_nil) (by decide) (by decide) qw232 csTx1 (fun q9 => ?_)
      refine k_astore_n B dL_best_12 (by decide) (by first | exact kRf_r _ | exact kRf_q _ | exact kRf_n) ?_
      try refine kK.set1 (by first | exact True.intro | rfl | exact kCat_q _) ?_
      refine k_iconst B (v := 1) dL_best_13 (by decide) ?_
      refine k_iret B hr dL_best_14 ?_ (by first | exact Nat.le_of_ble_eq_true rfl | omega | (simp only [kR, Value.category, kCat_q, List.map, List.sum_cons, List.sum_nil]; omega)) (by first | exact Nat.le_of_ble_eq_true rfl | omega | (simp only [kR, Value.category, kCat_q, List.map, List.sum_cons, List.sum_nil]; omega))
      exact Or.inr ⟨eI, hE, by rw [tCd_I], rfl⟩
    · cases h21
  · obtain ⟨hg, e1, e2⟩ := hp4
    rw [e1]
    rw [e2]
    refine kK.rev (y := .int (rBest z p0)) rfl ?_
    refine k_i2l B dL_best_7 ?_
    refine k_last B dL_best_8 ho (vp_in_nI (n := 0) (N := 1) (by decide) (by decide)) ?_
    refine k_goto B 15 dL_best_9 (by decide) ?_
    refine k_iconst B (v := 0) dL_best_15 (by decide) ?_
    refine k_iret B hr dL_best_16 ?_ (by first | exact Nat.le_of_ble_eq_true rfl | omega | (simp only [kR, Value.category, kCat_q, List.map, List.sum_cons, List.sum_nil]; omega)) (by first | exact Nat.le_of_ble_eq_true rfl | omega | (simp only [kR, Value.category, kCat_q, List.map, List.sum_cons, List.sum_nil]; omega))
    exact Or.inl ⟨hg, rfl, h.out ho nkL, ⟨_, kUp_eq, rfl⟩, kFx.of kFr.rf⟩
set_option maxRecDepth 100000 in
theorem c_L_from (hl : l.stackTraces = false) (hs : sOk z) (h : cl9 D aO z J F σ) {p0 p1 p2 : Int32} {f0 : Nat → Int64} (ho : σ aL = some (lArr D f0)) : kMh hL_from l D yL_from 9 2 12 [.ref aO, .int p0, .int p1, .int p2, .ref aL] σ (lPo (gFrom z p0 p1) (tCd 1 1 1) (fun s2 => cl9 D aO (z) J F s2 ∧ (∃ f, s2 aL = some (lArr D f) ∧ f 0 = (rFrom z p0 p1 p2).toInt64) ∧ kFx aL σ s2) σ) (fun _ => False) := by
  refine kM_ofW (L := [some (.ref aO), some (.int p0), some (.int p1), some (.int p2), some (.ref aL), none]) (by decide +kernel) hl (List.forall_mem_cons.mpr ⟨rfl, (List.forall_mem_cons.mpr ⟨rfl, (List.forall_mem_cons.mpr ⟨rfl, (List.forall_mem_cons.mpr ⟨rfl, (List.forall_mem_cons.mpr ⟨rfl, (fun _ h => absurd h List.not_mem_nil)⟩)⟩)⟩)⟩)⟩) (Nat.le_of_ble_eq_true rfl) rfl ?_
  intro p e s m args below meth c B hr hex hnm
  have B : kB p l s m args meth c D (kA σ s.heap.size) 6 cL_from RL := B
  obtain ⟨fs9, h9⟩ := h.fs
  refine k_aload B dL_from_0 rfl (by first | exact kRf_r _ | exact kRf_q _ | exact kRf_n) ?_
  refine k_iconst B (v := 0) dL_from_2 (by decide) ?_
  refine k_aload_n B dL_from_3 rfl (by first | exact kRf_r _ | exact kRf_q _ | exact kRf_n) ?_
  refine k_iload_n B dL_from_4 rfl ?_
  refine k_iload_n B dL_from_5 rfl ?_
  refine k_iload_n B dL_from_6 rfl ?_
  refine cl_L_77 B (c_X9_from hl hs h) h9 dL_from_7 (by first | exact Nat.le_of_ble_eq_true rfl | omega | (simp only [kR, Value.category, kCat_q, List.map, List.sum_cons, List.sum_nil]; omega)) (by first | exact Nat.le_of_ble_eq_true rfl | omega | (simp only [kR, Value.category, kCat_q, List.map, List.sum_cons, List.sum_nil]; omega)) (by first | exact Nat.le_of_ble_eq_true rfl | omega | (simp only [kR, Value.category, kCat_q, List.map, List.sum_cons, List.sum_nil]; omega)) (by first | exact Nat.le_of_ble_eq_true rfl | omega | (simp only [kR, Value.category, kCat_q, List.map, List.sum_cons, List.sum_nil]; omega)) (by first | exact Nat.le_of_ble_eq_true rfl | omega | (simp only [kR, Value.category, kCat_q, List.map, List.sum_cons, List.sum_nil]; omega)) (fun E hE => ?_) (fun v7 s7 hp7 => ?_)
  · skip
    rcases gIx_s hE with rfl | h22
    · skip
      refine k_catch B [] ⟨0, 12, 15, 13⟩ [] hex (fun z hz => absurd hz List.not_mem_nil) (by decide) (by decide) qw232 csTx1 (fun q9 => ?_)
      refine k_astore B dL_from_15 (by decide) (by first | exact kRf_r _ | exact kRf_q _ | exact kRf_n) ?_
      try refine kK.set1 (by first | exact True.intro | rfl | exact kCat_q _) ?_
      refine k_iconst B (v := 1) dL_from_17 (by decide) ?_
      refine k_iret B hr dL_from_18 ?_ (by first | exact Nat.le_of_ble_eq_true rfl | omega | (simp only [kR, Value.category, kCat_q, List.map, List.sum_cons, List.sum_nil]; omega)) (by first | exact Nat.le_of_ble_eq_true rfl | omega | (simp only [kR, Value.category, kCat_q, List.map, List.sum_cons, List.sum_nil]; omega))
      exact Or.inr ⟨eI, hE, by rw [tCd_I], rfl⟩
    · skip
      rcases gIx_s h22 with rfl | h21
      · skip
        refine k_catch B [] ⟨0, 12, 15, 13⟩ [] hex (fun z hz => absurd hz List.not_mem_nil) (by decide) (by decide) qw232 csTx1 (fun q9 => ?_)
        refine k_astore B dL_from_15 (by decide) (by first | exact kRf_r _ | exact kRf_q _ | exact kRf_n) ?_
        try refine kK.set1 (by first | exact True.intro | rfl | exact kCat_q _) ?_
        refine k_iconst B (v := 1) dL_from_17 (by decide) ?_
        refine k_iret B hr dL_from_18 ?_ (by first | exact Nat.le_of_ble_eq_true rfl | omega | (simp only [kR, Value.category, kCat_q, List.map, List.sum_cons, List.sum_nil]; omega)) (by first | exact Nat.le_of_ble_eq_true rfl | omega | (simp only [kR, Value.category, kCat_q, List.map, List.sum_cons, List.sum_nil]; omega))
        exact Or.inr ⟨eI, hE, by rw [tCd_I], rfl⟩
      · cases h21
  · obtain ⟨hg, e1, e2⟩ := hp7
    rw [e1]
    rw [e2]
    refine kK.rev (y := .int (rFrom z p0 p1 p2)) rfl ?_
    refine k_i2l B dL_from_10 ?_
    refine k_last B dL_from_11 ho (vp_in_nI (n := 0) (N := 1) (by decide) (by decide)) ?_
    refine k_goto B 19 dL_from_12 (by decide) ?_
    refine k_iconst B (v := 0) dL_from_19 (by decide) ?_
    refine k_iret B hr dL_from_20 ?_ (by first | exact Nat.le_of_ble_eq_true rfl | omega | (simp only [kR, Value.category, kCat_q, List.map, List.sum_cons, List.sum_nil]; omega)) (by first | exact Nat.le_of_ble_eq_true rfl | omega | (simp only [kR, Value.category, kCat_q, List.map, List.sum_cons, List.sum_nil]; omega))
    exact Or.inl ⟨hg, rfl, h.out ho nkL, ⟨_, kUp_eq, rfl⟩, kFx.of kFr.rf⟩
set_option maxRecDepth 100000 in
theorem c_L_fromAnew (hl : l.stackTraces = false) (hs : sOk z) (h : cl9 D aO z J F σ) {p0 p1 p2 : Int32} (hok : ∀ i fc, i < sLn z → fc < 10 → folK fc p2 (11 + i) J (emF F)) {f0 : Nat → Int64} (ho : σ aL = some (lArr D f0)) : kMh hL_fromAnew l D yL_fromAnew 9 (2 + faC z p0 p1 p2 J F) (12 + 3 * faC z p0 p1 p2 J F) [.ref aO, .int p0, .int p1, .int p2, .ref aL] σ (lPo (gFrom z p0 p1) (tCd 1 1 1) (fun s2 => cl9 D aO (z) J (faF p0 p1 p2 J F) s2 ∧ (∃ f, s2 aL = some (lArr D f) ∧ f 0 = (nI (faV z p0 p1 p2 J F)).toInt64) ∧ kFx aL σ s2) σ) (fun _ => False) := by
  refine kM_ofW (L := [some (.ref aO), some (.int p0), some (.int p1), some (.int p2), some (.ref aL), none]) (by decide +kernel) hl (List.forall_mem_cons.mpr ⟨rfl, (List.forall_mem_cons.mpr ⟨rfl, (List.forall_mem_cons.mpr ⟨rfl, (List.forall_mem_cons.mpr ⟨rfl, (List.forall_mem_cons.mpr ⟨rfl, (fun _ h => absurd h List.not_mem_nil)⟩)⟩)⟩)⟩)⟩) (Nat.le_of_ble_eq_true rfl) rfl ?_
  intro p e s m args below meth c B hr hex hnm
  have B : kB p l s m args meth c D (kA σ s.heap.size) 6 cL_fromAnew RL := B
  obtain ⟨fs9, h9⟩ := h.fs
  refine k_aload B dL_fromAnew_0 rfl (by first | exact kRf_r _ | exact kRf_q _ | exact kRf_n) ?_
  refine k_iconst B (v := 0) dL_fromAnew_2 (by decide) ?_
  refine k_aload_n B dL_fromAnew_3 rfl (by first | exact kRf_r _ | exact kRf_q _ | exact kRf_n) ?_
  refine k_iload_n B dL_fromAnew_4 rfl ?_
  refine k_iload_n B dL_fromAnew_5 rfl ?_
  refine k_iload_n B dL_fromAnew_6 rfl ?_
  refine cl_L_81 B (c_X9_fromAnew hl hs h hok) h9 dL_fromAnew_7 (by first | exact Nat.le_of_ble_eq_true rfl | omega | (simp only [kR, Value.category, kCat_q, List.map, List.sum_cons, List.sum_nil]; omega)) (by first | exact Nat.le_of_ble_eq_true rfl | omega | (simp only [kR, Value.category, kCat_q, List.map, List.sum_cons, List.sum_nil]; omega)) (by first | exact Nat.le_of_ble_eq_true rfl | omega | (simp only [kR, Value.category, kCat_q, List.map, List.sum_cons, List.sum_nil]; omega)) (by first | exact Nat.le_of_ble_eq_true rfl | omega | (simp only [kR, Value.category, kCat_q, List.map, List.sum_cons, List.sum_nil]; omega)) (by first | exact Nat.le_of_ble_eq_true rfl | omega | (simp only [kR, Value.category, kCat_q, List.map, List.sum_cons, List.sum_nil]; omega)) (fun E hE => ?_) (fun v7 s7 hp7 => ?_)
  · skip
    rcases gIx_s hE with rfl | h22
    · skip
      refine k_catch B [] ⟨0, 12, 15, 13⟩ [] hex (fun z hz => absurd hz List.not_mem_nil) (by decide) (by decide) qw232 csTx1 (fun q9 => ?_)
      refine k_astore B dL_fromAnew_15 (by decide) (by first | exact kRf_r _ | exact kRf_q _ | exact kRf_n) ?_
      try refine kK.set1 (by first | exact True.intro | rfl | exact kCat_q _) ?_
      refine k_iconst B (v := 1) dL_fromAnew_17 (by decide) ?_
      refine k_iret B hr dL_fromAnew_18 ?_ (by first | exact Nat.le_of_ble_eq_true rfl | omega | (simp only [kR, Value.category, kCat_q, List.map, List.sum_cons, List.sum_nil]; omega)) (by first | exact Nat.le_of_ble_eq_true rfl | omega | (simp only [kR, Value.category, kCat_q, List.map, List.sum_cons, List.sum_nil]; omega))
      exact Or.inr ⟨eI, hE, by rw [tCd_I], rfl⟩
    · skip
      rcases gIx_s h22 with rfl | h21
      · skip
        refine k_catch B [] ⟨0, 12, 15, 13⟩ [] hex (fun z hz => absurd hz List.not_mem_nil) (by decide) (by decide) qw232 csTx1 (fun q9 => ?_)
        refine k_astore B dL_fromAnew_15 (by decide) (by first | exact kRf_r _ | exact kRf_q _ | exact kRf_n) ?_
        try refine kK.set1 (by first | exact True.intro | rfl | exact kCat_q _) ?_
        refine k_iconst B (v := 1) dL_fromAnew_17 (by decide) ?_
        refine k_iret B hr dL_fromAnew_18 ?_ (by first | exact Nat.le_of_ble_eq_true rfl | omega | (simp only [kR, Value.category, kCat_q, List.map, List.sum_cons, List.sum_nil]; omega)) (by first | exact Nat.le_of_ble_eq_true rfl | omega | (simp only [kR, Value.category, kCat_q, List.map, List.sum_cons, List.sum_nil]; omega))
        exact Or.inr ⟨eI, hE, by rw [tCd_I], rfl⟩
      · cases h21
  · obtain ⟨hg, e1, h2, f2⟩ := hp7
    rw [e1]
    refine kK.rev (y := .int (nI (faV z p0 p1 p2 J F))) rfl ?_
    refine k_i2l B dL_fromAnew_10 ?_
    refine k_last B dL_fromAnew_11 (f2 _ _ ho nkL) (vp_in_nI (n := 0) (N := 1) (by decide) (by decide)) ?_
    refine k_goto B 19 dL_fromAnew_12 (by decide) ?_
    refine k_iconst B (v := 0) dL_fromAnew_19 (by decide) ?_
    refine k_iret B hr dL_fromAnew_20 ?_ (by first | exact Nat.le_of_ble_eq_true rfl | omega | (simp only [kR, Value.category, kCat_q, List.map, List.sum_cons, List.sum_nil]; omega)) (by first | exact Nat.le_of_ble_eq_true rfl | omega | (simp only [kR, Value.category, kCat_q, List.map, List.sum_cons, List.sum_nil]; omega))
    exact Or.inl ⟨hg, rfl, h2.out (f2 _ _ ho nkL) nkL, ⟨_, kUp_eq, rfl⟩, kFx.of f2⟩
set_option maxRecDepth 100000 in
theorem c_L_whence (hl : l.stackTraces = false) (hs : sOk z) (h : cl9 D aO z J F σ) {p0 p1 : Int32} {f0 : Nat → Int64} (ho : σ aL = some (lArr D f0)) : kMh hL_whence l D yL_whence 9 2 12 [.ref aO, .int p0, .int p1, .ref aL] σ (lPo (gWhence z p0 p1) (tCd 1 1 1) (fun s2 => cl9 D aO (z) J F s2 ∧ (∃ f, s2 aL = some (lArr D f) ∧ f 0 = (rWhence z p0 p1).toInt64) ∧ kFx aL σ s2) σ) (fun _ => False) := by
  refine kM_ofW (L := [some (.ref aO), some (.int p0), some (.int p1), some (.ref aL), none]) (by decide +kernel) hl (List.forall_mem_cons.mpr ⟨rfl, (List.forall_mem_cons.mpr ⟨rfl, (List.forall_mem_cons.mpr ⟨rfl, (List.forall_mem_cons.mpr ⟨rfl, (fun _ h => absurd h List.not_mem_nil)⟩)⟩)⟩)⟩) (Nat.le_of_ble_eq_true rfl) rfl ?_
  intro p e s m args below meth c B hr hex hnm
  have B : kB p l s m args meth c D (kA σ s.heap.size) 5 cL_whence RL := B
  obtain ⟨fs9, h9⟩ := h.fs
  refine k_aload_n B dL_whence_0 rfl (by first | exact kRf_r _ | exact kRf_q _ | exact kRf_n) ?_
  refine k_iconst B (v := 0) dL_whence_1 (by decide) ?_
  refine k_aload_n B dL_whence_2 rfl (by first | exact kRf_r _ | exact kRf_q _ | exact kRf_n) ?_
  refine k_iload_n B dL_whence_3 rfl ?_
  refine k_iload_n B dL_whence_4 rfl ?_
  refine cl_L_84 B (c_X9_whence hl hs h) h9 dL_whence_5 (by first | exact Nat.le_of_ble_eq_true rfl | omega | (simp only [kR, Value.category, kCat_q, List.map, List.sum_cons, List.sum_nil]; omega)) (by first | exact Nat.le_of_ble_eq_true rfl | omega | (simp only [kR, Value.category, kCat_q, List.map, List.sum_cons, List.sum_nil]; omega)) (by first | exact Nat.le_of_ble_eq_true rfl | omega | (simp only [kR, Value.category, kCat_q, List.map, List.sum_cons, List.sum_nil]; omega)) (by first | exact Nat.le_of_ble_eq_true rfl | omega | (simp only [kR, Value.category, kCat_q, List.map, List.sum_cons, List.sum_nil]; omega)) (by first | exact Nat.le_of_ble_eq_true rfl | omega | (simp only [kR, Value.category, kCat_q, List.map, List.sum_cons, List.sum_nil]; omega)) (fun E hE => ?_) (fun v5 s5 hp5 => ?_)
  · skip
    rcases gIx_s hE with rfl | h22
    · skip
      refine k_catch B [] ⟨0, 10, 13, 13⟩ [] hex (fun z hz => absurd hz List.not_mem_nil) (by decide) (by decide) qw232 csTx1 (fun q9 => ?_)
      refine k_astore B dL_whence_13 (by decide) (by first | exact kRf_r _ | exact kRf_q _ | exact kRf_n) ?_
      try refine kK.set1 (by first | exact True.intro | rfl | exact kCat_q _) ?_
      refine k_iconst B (v := 1) dL_whence_15 (by decide) ?_
      refine k_iret B hr dL_whence_16 ?_ (by first | exact Nat.le_of_ble_eq_true rfl | omega | (simp only [kR, Value.category, kCat_q, List.map, List.sum_cons, List.sum_nil]; omega)) (by first | exact Nat.le_of_ble_eq_true rfl | omega | (simp only [kR, Value.category, kCat_q, List.map, List.sum_cons, List.sum_nil]; omega))
      exact Or.inr ⟨eI, hE, by rw [tCd_I], rfl⟩
    · skip
      rcases gIx_s h22 with rfl | h21
      · skip
        refine k_catch B [] ⟨0, 10, 13, 13⟩ [] hex (fun z hz => absurd hz List.not_mem_nil) (by decide) (by decide) qw232 csTx1 (fun q9 => ?_)
        refine k_astore B dL_whence_13 (by decide) (by first | exact kRf_r _ | exact kRf_q _ | exact kRf_n) ?_
        try refine kK.set1 (by first | exact True.intro | rfl | exact kCat_q _) ?_
        refine k_iconst B (v := 1) dL_whence_15 (by decide) ?_
        refine k_iret B hr dL_whence_16 ?_ (by first | exact Nat.le_of_ble_eq_true rfl | omega | (simp only [kR, Value.category, kCat_q, List.map, List.sum_cons, List.sum_nil]; omega)) (by first | exact Nat.le_of_ble_eq_true rfl | omega | (simp only [kR, Value.category, kCat_q, List.map, List.sum_cons, List.sum_nil]; omega))
        exact Or.inr ⟨eI, hE, by rw [tCd_I], rfl⟩
      · cases h21
  · obtain ⟨hg, e1, e2⟩ := hp5
    rw [e1]
    rw [e2]
    refine kK.rev (y := .int (rWhence z p0 p1)) rfl ?_
    refine k_i2l B dL_whence_8 ?_
    refine k_last B dL_whence_9 ho (vp_in_nI (n := 0) (N := 1) (by decide) (by decide)) ?_
    refine k_goto B 17 dL_whence_10 (by decide) ?_
    refine k_iconst B (v := 0) dL_whence_17 (by decide) ?_
    refine k_iret B hr dL_whence_18 ?_ (by first | exact Nat.le_of_ble_eq_true rfl | omega | (simp only [kR, Value.category, kCat_q, List.map, List.sum_cons, List.sum_nil]; omega)) (by first | exact Nat.le_of_ble_eq_true rfl | omega | (simp only [kR, Value.category, kCat_q, List.map, List.sum_cons, List.sum_nil]; omega))
    exact Or.inl ⟨hg, rfl, h.out ho nkL, ⟨_, kUp_eq, rfl⟩, kFx.of kFr.rf⟩
set_option maxRecDepth 100000 in
theorem c_L_sum (hl : l.stackTraces = false) (hs : sOk z) (h : cl9 D aO z J F σ) {p0 : Int32} {f0 : Nat → Int64} (ho : σ aL = some (lArr D f0)) : kMh hL_sum l D yL_sum 9 1 6 [.ref aO, .int p0, .ref aL] σ (lPo (gSum p0) (tCd 1 1 1) (fun s2 => cl9 D aO (z) J F s2 ∧ (∃ f, s2 aL = some (lArr D f) ∧ f 0 = rSum z p0) ∧ kFx aL σ s2) σ) (fun _ => False) := by
  refine kM_ofW (L := [some (.ref aO), some (.int p0), some (.ref aL), none]) (by decide +kernel) hl (List.forall_mem_cons.mpr ⟨rfl, (List.forall_mem_cons.mpr ⟨rfl, (List.forall_mem_cons.mpr ⟨rfl, (fun _ h => absurd h List.not_mem_nil)⟩)⟩)⟩) (Nat.le_of_ble_eq_true rfl) rfl ?_
  intro p e s m args below meth c B hr hex hnm
  have B : kB p l s m args meth c D (kA σ s.heap.size) 4 cL_sum RL := B
  obtain ⟨fs9, h9⟩ := h.fs
  refine k_aload_n B dL_sum_0 rfl (by first | exact kRf_r _ | exact kRf_q _ | exact kRf_n) ?_
  refine k_iconst B (v := 0) dL_sum_1 (by decide) ?_
  refine k_aload_n B dL_sum_2 rfl (by first | exact kRf_r _ | exact kRf_q _ | exact kRf_n) ?_
  refine k_iload_n B dL_sum_3 rfl ?_
  refine cl_L_87 B (c_X9_sum hl hs h) h9 dL_sum_4 (by first | exact Nat.le_of_ble_eq_true rfl | omega | (simp only [kR, Value.category, kCat_q, List.map, List.sum_cons, List.sum_nil]; omega)) (by first | exact Nat.le_of_ble_eq_true rfl | omega | (simp only [kR, Value.category, kCat_q, List.map, List.sum_cons, List.sum_nil]; omega)) (by first | exact Nat.le_of_ble_eq_true rfl | omega | (simp only [kR, Value.category, kCat_q, List.map, List.sum_cons, List.sum_nil]; omega)) (by first | exact Nat.le_of_ble_eq_true rfl | omega | (simp only [kR, Value.category, kCat_q, List.map, List.sum_cons, List.sum_nil]; omega)) (by first | exact Nat.le_of_ble_eq_true rfl | omega | (simp only [kR, Value.category, kCat_q, List.map, List.sum_cons, List.sum_nil]; omega)) (fun E hE => ?_) (fun v4 s4 hp4 => ?_)
  · skip
    rcases gRg_s hE with rfl | h21
    · skip
      refine k_catch B [] ⟨0, 8, 11, 15⟩ [] hex (fun z hz => absurd hz List.not_mem_nil) (by decide) (by decide) qw233 csTx2 (fun q9 => ?_)
      refine k_astore_n B dL_sum_11 (by decide) (by first | exact kRf_r _ | exact kRf_q _ | exact kRf_n) ?_
      try refine kK.set1 (by first | exact True.intro | rfl | exact kCat_q _) ?_
      refine k_iconst B (v := 1) dL_sum_12 (by decide) ?_
      refine k_iret B hr dL_sum_13 ?_ (by first | exact Nat.le_of_ble_eq_true rfl | omega | (simp only [kR, Value.category, kCat_q, List.map, List.sum_cons, List.sum_nil]; omega)) (by first | exact Nat.le_of_ble_eq_true rfl | omega | (simp only [kR, Value.category, kCat_q, List.map, List.sum_cons, List.sum_nil]; omega))
      exact Or.inr ⟨eA, hE, by rw [tCd_A], rfl⟩
    · cases h21
  · obtain ⟨hg, e1, e2⟩ := hp4
    rw [e1]
    rw [e2]
    refine kK.rev (y := .long (rSum z p0)) rfl ?_
    refine k_last B dL_sum_7 ho (vp_in_nI (n := 0) (N := 1) (by decide) (by decide)) ?_
    refine k_goto B 14 dL_sum_8 (by decide) ?_
    refine k_iconst B (v := 0) dL_sum_14 (by decide) ?_
    refine k_iret B hr dL_sum_15 ?_ (by first | exact Nat.le_of_ble_eq_true rfl | omega | (simp only [kR, Value.category, kCat_q, List.map, List.sum_cons, List.sum_nil]; omega)) (by first | exact Nat.le_of_ble_eq_true rfl | omega | (simp only [kR, Value.category, kCat_q, List.map, List.sum_cons, List.sum_nil]; omega))
    exact Or.inl ⟨hg, rfl, h.out ho nkL, ⟨_, kUp_eq, rfl⟩, kFx.of kFr.rf⟩
end LH
