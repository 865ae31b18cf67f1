/-! ===== the law: what holds between two calls ===== -/
theorem dcmpS {x : UInt64} (h : FP.Core.dIsNaN x = false) : Op.cmpValue (FP.dcmp x x) .l = 0 := by
  rw [show FP.dcmp x x = some .eq from FP.Core.dcmp_self ((FP.Core.notNaN_iff x).mp h)]
  rfl
theorem tCd_ne {a b c : Int32} {E : String} (ha : a ≠ 0) (hb : b ≠ 0) (hc : c ≠ 0) : ¬ tCd a b c E = 0 := by
  unfold tCd
  split
  · exact ha
  · split
    · exact hb
    · exact hc
def lI (D : va_G) (aO aM aL aD : Nat) (ma : Nat → Nat) (st k n : Nat) (σ : kS) : Prop := ∃ (z : kSt) (J : List kJe) (F : kF) (t : Int32), sOk z ∧ jR z J ∧ cl9 D aO z J F σ ∧ cl10 D aM ma z t σ ∧ (∃ f, σ aL = some (lArr D f)) ∧ (∃ f, σ aD = some (dArr D f)) ∧ cnt F ≤ 3400 ∧ k ≤ 200 + 31 * sNow z + 7 * st + cnt F ∧ n ≤ 40000 + 164 * sNow z + 38 * st + 3 * cnt F
section LawK
variable {D : va_G} {σ s2 : kS} {aO aM aL aD : Nat} {ma : Nat → Nat} {z : kSt} {J : List kJe} {F : kF} {t : Int32}
theorem own_kC {mv : Nat → Nat → Int32} {q : kQc} (h : mI D aM ma mv q σ) {a : Nat} (ho : mOwn aM ma a) {e : va_E} (he : σ a = some e) : kC e = 10 ∨ kC e = 11 := by
  rcases ho with rfl | ⟨k, hk, rfl⟩
  · rw [h.1] at he; cases he; exact Or.inl rfl
  · rw [h.2.1 k hk] at he; cases he; exact Or.inr rfl
theorem cl10.o (h : cl10 D aM ma z t σ) : ∃ fs, σ aM = some (.inr (10, fs)) := by
  obtain ⟨mv, kn, Lk, h⟩ := h
  exact ⟨_, h.o⟩
/-- the reference stays where the class works -/
theorem cl10.keepX (h : cl10 D aM ma z t σ) (hf : kFx aL σ s2) {e0 : va_E} (h0 : σ aL = some e0) (hn : kC e0 = 13 ∨ kC e0 = 14) : cl10 D aM ma z t s2 := by
  obtain ⟨mv, kn, Lk, h1, h2⟩ := h
  refine ⟨mv, kn, Lk, h1.keep (fun a e he ho => ?_), h2⟩
  have hk := own_kC h1 ho he
  refine hf a e he (fun q => ?_) (fun q => ?_)
  · rcases q with q | q <;> omega
  · subst q; rw [h0] at he; cases he; omega
theorem cl10.keepN (h : cl10 D aM ma z t σ) (hf : kFr k9F σ s2) : cl10 D aM ma z t s2 := by
  obtain ⟨mv, kn, Lk, h1, h2⟩ := h
  refine ⟨mv, kn, Lk, h1.keep (fun a e he ho => ?_), h2⟩
  have hk := own_kC h1 ho he
  exact hf a e he (fun q => by rcases q with q | q <;> omega)
/-- the class stays where the reference works -/
theorem cl9.keepO (h : cl9 D aO z J F σ) {z2 : kSt} {t2 : Int32} (h2 : cl10 D aM ma z2 t2 σ) (hf : kOut (mOwn aM ma) σ s2) : cl9 D aO z J F s2 := by
  obtain ⟨mv, kn, Lk, h1, -⟩ := h2
  refine h.keepF (fun a e he hk => hf a e he (fun ho => ?_))
  have hk2 := own_kC h1 ho he
  rcases hk with q | q <;> omega
theorem keepL (h2 : cl10 D aM ma z t σ) (hf : kOut (mOwn aM ma) σ s2) {a : Nat} {e : va_E} (he : σ a = some e) (hk : kC e = 13 ∨ kC e = 14) : s2 a = some e := by
  obtain ⟨mv, kn, Lk, h1, -⟩ := h2
  refine hf a e he (fun ho => ?_)
  have hk2 := own_kC h1 ho he
  omega
theorem kC_l {f : Nat → Int64} : kC (lArr D f) = 13 := rfl
theorem kC_d {f : Nat → UInt64} : kC (dArr D f) = 14 := rfl
/-- the other answer's cell stays -/
theorem kFx.d (hf : kFx aL σ s2) {f : Nat → Int64} {g : Nat → UInt64} (hL : σ aL = some (lArr D f)) (hD : σ aD = some (dArr D g)) : s2 aD = some (dArr D g) := hf aD _ hD nkD (fun q => by
  rw [q, hL] at hD
  have h9 := congrArg kC (Option.some.inj hD)
  rw [kC_l, kC_d] at h9
  cases h9)
theorem kFx.l (hf : kFx aD σ s2) {f : Nat → Int64} {g : Nat → UInt64} (hL : σ aL = some (lArr D f)) (hD : σ aD = some (dArr D g)) : s2 aL = some (lArr D f) := hf aL _ hL nkL (fun q => by
  rw [q, hD] at hL
  have h9 := congrArg kC (Option.some.inj hL)
  rw [kC_l, kC_d] at h9
  cases h9)
theorem passN_le {y r : Int32} : passN z y r ≤ 20 := by
  unfold passN
  split
  · rename_i hg
    obtain ⟨g1, ga⟩ := gRg_i hg
    obtain ⟨j, hj1, hj2, ej⟩ := inR_of (a := 1) (n := 20) rfl rfl (by decide) (by decide) g1
    rw [ej, cN_nI (by omega)]
    exact hj2
  · exact Nat.zero_le _
theorem passN_now {y r : Int32} (hg : gPass z y r = none) : sNow (nPass z y r) = sNow z + passN z y r := by
  rw [nPass, passS_now, passN, if_pos hg]
theorem jR.len (h : jR z J) : J.length ≤ 11 * sNow z + sLn z := h.2.2.2.2
/-- the pieces of a question anew -/
theorem fa_cnt (hs : sOk z) (h : jR z J) (hc : cnt F ≤ 3400) {p0 p1 p2 : Int32} : faC z p0 p1 p2 J F ≤ 3400 ∧ (gFrom z p0 p1 = none → cnt (faF p0 p1 p2 J F) ≤ 3400 ∧ cnt (faF p0 p1 p2 J F) = cnt F + faC z p0 p1 p2 J F) := by
  unfold faC
  by_cases hg : gFrom z p0 p1 = none
  · rw [if_pos hg]
    have h40 := hs.2.2.2.1.1
    have hn3 := hs.1.1
    have hlen := h.len
    obtain ⟨g1, ga⟩ := gIx_i hg
    obtain ⟨g2, -⟩ := gIx_i ga
    obtain ⟨i, hi, ei⟩ := ix_of (n := sLn z) (by omega) g1
    obtain ⟨c1, hc1, ec⟩ := ix_of (n := 10) (by decide) g2
    have hcn : cN p1 < 10 := by rw [ec, cN_nI (by omega)]; exact hc1
    have hin : cN p0 < sLn z := by rw [ei, cN_nI (by omega)]; exact hi
    obtain ⟨a1, a2⟩ := fol_cnt (fc := cN p1) (tg := 11 + cN p0) (yI := p2) (J := J) (F := emF F) (k := 0) hcn (jR_ok h (cN p0) (cN p1) hin hcn) (Nat.le_of_eq cnt_em.2)
    rw [cnt_em.1] at a1 a2
    have a3 : cnt (faF p0 p1 p2 J F) = cnt F + (fol (cN p1) p2 (11 + cN p0) J (emF F)).2 := a1
    have a4 : cnt (faF p0 p1 p2 J F) ≤ cnt F ∨ cnt (faF p0 p1 p2 J F) ≤ 0 + J.length := a2
    exact ⟨by omega, fun _ => ⟨by omega, a3⟩⟩
  · rw [if_neg hg]
    exact ⟨Nat.zero_le _, fun q => absurd q hg⟩
theorem fa_val (hs : sOk z) (h : jR z J) {p0 p1 p2 : Int32} (hg : gFrom z p0 p1 = none) : nI (faV z p0 p1 p2 J F) = rFrom z p0 p1 p2 := by
  have h40 := hs.2.2.2.1.1
  obtain ⟨g1, ga⟩ := gIx_i hg
  obtain ⟨g2, -⟩ := gIx_i ga
  obtain ⟨i, hi, ei⟩ := ix_of (n := sLn z) (by omega) g1
  obtain ⟨c1, hc1, ec⟩ := ix_of (n := 10) (by decide) g2
  rw [rFrom, ei, ec, jR_val h hi h40 hc1, cN_nI (by omega)]
theorem age_nn (hs : sOk z) : ∀ i, i < sLn z → vf_n32 (ageF z i) := fun i hi => by
  have h := (hs.2.2.2.1.2 i hi).2.2.2.2.2.2
  exact nn_age h.1 (by omega)
end LawK
section LawS
variable {p : Program} {l : Launch} {e : Env} {R : Room} {s : State} {m : MethodId} {args : Array Value} {below : List Frame} {meth : Method} {c : Code} {D : va_G} {A : Nat → Prop} {nL : Nat} {cc : ByteArray} {own : String} {Q : State → Prop} {σ : kS} {k n pc : Nat} {L : List (Option Value)} {S : List Value}
/-- the script is read -/
theorem k_sld (B : kB p l s m args meth c D A nL cc own) {b N : Nat} {xs : Nat → Int32} (hX : va_X b N xs s s.heap) (hbl : b < s.heap.size) (hbA : ¬ A b) {i : Int32} (hin : vp_in i N) (hd : decode cc pc = .ok (.iaload, 1)) (kk : kK p l e R s m args below meth c D A nL Q σ k n (pc + 1) L (.int (xs i.toNatClampNeg) :: S)) : kK p l e R s m args below meth c D A nL Q σ k n pc L (.int i :: .ref b :: S) := fun H locs ls h1 h2 h3 h4 => va_sld B.1 B.2.1 hX hbl hbA h3 hin hd (kk H locs ls h1 h2 h3 h4)
theorem k_slen (B : kB p l s m args meth c D A nL cc own) {b N : Nat} {xs : Nat → Int32} (hX : va_X b N xs s s.heap) (hbl : b < s.heap.size) (hbA : ¬ A b) (hd : decode cc pc = .ok (.arraylength, 1)) (kk : kK p l e R s m args below meth c D A nL Q σ k n (pc + 1) L (.int (nI N) :: S)) : kK p l e R s m args below meth c D A nL Q σ k n pc L (.ref b :: S) := fun H locs ls h1 h2 h3 h4 => va_slen B.1 B.2.1 hX hbl hbA h3 hd (kk H locs ls h1 h2 h3 h4)
end LawS
