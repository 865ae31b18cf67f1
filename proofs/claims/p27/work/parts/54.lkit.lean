/-! ===== the law of this claim: rows of its own, and contracts that read the script ===== -/
theorem nI_mul (a b : Nat) : nI a * nI b = nI (a * b) := (Int32.ofNat_mul a b).symm
theorem nI_sub {a b : Nat} (h : b ≤ a) : nI a - nI b = nI (a - b) := by
  have e : nI a = nI (a - b) + nI b := by rw [nI_add, Nat.sub_add_cancel h]
  rw [e, Int32.add_sub_cancel]
theorem nI_rem {a b : Nat} (ha : a < 2 ^ 31) (hb : 1 ≤ b) (hb2 : b < 2 ^ 31) : nI a - nI a / nI b * nI b = nI (a % b) := by
  have h := Nat.div_mul_le_self a b
  rw [pk_div ha hb hb2, nI_mul, nI_sub h]
  congr 1
  have := Nat.mod_add_div a b
  rw [Nat.mul_comm] at this
  omega
theorem nI_z {a : Nat} (h : a < 2 ^ 31) : nI a = 0 ↔ a = 0 := by rw [← nI_0]; exact nI_eq h (by decide)
theorem nI_n0 {a : Nat} (h : a < 2 ^ 31) : ¬ nI a < 0 := nI_pos h
theorem nI_le0' {a : Nat} (h : a < 2 ^ 31) : nI a ≤ 0 ↔ a = 0 := by
  rw [← nI_0, nI_leI h (by decide)]; omega
/-- an array of N ints -/
def iA (D : va_G) (N : Nat) (f : Nat → Int32) : va_E := .inl (D.1 11, N, .inl f)
theorem kC_i {D : va_G} {N : Nat} {f : Nat → Int32} : kC (iA D N f) = 11 := rfl
theorem nk11 : ¬ k9F 11 := fun q => by rcases q with q | q <;> omega
theorem iA_len {D : va_G} {N M : Nat} {f g : Nat → Int32} (h : iA D N f = iA D M g) : N = M := by
  have := congrArg (fun e : va_E => match e with | .inl (_, n, _) => n | _ => 0) h
  exact this
theorem iA_ne {D : va_G} {σ : kS} {a b N M : Nat} {f g : Nat → Int32} (ha : σ a = some (iA D N f)) (hb : σ b = some (iA D M g)) (h : N ≠ M) : a ≠ b := fun q => by
  subst q
  rw [ha] at hb
  exact h (iA_len (Option.some.inj hb))
theorem iA_keep {D : va_G} {σ s2 : kS} (hf : kFr k9F σ s2) {a N : Nat} {f : Nat → Int32} (ha : σ a = some (iA D N f)) : s2 a = some (iA D N f) := hf _ _ ha nk11
/-- no cell but those of X, and the objects', is another one -/
def lFx (X : Nat → Prop) (σ s2 : kS) : Prop := ∀ (a : Nat) (e : va_E), σ a = some e → ¬ k9F (kC e) → ¬ X a → s2 a = some e
theorem cl9.rv {D : va_G} {aO : Nat} {z : kSt} {J : List kJe} {F : kF} {σ : kS} (h : cl9 D aO z J F σ) : ∃ fs, σ aO = some (.inr (9, fs)) := by
  obtain ⟨cA, wA, lA, aJ, cad, ra, wad, lad, R, h⟩ := h
  exact ⟨_, h.o⟩
theorem isAr_15 {N : Nat} {e : va_E} (h : isAr N e) : kC e = 15 := by
  obtain ⟨c1, M, f | f | f | f | f⟩ | f := e
  all_goals first | exact h.elim | rfl
theorem cl9.keepF {D : va_G} {aO : Nat} {z : kSt} {J : List kJe} {F : kF} {σ s2 : kS} (h : cl9 D aO z J F σ) (hf : ∀ (a : Nat) (e : va_E), σ a = some e → k9F (kC e) → s2 a = some e) : cl9 D aO z J F s2 := by
  obtain ⟨cA, wA, lA, aJ, cad, ra, wad, lad, R, h⟩ := h
  have hk : ∀ P : va_E → Prop, (∀ e, P e → k9F (kC e)) → kKp P σ s2 := fun P hp a e he q => hf a e he (hp e q)
  have hA : ∀ N e, isAr N e → k9F (kC e) := fun N e q => Or.inr (isAr_15 q)
  refine ⟨cA, wA, lA, aJ, cad, ra, wad, lad, R, hf _ _ h.o (Or.inl (Nat.le_refl 9)), h.a.keep (hk _ (hA _)), h.aw.keep (hk _ (hA _)), h.al.keep (hk _ (hA _)), h.c.keep (hk _ (fun e q => Or.inl (by have q : kC e = 0 := q; omega))), h.w.keep (hk _ (fun e q => Or.inl (by have q : kC e = 8 := q; omega))), h.lo.keep (hk _ (fun e q => Or.inl (by have q : kC e = 2 := q; omega))), h.r.keep (hk _ (fun e q => Or.inl (by rcases q with q | q <;> omega))), h.rc, h.j.keep (hk _ (fun e q => ?_))⟩
  rcases q with q | q | q | q | q
  · exact Or.inl (by omega)
  · exact Or.inl (by omega)
  · exact Or.inl (by omega)
  · exact Or.inl (by omega)
  · exact hA _ _ q
/-- an int array written: the object is as it was -/
theorem cl9.upI {D : va_G} {aO : Nat} {z : kSt} {J : List kJe} {F : kF} {σ : kS} (h : cl9 D aO z J F σ) {a N : Nat} {f : Nat → Int32} (ha : σ a = some (iA D N f)) {e2 : va_E} : cl9 D aO z J F (kUp σ a e2) := h.keepF (fun b e hb hk => kUp_o (fun q => by
  subst q
  rw [ha] at hb
  cases hb
  exact nk11 hk) hb)
theorem cl9.newI {D : va_G} {aO : Nat} {z : kSt} {J : List kJe} {F : kF} {σ : kS} (h : cl9 D aO z J F σ) {a : Nat} (ha : σ a = none) {e2 : va_E} : cl9 D aO z J F (kUp σ a e2) := h.keepF (fun b e hb _ => kUp_o (kNeN hb ha) hb)
theorem noE {g : Option String} {P : String → Prop} (h : g = none) : ∀ E : String, g = some E → P E := fun E hE => by rw [h] at hE; cases hE
section LKit
variable {p : Program} {l : Launch} {e : Env} {R : Room} {s : State} {m : MethodId} {args : Array Value} {below : List Frame} {meth : Method} {c : Code} {D : va_G} {A : Nat → Prop} {nL : Nat} {Q : State → Prop} {σ : kS} {k n pc : Nat} {L : List (Option Value)} {S : List Value} {cc : ByteArray} {own : String}
/-- what a question answers -/
theorem rdV {x : Value} (kk : kK p l e R s m args below meth c D A nL Q σ k n pc L (x :: S)) : ∀ (v : Option Value) (σ2 : kS), (v = some x ∧ σ2 = σ) → kK p l e R s m args below meth c D A nL Q σ2 k n pc L (v.toList ++ S) := by
  rintro v σ2 ⟨rfl, e2⟩
  rw [e2]
  exact kk
theorem rdI {g : Prop} {x y : Int32} (h : x = y) (kk : kK p l e R s m args below meth c D A nL Q σ k n pc L (.int y :: S)) : ∀ (v : Option Value) (σ2 : kS), (g ∧ v = some (.int x) ∧ σ2 = σ) → kK p l e R s m args below meth c D A nL Q σ2 k n pc L (v.toList ++ S) := by
  rintro v σ2 ⟨-, rfl, e2⟩
  rw [e2, h]
  exact kk
theorem rdL {g : Prop} {x y : Int64} (h : x = y) (kk : kK p l e R s m args below meth c D A nL Q σ k n pc L (.long y :: S)) : ∀ (v : Option Value) (σ2 : kS), (g ∧ v = some (.long x) ∧ σ2 = σ) → kK p l e R s m args below meth c D A nL Q σ2 k n pc L (v.toList ++ S) := by
  rintro v σ2 ⟨-, rfl, e2⟩
  rw [e2, h]
  exact kk
theorem rdF {g : Prop} {x y : UInt32} (h : x = y) (kk : kK p l e R s m args below meth c D A nL Q σ k n pc L (.float y :: S)) : ∀ (v : Option Value) (σ2 : kS), (g ∧ v = some (.float x) ∧ σ2 = σ) → kK p l e R s m args below meth c D A nL Q σ2 k n pc L (v.toList ++ S) := by
  rintro v σ2 ⟨-, rfl, e2⟩
  rw [e2, h]
  exact kk
/-- an int array is read, written -/
theorem k_ald (B : kB p l s m args meth c D A nL cc own) {a N : Nat} {f : Nat → Int32} (j : Nat) {i y : Int32} (hd : decode cc pc = .ok (.iaload, 1)) (he : σ a = some (iA D N f)) (hi : i = nI j) (hj : j < N) (hN : N < 2 ^ 31) (hy : f j = y) (kk : kK p l e R s m args below meth c D A nL Q σ k n (pc + 1) L (.int y :: S)) : kK p l e R s m args below meth c D A nL Q σ k n pc L (.int i :: .ref a :: S) := by
  subst hi
  refine k_iald B hd he (vp_in_nI hj hN) ?_
  rw [nI_clamp (by omega), hy]
  exact kk
theorem k_aup (B : kB p l s m args meth c D A nL cc own) {a N : Nat} {f : Nat → Int32} (j : Nat) {i x : Int32} (hd : decode cc pc = .ok (.iastore, 1)) (he : σ a = some (iA D N f)) (hi : i = nI j) (hj : j < N) (hN : N < 2 ^ 31) (kk : kK p l e R s m args below meth c D A nL Q (kUp σ a (iA D N (upN f j x))) k n (pc + 1) L S) : kK p l e R s m args below meth c D A nL Q σ k n pc L (.int x :: .int i :: .ref a :: S) := by
  subst hi
  refine k_iast B hd he (vp_in_nI hj hN) ?_
  rw [nI_clamp (by omega)]
  exact kk
theorem k_anew (B : kB p l s m args meth c D A nL cc own) (N : Nat) {z : Int32} (hd : decode cc pc = .ok (.newarray .int, 2)) (hz : z = nI N) (hN : N < 100) (hw : Cond.arrayClass FieldType.int ∈ TB) (hk : k + 1 ≤ R.cells) (hn : n + N ≤ R.slots) (kk : ∀ q : Nat, σ q = none → kK p l e R s m args below meth c D A nL Q (kUp σ q (iA D N (fun _ => 0))) (k + 1) (n + N) (pc + 2) L (.ref q :: S)) : kK p l e R s m args below meth c D A nL Q σ k n pc L (.int z :: S) := by
  subst hz
  refine k_newa B (atype := .int) (ti := 0) rfl rfl (fun C h => by cases h) hw hd (N := N) (a0 := (N, .inl fun _ => 0)) (fun _ => rfl) (nI_pos (by omega)) (nI_clamp (by omega)) (by show N * 4 ≤ 536870912; omega) hk hn kk
theorem k_iincN (B : kB p l s m args meth c D A nL cc own) {z : Nat} {x y : Int32} (hd : decode cc pc = .ok (.iinc z 1, 3)) (hl : L[z]? = some (some (.int x))) (hn : z < nL) (hy : x + 1 = y) (kk : kK p l e R s m args below meth c D A nL Q σ k n (pc + 3) (kSt1 L z (.int y)) S) : kK p l e R s m args below meth c D A nL Q σ k n pc L S := by
  subst hy
  exact k_iinc1 B hd hl hn kk
/-- the script is read -/
theorem k_sld (B : kB p l s m args meth c D A nL cc own) {b N : Nat} {xs : Nat → Int32} (hX : va_X b N xs s s.heap) (hbl : b < s.heap.size) (hbA : ¬ A b) {i : Int32} (hin : vp_in i N) (hd : decode cc pc = .ok (.iaload, 1)) (kk : kK p l e R s m args below meth c D A nL Q σ k n (pc + 1) L (.int (xs i.toNatClampNeg) :: S)) : kK p l e R s m args below meth c D A nL Q σ k n pc L (.int i :: .ref b :: S) := fun H locs ls h1 h2 h3 h4 => va_sld B.1 B.2.1 hX hbl hbA h3 hin hd (kk H locs ls h1 h2 h3 h4)
theorem k_slen (B : kB p l s m args meth c D A nL cc own) {b N : Nat} {xs : Nat → Int32} (hX : va_X b N xs s s.heap) (hbl : b < s.heap.size) (hbA : ¬ A b) (hd : decode cc pc = .ok (.arraylength, 1)) (kk : kK p l e R s m args below meth c D A nL Q σ k n (pc + 1) L (.int (nI N) :: S)) : kK p l e R s m args below meth c D A nL Q σ k n pc L (.ref b :: S) := fun H locs ls h1 h2 h3 h4 => va_slen B.1 B.2.1 hX hbl hbA h3 hd (kk H locs ls h1 h2 h3 h4)
end LKit
/-- a contract that reads the script b of N ints xs -/
def kMx (hd : Cond) (l : Launch) (D : va_G) (b N : Nat) (xs : Nat → Int32) (y : MethodName) (h mc ms : Nat) (av : List Value) (σ : kS) (Post : Option Value → kS → Prop) (PX : String → Prop) : Prop :=
  ∀ sz : Nat, vx_Met l y (hd :: TB) (kR h mc ms) (va_Pc av (fun U => (U.heap.size = sz ∧ kOk D σ U.heap ∧ va_K D vwCl (kTys D) U ∧ kZ (kA σ sz) U) ∧ va_X b N xs U U.heap ∧ b < sz ∧ ¬ kA σ sz b))
    (fun _ st o t => ∃ (v : Option Value) (σ2 : kS), o = .returned v ∧ Post v σ2 ∧ kOk D σ2 t.heap ∧ (∀ (a : Nat) (x : va_E), σ2 a = some x → kA σ sz a) ∧ va_F (kA σ sz) st t)
    (fun E st t => PX E ∧ kOk D σ t.heap ∧ va_F (kA σ sz) st t) mc ms (kA σ sz)
theorem kPre_blindS {av : List Value} {D : va_G} {b N : Nat} {xs : Nat → Int32} {σ : kS} {sz : Nat} : FrameBlind (va_Pc av (fun U => (U.heap.size = sz ∧ kOk D σ U.heap ∧ va_K D vwCl (kTys D) U ∧ kZ (kA σ sz) U) ∧ va_X b N xs U U.heap ∧ b < sz ∧ ¬ kA σ sz b)) := fun a U g mk q => by
  obtain ⟨q0, ⟨q1, q2, q3, q4⟩, q5, q6⟩ := q
  exact ⟨q0, ⟨q1, q2, va_K.moved (u := U) (U := U.calling g mk a) (Vm.Alike.refl U.vm) q3, q4.blind g mk a⟩, va_X.moved (u := U) (U := U.calling g mk a) (Vm.Alike.refl U.vm) q5, q6⟩
section KES
variable {l : Launch} {D : va_G} {b9 N9 : Nat} {xs9 : Nat → Int32}
theorem kM_ofS {y : MethodName} {cc : ByteArray} {maxL : Nat} {ret : Option FieldType} {h mc ms : Nat} {av : List Value} {σ : kS} {Post : Option Value → kS → Prop} {PX : String → Prop} (hy : plainName y.cls = true) (hl : l.stackTraces = false) (hcat : ∀ v ∈ av, v.category = 1) (hlen : av.length ≤ maxL) {L : List (Option Value)} (hL : av.map some ++ List.replicate (maxL - av.length) none = L)
    (body : ∀ (p : Program) (e : Env) (s : State) (m : MethodId) (args : Array Value) (below : List Frame) (meth : Method) (c : Code), kB p l s m args meth c D (kA σ s.heap.size) maxL cc y.cls → meth.sig.returnType = ret → (∀ x ∈ c.exceptionTable.toList, False) → meth.name = y.name → va_X b9 N9 xs9 s s.heap → b9 < s.heap.size → ¬ kA σ s.heap.size b9 →
      kK p l e (kR h mc ms) s m args below meth c D (kA σ s.heap.size) maxL (kQ below args s D σ Post PX mc ms) σ 0 0 0 L []) : kMx (.code y cc maxL ret) l D b9 N9 xs9 y h mc ms av σ Post PX := by
  intro sz
  refine vx_ofW (cc := cc) (maxL := maxL) (ret := ret) hy rfl ?_
  intro p e s m args below meth c s₁ B hml hex hv
  obtain ⟨rfl, ⟨hsz, hok, hK, hZ⟩, hX, hb1, hb2⟩ := hv
  subst hsz
  rw [lg_entry_eq]
  exact body p e s m av.toArray below meth c (kB_of B hml hl hK hZ) B.returns hex (name_of_methodNamed B.named B.method).1 hX hb1 hb2 s.heap [] _ hok (fun a x hx => Or.inl ⟨x, hx⟩) va_S.rf (kHas_entry hcat hlen hL)
end KES
section KCS
variable {p : Program} {l : Launch} {e : Env} {R : Room} {s : State} {m : MethodId} {args : Array Value} {below : List Frame} {meth : Method} {c : Code} {D : va_G} {A : Nat → Prop} {nL : Nat} {Q : State → Prop} {σ : kS} {k n pc : Nat} {L : List (Option Value)} {S : List Value} {cc : ByteArray} {own : String}
variable {y : MethodName} {cc2 : ByteArray} {maxL2 : Nat} {ret2 : Option FieldType} {g9 mc2 ms2 : Nat} {Post2 : Option Value → kS → Prop} {PX2 : String → Prop} {As st : List Value} {idx b9 N9 : Nat} {xs9 : Nat → Int32}
theorem k_callSs (B : kB p l s m args meth c D A nL cc own) (hX : va_X b9 N9 xs9 s s.heap) (hbl : b9 < s.heap.size) (hbA : ¬ A b9) (hM : kMx (.code y cc2 maxL2 ret2) l D b9 N9 xs9 y g9 mc2 ms2 As σ Post2 PX2)
    (hd : decode cc pc = .ok (.invokestatic idx, 3)) (hst : st = As.reverse ++ S)
    (w1 : Cond.methodLink own idx y ∈ TB) (w2 : Cond.static y ∈ TB) (w4 : Cond.initialized own ∈ TB) (w5 : Cond.code y cc2 maxL2 ret2 ∈ TB) (hy : y.cls = own ∧ y.cls ≠ "java/lang/invoke/MethodHandle" ∧ y.cls ≠ "java/lang/invoke/VarHandle" ∧ (parseMethodDescriptor y.desc).map (fun d => d.parameters.length) = some As.length)
    (hf : g9 + 1 ≤ R.frames) (hlc : 8 + (maxL2 + 11) + 36 * g9 ≤ R.locals) (hk : k + mc2 ≤ R.cells) (hn : n + ms2 ≤ R.slots) (hS : (S.map fun v => v.category).sum ≤ 8)
    (kx : ∀ E : String, PX2 E → kX p l e R s m args below meth c D A nL Q σ (k + mc2) (n + ms2) pc L S E)
    (kk : ∀ (v : Option Value) (σ2 : kS), Post2 v σ2 → kK p l e R s m args below meth c D A nL Q σ2 (k + mc2) (n + ms2) (pc + 3) L (v.toList ++ S)) : kK p l e R s m args below meth c D A nL Q σ k n pc L st := by
  refine k_run B (sa := #[]) (fun H locs ls h1 h2 h3 h4 => ?_) kx kk
  have hg : GoodIn TB (wsS own idx y (.code y cc2 maxL2 ret2 :: TB)) := by
    intro w hw
    simp only [wsS, List.cons_append, List.nil_append, List.mem_cons] at hw
    rcases hw with rfl | rfl | rfl | rfl | hw
    · exact tb_good _ w1
    · exact tb_good _ w2
    · exact tb_good _ w4
    · exact tb_good _ w5
    · exact tb_good _ hw
  exact vx_runS ⟨B.1, B.2.1, B.2.2.1, B.2.2.2.1, B.2.2.2.2.1⟩ (hM H.size) (cwS As.length B.2.2.2.2.1 hg rfl rfl rfl hy ⟨hf, hlc⟩) ⟨kPre_blindS, fun U hU hW => ⟨rfl, ⟨by rw [hU], by rw [hU]; exact h1, va_K.moved hW.alike B.2.2.2.2.2.1, kZ_in B h2 h3 hU hW⟩, (by rw [hU]; exact (va_X.moved hW.alike hX).kept (h3.2.1 b9 hbl hbA)), Nat.lt_of_lt_of_le hbl h3.1, fun q => q.elim (fun ⟨x, hx⟩ => hbA (h2 _ x hx)) (fun q => absurd (Nat.lt_of_lt_of_le hbl h3.1) (Nat.not_lt.mpr q))⟩⟩ rfl rfl h4.1 hst (lv_room hS) hd ⟨hk, hn⟩
end KCS
