section KH
variable {p : Program} {l : Launch} {e : Env} {R : Room} {s : State} {m : MethodId} {args : Array Value} {below : List Frame} {meth : Method} {c : Code} {D : va_G} {A : Nat → Prop} {nL : Nat} {Q : State → Prop} {σ : kS} {k n pc : Nat} {L : List (Option Value)} {S : List Value} {cc : ByteArray} {own : String}
theorem kK_dom {A : Nat → Prop} {σ : kS} {a : Nat} {x : va_E} (h : ∀ (b : Nat) (y : va_E), σ b = some y → A b) (ha : A a) : ∀ (b : Nat) (y : va_E), kUp σ a x b = some y → A b := by
  intro b y hb
  by_cases q : b = a
  · rw [q]; exact ha
  · rw [kUp_ne q] at hb; exact h b y hb
theorem k_get (B : kB p l s m args meth c D A nL cc own) {C : String} {T : u_T} {N ci idx a : Nat} (hin : ∀ w ∈ u_ws C T N, w ∈ TB) (hc : vwCl[ci]? = some (C, T, N)) (j : Nat) (hj : j < N) (hw : Cond.fieldLink own idx C (T j).2.1 (T j).2.2.1 ∈ TB) (hT : (T j).1 = C) (hd : decode cc pc = .ok (.getfield idx, 3)) {fs : List Value} (he : σ a = some (.inr (ci, fs))) {v : Value} (hv : fs[j]? = some v)
    (kk : kK p l e R s m args below meth c D A nL Q σ k n (pc + 3) L (v :: S)) : kK p l e R s m args below meth c D A nL Q σ k n pc L (.ref a :: S) := fun H locs ls h1 h2 h3 h4 =>
  va_get (D := D) (Ts := TB) B.1 B.2.1 B.2.2.2.2.1 hin B.2.2.2.1 B.2.2.2.2.2.1 (h1.p he) 0 rfl hc j hj (B.2.2.2.2.1 _ hw) (fun x hx => by rw [hT] at hx; exact hx) hv hd (kk H locs ls h1 h2 h3 h4)
theorem k_put (B : kB p l s m args meth c D A nL cc own) {C : String} {T : u_T} {N ci idx a : Nat} (hin : ∀ w ∈ u_ws C T N, w ∈ TB) (hc : vwCl[ci]? = some (C, T, N)) (ty0 : Nat → FieldType) (hty : ∀ k, k < N → parseFieldDescriptor (T k).2.2.1 = some (ty0 k)) (hnm : ∀ a, a < N → ∀ b, b < N → a ≠ b → (T a).2.1 ≠ (T b).2.1) (j : Nat) (hj : j < N) (hw : Cond.fieldLink own idx C (T j).2.1 (T j).2.2.1 ∈ TB) (hT : (T j).1 = C) (hfin : (T j).2.2.2 = false) (hd : decode cc pc = .ok (.putfield idx, 3)) {fs : List Value} (he : σ a = some (.inr (ci, fs))) {v : Value} (hn : narrow (ty0 j) v = v) (hfit : fits (ty0 j) v = true) (hl : j < fs.length)
    (kk : kK p l e R s m args below meth c D A nL Q (kUp σ a (.inr (ci, fs.set j v))) k n (pc + 3) L S) : kK p l e R s m args below meth c D A nL Q σ k n pc L (v :: .ref a :: S) := by
  intro H locs ls h1 h2 h3 h4
  obtain ⟨hexec, hb, -, hown, hts, hK, -, -, -, -⟩ := B
  have hap := va_apart (own := own) hts hin ty0 hty hnm hK hc
  obtain ⟨r, g1, cell, q1, q2, q3, q4⟩ := h1 a _ he
  have hr : r = (C, T, N) := Option.some.inj (g1.symm.trans hc)
  subst hr
  obtain ⟨hS, hfc, kC, hkC, hkind⟩ := hK.1 ci _ hc
  obtain ⟨cf, kf, fi, f, hi, hsl⟩ := hS j hj
  have hlay := hts _ (hin _ (u_in_lay hj))
  unfold u_lay at hlay
  rw [if_neg (by rw [hfin]; decide)] at hlay
  have hst := (u_facts hfc hkC (u_lays hts hin hj) hi).1
  have h6 := u_store hfc hkC hkind hlay hi (hty j hj) hn hfit
  refine W.putK hexec hb (f := f) ⟨hown, hts _ hw, ⟨_, _, _, (by rw [hT] at hi; exact hi)⟩, hst⟩ (by rw [q2]; exact h6) q1 q3 (by rw [hsl]; exact k2_hasslot (q4 j hj)) rfl rfl hd fun H' e1 e2 e3 => ?_
  rw [hsl] at e1 ⊢
  exact kk H' _ ls (h1.up ⟨_, hc, t_OB.to (V := updV (vp_V fs) j v) ⟨_, e1, q2, q3, t_set q4 hap hj v⟩ (fun i _ => vp_updV_set hl v i)⟩ (fun q hq _ => e3 q hq)) (kK_dom h2 (h2 a _ he)) (h3.put e2 e3 (h2 a _ he)) h4
theorem k_putF (B : kB p l s m args meth c D A nL cc own) {C : String} {T : u_T} {N ci idx a : Nat} (hin : ∀ w ∈ u_ws C T N, w ∈ TB) (hc : vwCl[ci]? = some (C, T, N)) (ty0 : Nat → FieldType) (hty : ∀ k, k < N → parseFieldDescriptor (T k).2.2.1 = some (ty0 k)) (hnm : ∀ a, a < N → ∀ b, b < N → a ≠ b → (T a).2.1 ≠ (T b).2.1) (j : Nat) (hj : j < N) (hw : Cond.fieldLink own idx C (T j).2.1 (T j).2.2.1 ∈ TB) (hT : (T j).1 = C) (hfin : (T j).2.2.2 = true) (hown2 : C = own) (hin2 : meth.name = "<init>") (hd : decode cc pc = .ok (.putfield idx, 3)) {fs : List Value} (he : σ a = some (.inr (ci, fs))) {v : Value} (hn : narrow (ty0 j) v = v) (hfit : fits (ty0 j) v = true) (hl : j < fs.length)
    (kk : kK p l e R s m args below meth c D A nL Q (kUp σ a (.inr (ci, fs.set j v))) k n (pc + 3) L S) : kK p l e R s m args below meth c D A nL Q σ k n pc L (v :: .ref a :: S) := by
  intro H locs ls h1 h2 h3 h4
  obtain ⟨hexec, hb, -, hown, hts, hK, -, -, -, -⟩ := B
  have hap := va_apart (own := own) hts hin ty0 hty hnm hK hc
  obtain ⟨r, g1, cell, q1, q2, q3, q4⟩ := h1 a _ he
  have hr : r = (C, T, N) := Option.some.inj (g1.symm.trans hc)
  subst hr
  obtain ⟨hS, hfc, kC, hkC, hkind⟩ := hK.1 ci _ hc
  obtain ⟨cf, kf, fi, f, hi, hsl⟩ := hS j hj
  have hlay := hts _ (hin _ (u_in_lay hj))
  unfold u_lay at hlay
  rw [if_pos hfin] at hlay
  have hst := (u_facts hfc hkC (u_lays hts hin hj) hi).1
  have hcf : m.cls = cf := by
    obtain ⟨_, _, c', _, _, _, -, -, hf', -, -, -, hown3, -⟩ := Cond.laysFinal_spec hlay
    have e1 : c' = cf := by have := hi.symm.trans hf'; simp at this; exact this.1.symm
    rw [hT, hown2] at hown3
    rw [← e1]; exact Option.some.inj (hown.symm.trans hown3)
  have h6 := u_fits hfc hkC hkind (Or.inr hlay) hi (hty j hj) hn hfit
  refine W.putFinK hexec hb hown (hts _ hw) (by rw [hT] at hi; exact hi) hst hcf hin2 (by rw [q2]; exact h6) q1 q3 (by rw [hsl]; exact k2_hasslot (q4 j hj)) rfl rfl hd fun H' e1 e2 e3 => ?_
  rw [hsl] at e1 ⊢
  exact kk H' _ ls (h1.up ⟨_, hc, t_OB.to (V := updV (vp_V fs) j v) ⟨_, e1, q2, q3, t_set q4 hap hj v⟩ (fun i _ => vp_updV_set hl v i)⟩ (fun q hq _ => e3 q hq)) (kK_dom h2 (h2 a _ he)) (h3.put e2 e3 (h2 a _ he)) h4
theorem va_S.grow {A : Nat → Prop} {H0 H H1 : Heap} {locs : List Loc} (h : va_S A H0 H locs) (z : H1.size = H.size + 1) (o : ∀ q : Nat, q < H.size → H1[q]? = H[q]?) : va_S A H0 H1 locs := ⟨Nat.le_trans h.1 (by omega), fun x h1 h2 => (o x (Nat.lt_of_lt_of_le h1 h.1)).trans (h.2.1 x h1 h2), h.2.2⟩
theorem k_new (B : kB p l s m args meth c D A nL cc own) {C : String} {T : u_T} {N ci idx : Nat} (hin : ∀ w ∈ u_ws C T N, w ∈ TB) (hc : vwCl[ci]? = some (C, T, N)) (ty0 : Nat → FieldType) (hty : ∀ k, k < N → parseFieldDescriptor (T k).2.2.1 = some (ty0 k)) (hw : Cond.classLink own idx C ∈ TB) (hw2 : Cond.instantiable C N ∈ TB) (hw3 : Cond.initialized C ∈ TB) (hd : decode cc pc = .ok (.new idx, 3)) {fs : List Value} (hfs : ∀ j, j < N → defaultValue (ty0 j) = vp_V fs j) (hk : k + 1 ≤ R.cells) (hn : n + N ≤ R.slots)
    (kk : ∀ q : Nat, σ q = none → kK p l e R s m args below meth c D A nL Q (kUp σ q (.inr (ci, fs))) (k + 1) (n + N) (pc + 3) L (.ref q :: S)) : kK p l e R s m args below meth c D A nL Q σ k n pc L S := by
  intro H locs ls h1 h2 h3 h4
  obtain ⟨hexec, hb, -, hown, hts, hK, hA, -, -, -⟩ := B
  have hKn := hK.1 ci _ hc
  refine W.newcK hexec hb hown (hts _ hw) (hts _ hw2) (hts _ hw3) rfl hd hk hn hKn.2.1 rfl fun H1 kC hkC e1 z1 o1 => ?_
  exact kk H.size (h1.fresh (Nat.le_refl _)) H1 locs ls (h1.up ⟨_, hc, (u_born ty0 hts hin hKn hkC e1 hty).to hfs⟩ (fun q _ hq => o1 q hq)) (kK_dom h2 (hA _ h3.1)) (h3.grow z1 o1) h4
theorem k_newa (B : kB p l s m args meth c D A nL cc own) {atype : ArrayType} {ty : FieldType} (ti : Nat) {cA : ClassId} (ht : (kTys D)[ti]? = some (cA, ty)) (hty : newarray.typeOf atype = ty) (hnr : ∀ C, ty ≠ .object C) (hw : Cond.arrayClass (newarray.typeOf atype) ∈ TB) (hd : decode cc pc = .ok (.newarray atype, 2)) {z : Int32} {N : Nat} {a0 : vp_A} (ha : ∀ cA : ClassId, vp_cell cA a0 = arrV cA N (fun _ => defaultValue ty)) (h0 : ¬ z < 0) (hN : z.toNatClampNeg = N) (hby : N * componentBytes ty ≤ 536870912) (hk : k + 1 ≤ R.cells) (hn : n + N ≤ R.slots)
    (kk : ∀ q : Nat, σ q = none → kK p l e R s m args below meth c D A nL Q (kUp σ q (.inl (cA, a0))) (k + 1) (n + N) (pc + 2) L (.ref q :: S)) : kK p l e R s m args below meth c D A nL Q σ k n pc L (.int z :: S) := by
  intro H locs ls h1 h2 h3 h4
  obtain ⟨hexec, hb, -, hown, hts, hK, hA, -, -, -⟩ := B
  subst hty
  refine va_newaK hexec hb (hts _ hw) rfl hd rfl h0 hN hby hk hn rfl fun H1 cA2 e1 z1 o1 hAr hNm => ?_
  have hRA := (hK.2 ti _ ht).2
  have hcA : cA2 = cA := by
    have h9 : s.vm.findClass ("[" ++ (newarray.typeOf atype).toString) = some cA := by
      unfold va_RA at hRA
      split at hRA
      · rename_i C hC
        exact absurd hC (hnr C)
      · exact hRA
    exact Option.some.inj (hNm.symm.trans h9)
  subst hcA
  refine kk H.size (h1.fresh (Nat.le_refl _)) H1 locs ls (h1.up (show H1[H.size]? = some (vp_cell _ _) by rw [ha]; exact e1) (fun q _ hq => o1 q hq)) (kK_dom h2 (hA _ h3.1)) (h3.grow z1 o1) h4
theorem k_newq (B : kB p l s m args meth c D A nL cc own) {C : String} {idx : Nat} (ti : Nat) {cA : ClassId} (ht : (kTys D)[ti]? = some (cA, .object C)) (hw : Cond.classLink own idx C ∈ TB) (hov : Cond.arrayOver (.object C) ∈ TN) (hd : decode cc pc = .ok (.anewarray idx, 3)) {z : Int32} {N : Nat} (h0 : ¬ z < 0) (hN : z.toNatClampNeg = N) (hby : N * 4 ≤ 536870912) (hk : k + 1 ≤ R.cells) (hn : n + N ≤ R.slots)
    (kk : ∀ q : Nat, σ q = none → kK p l e R s m args below meth c D A nL Q (kUp σ q (.inl (cA, N, .inr (.inr (.inr (.inr (fun _ => none))))))) (k + 1) (n + N) (pc + 3) L (.ref q :: S)) : kK p l e R s m args below meth c D A nL Q σ k n pc L (.int z :: S) := by
  intro H locs ls h1 h2 h3 h4
  have hov2 : (Cond.arrayOver (.object C)).before args s = true := tn_any (List.mem_filter.mp hov).2 (u := s) (A := #[]) rfl (B.2.2.2.2.2.2.2.1.2.2.2.2.2.1 _ hov)
  obtain ⟨hexec, hb, -, hown, hts, hK, hA, -, -, -⟩ := B
  subst hN
  refine W.anew hexec hb hown (hts _ hw) hov2 rfl hd rfl h0 hby hk hn fun cA2 kA comp f1 f2 f3 f4 => ?_
  obtain ⟨kA9, comp9, g1, g2, g3, g4⟩ := (hK.2 ti _ ht).2
  have hcA : cA2 = cA := Option.some.inj (f1.symm.trans g4)
  subst hcA
  generalize hH1 : H.push ({ cls := cA2, slots := Array.replicate z.toNatClampNeg .null, vm := .none } : Cell) = H1
  have z1 : H1.size = H.size + 1 := by rw [← hH1, Array.size_push]
  have e1 : H1[H.size]? = some (arrV cA2 z.toNatClampNeg (fun _ => .null)) := by rw [← hH1, Array.getElem?_push_size, ← arrV_new]
  have o1 : ∀ q : Nat, q < H.size → H1[q]? = H[q]? := fun q hq => by rw [← hH1, Array.getElem?_push, if_neg (Nat.ne_of_lt hq)]
  exact kk H.size (h1.fresh (Nat.le_refl _)) H1 locs ls (h1.up (show H1[H.size]? = some (vp_cell _ _) by rw [vp_cell_q]; exact e1) (fun q _ hq => o1 q hq)) (kK_dom h2 (hA _ h3.1)) (h3.grow z1 o1) h4
theorem k_iald (B : kB p l s m args meth c D A nL cc own) {a N : Nat} {f : Nat → Int32} {i : Int32} (hd : decode cc pc = .ok (.iaload, 1)) (he : σ a = some (.inl (D.1 11, N, .inl f))) (hi : vp_in i N) (kk : kK p l e R s m args below meth c D A nL Q σ k n (pc + 1) L (.int (f i.toNatClampNeg) :: S)) : kK p l e R s m args below meth c D A nL Q σ k n pc L (.int i :: .ref a :: S) := fun H locs ls h1 h2 h3 h4 =>
  va_iald B.1 B.2.1 B.2.2.2.2.2.1 (h1.p he) 0 0 rfl rfl hi hd (kk H locs ls h1 h2 h3 h4)
theorem k_aald (B : kB p l s m args meth c D A nL cc own) (ti : Nat) {cA : ClassId} {C : String} (ht : (kTys D)[ti]? = some (cA, .object C)) {a N : Nat} {f : Nat → Option Nat} {i : Int32} (hd : decode cc pc = .ok (.aaload, 1)) (he : σ a = some (.inl (cA, N, .inr (.inr (.inr (.inr f)))))) (hi : vp_in i N) (kk : kK p l e R s m args below meth c D A nL Q σ k n (pc + 1) L (va_rf (f i.toNatClampNeg) :: S)) : kK p l e R s m args below meth c D A nL Q σ k n pc L (.int i :: .ref a :: S) := fun H locs ls h1 h2 h3 h4 =>
  va_aldq B.1 B.2.1 B.2.2.2.2.2.1 (h1.p he) 0 ti rfl ht hi hd (kk H locs ls h1 h2 h3 h4)
theorem k_iast (B : kB p l s m args meth c D A nL cc own) {a N : Nat} {f : Nat → Int32} {i x : Int32} (hd : decode cc pc = .ok (.iastore, 1)) (he : σ a = some (.inl (D.1 11, N, .inl f))) (hi : vp_in i N) (kk : kK p l e R s m args below meth c D A nL Q (kUp σ a (.inl (D.1 11, N, .inl (upd f i.toNatClampNeg x)))) k n (pc + 1) L S) : kK p l e R s m args below meth c D A nL Q σ k n pc L (.int x :: .int i :: .ref a :: S) := by
  intro H locs ls h1 h2 h3 h4
  refine W.iast B.1 B.2.1 (h1 a _ he) ((B.2.2.2.2.2.1.2 0 _ rfl).1 N (fun j => .int (f j))) (fun q => by cases q) (by show ¬ (i < 0 ∨ (arrV _ _ _).slots.size ≤ _); rw [arrV_size]; exact hi) rfl rfl hd fun H1 e1 z oq => ?_
  refine kk H1 _ ls (h1.up ?_ (fun q hq _ => oq q hq)) (kK_dom h2 (h2 a _ he)) (h3.put z oq (h2 a _ he)) h4
  show H1[a]? = some (vp_cell _ _)
  rw [e1]
  rw [vp_cell_i, vp_cell_i, arrV_store]
  congr 2
  funext q
  by_cases hq : q = i.toNatClampNeg
  · subst hq
    simp [updV, upd]
  · simp [updV, upd, hq]
theorem k_aast (B : kB p l s m args meth c D A nL cc own) (ti : Nat) {cA : ClassId} {C : String} (ht : (kTys D)[ti]? = some (cA, .object C)) {a N ci v : Nat} {vs : List Value} {T : u_T} {NT : Nat} (hc : vwCl[ci]? = some (C, T, NT)) {f : Nat → Option Nat} {i : Int32} (hd : decode cc pc = .ok (.aastore, 1)) (he : σ a = some (.inl (cA, N, .inr (.inr (.inr (.inr f)))))) (hv : σ v = some (.inr (ci, vs))) (hi : vp_in i N) (kk : kK p l e R s m args below meth c D A nL Q (kUp σ a (.inl (cA, N, .inr (.inr (.inr (.inr (va_up f i.toNatClampNeg (some v)))))))) k n (pc + 1) L S) : kK p l e R s m args below meth c D A nL Q σ k n pc L (.ref v :: .int i :: .ref a :: S) := by
  intro H locs ls h1 h2 h3 h4
  have hK := B.2.2.2.2.2.1
  have hlt : i.toNatClampNeg < N := Nat.not_le.mp fun q => hi (Or.inr q)
  have h0 : ¬ i < 0 := fun q => hi (Or.inl q)
  obtain ⟨r', hr', cellV, g1, g2, g3, -⟩ := h1 v _ hv
  have hcls := (hK.1 ci _ hc).2
  obtain ⟨kA, comp, k1, k2, k3, -⟩ := (hK.2 ti _ ht).2
  have hcomp : comp = D.1 ci := Option.some.inj (k3.symm.trans hcls.1)
  subst hcomp
  obtain ⟨kC, hkC, -⟩ := hcls.2
  refine W.aast B.1 B.2.1 (h1 a _ he) (fun q h => by cases h) (fun h => by cases h) k1 k2 rfl hkC ⟨h0, by show _ < (arrV _ _ _).slots.size; rw [arrV_size]; exact hlt⟩ g1 (fun q h => by rw [g3] at h; cases h) (by rw [g2]; exact hkC) (by rw [g2]; exact va_assign hcls) rfl rfl hd fun H1 e1 z oq => ?_
  refine kk H1 _ ls (h1.up ?_ (fun q hq _ => oq q hq)) (kK_dom h2 (h2 a _ he)) (h3.put z oq (h2 a _ he)) h4
  show H1[a]? = some (vp_cell _ _)
  rw [e1]
  rw [vp_cell_q, vp_cell_q, arrV_store]
  congr 2
  funext q
  by_cases hq : q = i.toNatClampNeg
  · subst hq
    simp [updV, va_up, va_rf]
  · simp [updV, va_up, hq]
end KH
