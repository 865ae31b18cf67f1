/-! ===== the law's four rows of numbers ===== -/
def kEx (σ s2 : kS) : Prop := ∀ (a : Nat) (e : va_E), σ a = some e → s2 a = some e
theorem kEx.rf {σ : kS} : kEx σ σ := fun _ _ h => h
section AG
variable {p : Program} {l : Launch} {e : Env} {R : Room} {s : State} {m : MethodId} {args : Array Value} {below : List Frame} {meth : Method} {c : Code} {D : va_G} {A : Nat → Prop} {nL : Nat} {Q : State → Prop} {σ : kS} {k n pc : Nat} {L : List (Option Value)} {S : List Value} {cc : ByteArray} {own : String}
theorem k_aupG (B : kB p l s m args meth c D A nL cc own) {a N : Nat} {f : Nat → Int32} (j : Nat) {i x : Int32} (hd : decode cc pc = .ok (.iastore, 1)) (he : σ a = some (iA D N f)) (hi : i = nI j) (hj : j < N) (hN : N < 2 ^ 31) (kk : ∀ s2 : kS, s2 a = some (iA D N (upN f j x)) → kOut (fun b => b = a) σ s2 → kK p l e R s m args below meth c D A nL Q s2 k n (pc + 1) L S) : kK p l e R s m args below meth c D A nL Q σ k n pc L (.int x :: .int i :: .ref a :: S) := k_aup B j hd he hi hj hN (kk _ kUp_eq (kOut.up rfl))
theorem k_anewG (B : kB p l s m args meth c D A nL cc own) (N : Nat) {z : Int32} (hd : decode cc pc = .ok (.newarray .int, 2)) (hz : z = nI N) (hN : N < 100) (hw : Cond.arrayClass FieldType.int ∈ TB) (hk : k + 1 ≤ R.cells) (hn : n + N ≤ R.slots) (kk : ∀ (q : Nat) (s2 : kS), σ q = none → s2 q = some (iA D N (fun _ => 0)) → kEx σ s2 → kK p l e R s m args below meth c D A nL Q s2 (k + 1) (n + N) (pc + 2) L (.ref q :: S)) : kK p l e R s m args below meth c D A nL Q σ k n pc L (.int z :: S) := k_anew B N hd hz hN hw hk hn (fun q hq => kk q _ hq kUp_eq (fun b x hb => kUp_o (kNeN hb hq) hb))
end AG
section AR
variable {D : va_G} {σ s2 : kS} {aO ac ap aw ah a N : Nat} {z : kSt} {J : List kJe} {F : kF} {fc fp fw fh f : Nat → Int32}
theorem cl9.outI (h : cl9 D aO z J F σ) (ha : σ a = some (iA D N f)) (ho : kOut (fun b => b = a) σ s2) : cl9 D aO z J F s2 := h.keepF (fun b e hb hk => ho b e hb (fun q => by
  rw [q, ha] at hb
  cases hb
  exact nk11 hk))
theorem cl9.ext (h : cl9 D aO z J F σ) (ho : kEx σ s2) : cl9 D aO z J F s2 := h.keepF (fun b e hb _ => ho b e hb)
def ar4 (D : va_G) (ac ap aw ah : Nat) (fc fp fw fh : Nat → Int32) (σ : kS) : Prop := σ ac = some (iA D 8 fc) ∧ σ ap = some (iA D 10 fp) ∧ σ aw = some (iA D 18 fw) ∧ σ ah = some (iA D 40 fh)
theorem ar4.keep (h : ar4 D ac ap aw ah fc fp fw fh σ) (hf : kFr k9F σ s2) : ar4 D ac ap aw ah fc fp fw fh s2 := ⟨iA_keep hf h.1, iA_keep hf h.2.1, iA_keep hf h.2.2.1, iA_keep hf h.2.2.2⟩
theorem ar4.ext (h : ar4 D ac ap aw ah fc fp fw fh σ) (ho : kEx σ s2) : ar4 D ac ap aw ah fc fp fw fh s2 := ⟨ho _ _ h.1, ho _ _ h.2.1, ho _ _ h.2.2.1, ho _ _ h.2.2.2⟩
/-- another row of numbers is written -/
theorem ar4.oth (h : ar4 D ac ap aw ah fc fp fw fh σ) (h1 : ac ≠ a) (h2 : ap ≠ a) (h3 : aw ≠ a) (h4 : ah ≠ a) (ho : kOut (fun b => b = a) σ s2) : ar4 D ac ap aw ah fc fp fw fh s2 := ⟨ho _ _ h.1 h1, ho _ _ h.2.1 h2, ho _ _ h.2.2.1 h3, ho _ _ h.2.2.2 h4⟩
theorem ar4.c (h : ar4 D ac ap aw ah fc fp fw fh σ) (ho : kOut (fun b => b = ac) σ s2) (hx : s2 ac = some (iA D 8 f)) : ar4 D ac ap aw ah f fp fw fh s2 := ⟨hx, ho _ _ h.2.1 (iA_ne h.2.1 h.1 (by decide)), ho _ _ h.2.2.1 (iA_ne h.2.2.1 h.1 (by decide)), ho _ _ h.2.2.2 (iA_ne h.2.2.2 h.1 (by decide))⟩
theorem ar4.p (h : ar4 D ac ap aw ah fc fp fw fh σ) (ho : kOut (fun b => b = ap) σ s2) (hx : s2 ap = some (iA D 10 f)) : ar4 D ac ap aw ah fc f fw fh s2 := ⟨ho _ _ h.1 (iA_ne h.1 h.2.1 (by decide)), hx, ho _ _ h.2.2.1 (iA_ne h.2.2.1 h.2.1 (by decide)), ho _ _ h.2.2.2 (iA_ne h.2.2.2 h.2.1 (by decide))⟩
theorem ar4.w (h : ar4 D ac ap aw ah fc fp fw fh σ) (ho : kOut (fun b => b = aw) σ s2) (hx : s2 aw = some (iA D 18 f)) : ar4 D ac ap aw ah fc fp f fh s2 := ⟨ho _ _ h.1 (iA_ne h.1 h.2.2.1 (by decide)), ho _ _ h.2.1 (iA_ne h.2.1 h.2.2.1 (by decide)), hx, ho _ _ h.2.2.2 (iA_ne h.2.2.2 h.2.2.1 (by decide))⟩
theorem ar4.h (h : ar4 D ac ap aw ah fc fp fw fh σ) (ho : kOut (fun b => b = ah) σ s2) (hx : s2 ah = some (iA D 40 f)) : ar4 D ac ap aw ah fc fp fw f s2 := ⟨ho _ _ h.1 (iA_ne h.1 h.2.2.2 (by decide)), ho _ _ h.2.1 (iA_ne h.2.1 h.2.2.2 (by decide)), ho _ _ h.2.2.1 (iA_ne h.2.2.1 h.2.2.2 (by decide)), hx⟩
/-- the object stands for z, and the law's numbers say so -/
def lW (D : va_G) (aO ac ap aw ah : Nat) (z : kSt) (J : List kJe) (F : kF) (σ : kS) : Prop := cl9 D aO z J F σ ∧ ∃ fc fp fw fh, ar4 D ac ap aw ah fc fp fw fh σ ∧ cA z fc ∧ pA z fp ∧ wA z fw ∧ hA z fh
end AR
/-! what a year brings, as the law counts it -/
def dueF (z : kSt) (r : Nat) : Nat → Nat → Nat
  | 0 => fun _ => 0
  | n + 1 => upN (upN (dueF z r n) n (dueF z r n n + (unS (sR z n) - ldW (sK z) (sR z) n + r))) (ldD (sK z) n) (upN (dueF z r n) n (dueF z r n n + (unS (sR z n) - ldW (sK z) (sR z) n + r)) (ldD (sK z) n) + ldW (sK z) (sR z) n)
theorem dueF_s (z : kSt) (r n : Nat) : dueF z r (n + 1) = upN (upN (dueF z r n) n (dueF z r n n + (unS (sR z n) - ldW (sK z) (sR z) n + r))) (ldD (sK z) n) (upN (dueF z r n) n (dueF z r n n + (unS (sR z n) - ldW (sK z) (sR z) n + r)) (ldD (sK z) n) + ldW (sK z) (sR z) n) := rfl
theorem due_val {z : kSt} {r : Nat} (hs : sOk z) {n : Nat} (hn : n ≤ 10) : ∀ i, i < 11 → dueF z r n i = if i < 10 then (if i < n then unS (ldN (sK z) (sR z) n i) + r else 0) else unS (ldN (sK z) (sR z) n 10) := by
  have hK := hs.low
  induction n with
  | zero =>
    intro i hi
    show 0 = _
    by_cases q : i < 10
    · rw [if_pos q, if_neg (by omega)]
    · rw [if_neg q]
      show 0 = unS (upN (sR z) 10 [] 10)
      rw [upN_eq]; rfl
  | succ n ih =>
    intro i hi
    have ih := ih (by omega)
    have hg : ldW (sK z) (sR z) n ≤ unS (sR z n) := Nat.div_le_self _ _
    have hown : ldN (sK z) (sR z) n n = sR z n := ldN_own hK (Nat.le_refl _) (by omega)
    have hgo : ldW (sK z) (ldN (sK z) (sR z) n) n = ldW (sK z) (sR z) n := by unfold ldW; rw [hown]
    have hst : unS (tkS (sR z n) (ldW (sK z) (sR z) n)).1 = ldW (sK z) (sR z) n := tkS_all hg
    have hst2 := tkS_un (P := sR z n) (w := ldW (sK z) (sR z) n)
    have hd : ldD (sK z) n < n ∨ ldD (sK z) n = 10 := by
      unfold ldD
      split
      · exact Or.inr rfl
      · rename_i d hd
        exact Or.inl (hK n d (by omega) hd)
    have hN : ∀ j, ldN (sK z) (sR z) (n + 1) j = upN (upN (ldN (sK z) (sR z) n) n (tkS (sR z n) (ldW (sK z) (sR z) n)).2) (ldD (sK z) n) (ldN (sK z) (sR z) n (ldD (sK z) n) ++ (tkS (sR z n) (ldW (sK z) (sR z) n)).1) j := by
      intro j
      show ldS (sK z) (ldN (sK z) (sR z) n) n j = _
      rw [ldS, hgo, hown]
    rw [dueF_s]
    by_cases q : i = ldD (sK z) n
    · rw [q, upN_eq, upN_ne (by omega), ih _ (by omega)]
      by_cases q10 : ldD (sK z) n < 10
      · rw [if_pos q10, if_pos (by omega), if_pos q10, if_pos (by omega), hN, upN_eq, unS_app, hst]
        omega
      · have e10 : ldD (sK z) n = 10 := by omega
        rw [if_neg q10, if_neg q10, hN, e10, upN_eq, unS_app, hst]
    · rw [upN_ne q]
      by_cases q2 : i = n
      · rw [q2, upN_eq, ih n (by omega), if_pos (by omega), if_neg (by omega), if_pos (by omega), if_pos (by omega), hN, upN_ne (by omega), upN_eq]
        omega
      · rw [upN_ne q2, ih i hi]
        by_cases q10 : i < 10
        · rw [if_pos q10, if_pos q10]
          by_cases q3 : i < n
          · rw [if_pos q3, if_pos (by omega), hN, upN_ne q, upN_ne q2]
          · rw [if_neg q3, if_neg (by omega)]
        · have e10 : i = 10 := by omega
          rw [if_neg q10, if_neg q10, hN, upN_ne (by omega), upN_ne (by omega)]
theorem due_un {z : kSt} {r i : Nat} (hs : sOk z) (hi : i < 10) : unS (sR (oneS z r) i) = dueF z r 10 i := by
  rw [oneS_un hi, due_val hs (Nat.le_refl _) i (by omega), if_pos hi, if_pos hi]
theorem due_10 {z : kSt} {r : Nat} (hs : sOk z) : unS (ldN (sK z) (sR z) 10 10) = dueF z r 10 10 := by
  rw [due_val hs (Nat.le_refl _) 10 (by omega), if_neg (by decide)]
theorem un_nil {P : List kP} {y : Nat} (h : ∀ q ∈ P, pOk y q) (h0 : unS P = 0) : P = [] := by
  cases P with
  | nil => rfl
  | cons p t =>
    have := (h p List.mem_cons_self).2.2.2
    simp only [unS, kUn] at h0
    omega
