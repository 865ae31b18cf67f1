theorem bv_bit (x : BitVec 32) (j : Nat) (hj : j < 32) : (x.sshiftRight j &&& 1#32 = 1#32) ↔ ¬ (x &&& (1#32 <<< j) = 0#32) := by
  have h2 : (1#32 <<< j) = BitVec.twoPow 32 j := (BitVec.twoPow_eq 32 j).symm
  rw [h2, BitVec.and_twoPow]
  have h1 : x.sshiftRight j &&& 1#32 = if x.getLsbD j then 1#32 else 0#32 := by
    have e : (1#32 : BitVec 32) = BitVec.twoPow 32 0 := by decide
    rw [e, BitVec.and_twoPow, BitVec.getLsbD_sshiftRight]
    simp [hj]
  rw [h1]
  cases hx : x.getLsbD j with
  | false => simp
  | true =>
    simp only [if_true]
    refine ⟨fun _ h => ?_, fun _ => trivial⟩
    have h3 := congrArg (fun b : BitVec 32 => b.getLsbD j) h
    simp [BitVec.getLsbD_twoPow, hj] at h3
/-- at its turn a cell still holds what it held -/
theorem ldN_own {K : Nat → kCl} {P : Nat → List kP} (hK : ∀ i d, i < 10 → (K i).1 = some d → d < i) {n i : Nat} (hn : n ≤ i) (hi : i < 10) : ldN K P n i = P i := by
  induction n with
  | zero => show upN P 10 [] i = P i; exact upN_ne (by omega)
  | succ n ih =>
    have hd : ldD K n < n ∨ ldD K n = 10 := by
      unfold ldD
      split
      · exact Or.inr rfl
      · rename_i d hd
        exact Or.inl (hK n d (by omega) hd)
    show ldS K (ldN K P n) n i = P i
    rw [ldS, upN_ne (by omega), upN_ne (by omega)]
    exact ih (by omega)
theorem bit_t (x : Int32) {j : Nat} (hj : j < 8) : ((x >>> (nI j &&& 31)) &&& 1 = 1) ↔ ¬ (x &&& bitI (nI j) = 0) := by
  have h := bv_bit x.toBitVec j (by omega)
  have e1 : ((x >>> (nI j &&& 31)) &&& 1).toBitVec = x.toBitVec.sshiftRight j &&& 1#32 := by
    have : j = 0 ∨ j = 1 ∨ j = 2 ∨ j = 3 ∨ j = 4 ∨ j = 5 ∨ j = 6 ∨ j = 7 := by omega
    rcases this with q | q | q | q | q | q | q | q <;> subst q <;> rfl
  have e2 : (x &&& bitI (nI j)).toBitVec = x.toBitVec &&& (1#32 <<< j) := by
    have : j = 0 ∨ j = 1 ∨ j = 2 ∨ j = 3 ∨ j = 4 ∨ j = 5 ∨ j = 6 ∨ j = 7 := by omega
    rcases this with q | q | q | q | q | q | q | q <;> subst q <;> rfl
  rw [← Int32.toBitVec_inj, ← Int32.toBitVec_inj, e1, e2]
  exact h
