/-! ===== the reference's cells: arrays by the number of their field ===== -/
/-- year, knots, wells, drought's cell, limits, share, lots, forbidden; fell, came, bottled, cost, got; thrown -/
abbrev kQc : Type := (Int32 × Int32 × Int32 × Int32 × Int32 × Int32 × Int32 × Int32 × Int32) × (Int64 × Int64 × Int64 × Int64 × Int64) × Int32
def m10E (ma : Nat → Nat) (q : kQc) : va_E := .inr (10, [.int q.1.1, .ref (ma 1), .ref (ma 2), .ref (ma 3), .ref (ma 4), .ref (ma 5), .ref (ma 6), .ref (ma 7), .ref (ma 8), .ref (ma 9), .int q.1.2.1, .ref (ma 11), .ref (ma 12), .ref (ma 13), .ref (ma 14), .ref (ma 15), .ref (ma 16), .ref (ma 17), .int q.1.2.2.1, .ref (ma 19), .ref (ma 20), .ref (ma 21), .int q.1.2.2.2.1, .int q.1.2.2.2.2.1, .int q.1.2.2.2.2.2.1, .int q.1.2.2.2.2.2.2.1, .int q.1.2.2.2.2.2.2.2.1, .ref (ma 27), .ref (ma 28), .ref (ma 29), .ref (ma 30), .ref (ma 31), .ref (ma 32), .int q.1.2.2.2.2.2.2.2.2, .long q.2.1.1, .long q.2.1.2.1, .long q.2.1.2.2.1, .long q.2.1.2.2.2.1, .long q.2.1.2.2.2.2, .int q.2.2])
def mAr (k : Nat) : Bool := (decide (1 ≤ k) && decide (k ≤ 9)) || (decide (11 ≤ k) && decide (k ≤ 17)) || (decide (19 ≤ k) && decide (k ≤ 21)) || (decide (27 ≤ k) && decide (k ≤ 32))
def mLen (k : Nat) : Nat := if k ≤ 6 then 10 else if k ≤ 9 then 51 else if k ≤ 16 then 6200 else if k = 17 then 10 else if k ≤ 21 then 6 else 40
def mCl (D : va_G) (k : Nat) : ClassId := if 31 ≤ k then D.1 12 else D.1 11
def mCe (D : va_G) (mv : Nat → Nat → Int32) (k : Nat) : va_E := .inl (mCl D k, mLen k, .inl (mv k))
/-- the object's cells -/
def mI (D : va_G) (aM : Nat) (ma : Nat → Nat) (mv : Nat → Nat → Int32) (q : kQc) (σ : kS) : Prop := σ aM = some (m10E ma q) ∧ (∀ k, mAr k = true → σ (ma k) = some (mCe D mv k)) ∧ ∀ j k, mAr j = true → mAr k = true → ma j = ma k → j = k
section RefI
variable {D : va_G} {σ s2 : kS} {aM : Nat} {ma : Nat → Nat} {mv : Nat → Nat → Int32} {q : kQc}
theorem mI.o (h : mI D aM ma mv q σ) : σ aM = some (m10E ma q) := h.1
theorem mI.i (h : mI D aM ma mv q σ) {k : Nat} (hk : mAr k = true) (h31 : ¬ 31 ≤ k) : σ (ma k) = some (.inl (D.1 11, mLen k, .inl (mv k))) := by
  have := h.2.1 k hk
  rw [mCe, mCl, if_neg h31] at this
  exact this
theorem mI.z (h : mI D aM ma mv q σ) {k : Nat} (hk : mAr k = true) (h31 : 31 ≤ k) : σ (ma k) = some (.inl (D.1 12, mLen k, .inl (mv k))) := by
  have := h.2.1 k hk
  rw [mCe, mCl, if_pos h31] at this
  exact this
theorem mI.ne (h : mI D aM ma mv q σ) {k : Nat} (hk : mAr k = true) : aM ≠ ma k := kNeL h.1 (h.2.1 k hk)
/-- the object's own cell changed -/
theorem mI.up (h : mI D aM ma mv q σ) (q2 : kQc) : mI D aM ma mv q2 (kUp σ aM (m10E ma q2)) := ⟨kUp_eq, fun k hk => kUp_o (Ne.symm (h.ne hk)) (h.2.1 k hk), h.2.2⟩
/-- one array changed -/
theorem mI.st (h : mI D aM ma mv q σ) {k : Nat} (hk : mAr k = true) (f : Nat → Int32) : mI D aM ma (upN mv k f) q (kUp σ (ma k) (.inl (mCl D k, mLen k, .inl f))) := ⟨kUp_o (h.ne hk) h.1, fun j hj => by
  by_cases e : j = k
  · subst e; rw [mCe, upN_eq]; exact kUp_eq
  · rw [mCe, upN_ne e]; exact kUp_o (fun x => e (h.2.2 j k hj hk x)) (h.2.1 j hj), h.2.2⟩
def mOwn (aM : Nat) (ma : Nat → Nat) (a : Nat) : Prop := a = aM ∨ ∃ k, mAr k = true ∧ a = ma k
theorem mOwn.o {ma : Nat → Nat} : mOwn aM ma aM := Or.inl rfl
theorem mOwn.a {ma : Nat → Nat} {k : Nat} (hk : mAr k = true) : mOwn aM ma (ma k) := Or.inr ⟨k, hk, rfl⟩
/-- what keeps the object's addresses keeps the object -/
theorem mI.keep (h : mI D aM ma mv q σ) (hf : ∀ (a : Nat) (e : va_E), σ a = some e → mOwn aM ma a → s2 a = some e) : mI D aM ma mv q s2 := ⟨hf _ _ h.1 mOwn.o, fun k hk => hf _ _ (h.2.1 k hk) (mOwn.a hk), h.2.2⟩
end RefI
