/-! ===== how many pieces there are ===== -/
def tnk (F : kF) : Nat := emS F.2.2.1 10
def cnt (F : kF) : Nat := F.2.2.2 + tnk F
theorem emS_su {P : Nat → List (Nat × Nat)} {n : Nat} : emS P n = suN (fun i => (P i).length) n := by
  induction n with
  | zero => rfl
  | succ n ih => simp only [emS, suN, ih]
theorem suN_up {f : Nat → Nat} {a x n : Nat} (ha : a < n) : suN (fun i => upN f a x i) n + f a = suN f n + x := by
  induction n with
  | zero => omega
  | succ n ih =>
    simp only [suN]
    by_cases q : a = n
    · subst q
      rw [upN_eq]
      have : suN (fun i => upN f a x i) a = suN f a := suN_congr (fun i hi => upN_ne (by omega))
      omega
    · rw [upN_ne (Ne.symm q)]
      have := ih (by omega)
      omega
theorem emS_up {P : Nat → List (Nat × Nat)} {a : Nat} {L : List (Nat × Nat)} (ha : a < 10) : emS (upN P a L) 10 + (P a).length = emS P 10 + L.length := by
  rw [emS_su, emS_su]
  have e : suN (fun i => (upN P a L i).length) 10 = suN (fun i => upN (fun i => (P i).length) a L.length i) 10 := suN_congr (fun i _ => by
    by_cases q : i = a
    · subst q; rw [upN_eq, upN_eq]
    · rw [upN_ne q, upN_ne q])
  rw [e]
  exact suN_up (f := fun i => (P i).length) ha
theorem tkQ_len {L : List (Nat × Nat)} {e : Nat} : (tkQ L e).1.length + (tkQ L e).2.length = L.length + (if cutQ L e = true then 1 else 0) := by
  induction L with
  | nil => rfl
  | cons q t ih =>
    rw [tkQ, cutQ]
    by_cases h : q.1 < e
    · rw [if_pos h, if_pos h]
      by_cases h2 : q.1 + q.2 ≤ e
      · rw [if_pos h2, if_pos h2]
        simp only [List.length_cons]
        omega
      · rw [if_neg h2, if_neg h2]
        simp only [List.length_cons, List.length_nil, if_true]
        omega
    · rw [if_neg h, if_neg h]
      simp
theorem tkQ_len2 {L : List (Nat × Nat)} {e n : Nat} : spNq L e n + (tkQ L e).2.length = n + L.length + mcNq L e n ∧ (tkQ L e).2.length ≤ L.length ∧ (mcNq L e n = 0 ∨ spNq L e n = 1) := by
  induction L generalizing n with
  | nil => exact ⟨rfl, Nat.le_refl _, Or.inl rfl⟩
  | cons q t ih =>
    rw [tkQ, spNq, mcNq]
    by_cases h : q.1 < e
    · rw [if_pos h, if_pos h, if_pos h]
      by_cases h2 : q.1 + q.2 ≤ e
      · rw [if_pos h2, if_pos h2, if_pos h2]
        obtain ⟨i1, i2, i3⟩ := ih (n := n + 1)
        simp only [List.length_cons]
        exact ⟨by omega, by omega, i3⟩
      · rw [if_neg h2, if_neg h2, if_neg h2]
        simp only [List.length_cons]
        by_cases h3 : n = 0
        · rw [if_pos h3]
          exact ⟨by omega, Nat.le_refl _, Or.inr (by omega)⟩
        · rw [if_neg h3]
          exact ⟨by omega, Nat.le_refl _, Or.inl rfl⟩
    · rw [if_neg h, if_neg h, if_neg h]
      exact ⟨rfl, Nat.le_refl _, Or.inl rfl⟩
/-- a step's count -/
def cSp (F F2 : kF) (k : Nat) : Prop := cnt F2 = cnt F + k ∧ (k = 0 ∨ cnt F2 ≤ tnk F + 1) ∧ tnk F2 ≤ tnk F + 1
theorem cSp_ra {fo : Option Nat} {u : Nat} {F : kF} (hfo : ∀ f, fo = some f → f < 10) : cSp F (raF fo u F) (raC fo F) := by
  cases fo with
  | none =>
    have e : (raF none u F).2.2.1 = F.2.2.1 := by
      funext i
      show (if none = some i then F.2.2.1 i ++ [(F.1 i, u)] else F.2.2.1 i) = _
      rw [if_neg (fun x => by cases x)]
    have e1 : tnk (raF none u F) = tnk F := by unfold tnk; rw [e]
    have e2 : (raF none u F).2.2.2 = F.2.2.2 := rfl
    exact ⟨by unfold cnt; rw [e1, e2]; rfl, Or.inl rfl, by omega⟩
  | some f =>
    have hf := hfo f rfl
    have e : (raF (some f) u F).2.2.1 = upN F.2.2.1 f (F.2.2.1 f ++ [(F.1 f, u)]) := by
      funext i
      show (if some f = some i then F.2.2.1 i ++ [(F.1 i, u)] else F.2.2.1 i) = _
      by_cases q : i = f
      · subst q; rw [if_pos rfl, upN_eq]
      · rw [if_neg (fun x => q (Option.some.inj x).symm), upN_ne q]
    have h1 := emS_up (P := F.2.2.1) (L := F.2.2.1 f ++ [(F.1 f, u)]) hf
    rw [← e, List.length_append] at h1
    have e2 : (raF (some f) u F).2.2.2 = F.2.2.2 - 1 := rfl
    have e3 : raC (some f) F = if F.2.2.2 = 0 then 1 else 0 := rfl
    simp only [List.length_cons, List.length_nil] at h1
    unfold cSp cnt tnk
    rw [e2, e3]
    by_cases q : F.2.2.2 = 0
    · rw [if_pos q]; omega
    · rw [if_neg q]; omega
theorem cSp_mo {f d u : Nat} {F : kF} (hf : f < 10) (hd : d < 10 → d ≠ f) : cSp F (moF f (toO d) u F) (moC f (toO d) u F) := by
  by_cases hd10 : d < 10
  · have et : toO d = some d := if_pos hd10
    rw [et]
    have hdf := hd hd10
    have h1 := emS_up (P := F.2.2.1) (a := f) (L := (tkQ (F.2.2.1 f) (F.2.1 f + u)).2) hf
    have h2 := emS_up (P := upN F.2.2.1 f (tkQ (F.2.2.1 f) (F.2.1 f + u)).2) (a := d) (L := F.2.2.1 d ++ (tkQ (F.2.2.1 f) (F.2.1 f + u)).1.map (shQ (F.1 d) (F.2.1 f))) hd10
    rw [upN_ne hdf, List.length_append, List.length_map] at h2
    have h3 := tkQ_len (L := F.2.2.1 f) (e := F.2.1 f + u)
    have e1 : (moF f (some d) u F).2.2.1 = upN (upN F.2.2.1 f (tkQ (F.2.2.1 f) (F.2.1 f + u)).2) d (F.2.2.1 d ++ (tkQ (F.2.2.1 f) (F.2.1 f + u)).1.map (shQ (F.1 d) (F.2.1 f))) := rfl
    have e2 : (moF f (some d) u F).2.2.2 = F.2.2.2 - (if cutQ (F.2.2.1 f) (F.2.1 f + u) = true then 1 else 0) := rfl
    have e3 : moC f (some d) u F = if cutQ (F.2.2.1 f) (F.2.1 f + u) = true then (if F.2.2.2 = 0 then 1 else 0) else 0 := rfl
    unfold cSp cnt tnk
    rw [e1, e2, e3]
    split at h3
    · rename_i hc
      rw [if_pos hc, if_pos hc]
      by_cases q : F.2.2.2 = 0
      · rw [if_pos q]; omega
      · rw [if_neg q]; omega
    · rename_i hc
      rw [if_neg hc, if_neg hc]
      omega
  · have et : toO d = none := if_neg hd10
    rw [et]
    have h1 := emS_up (P := F.2.2.1) (a := f) (L := (tkQ (F.2.2.1 f) (F.2.1 f + u)).2) hf
    obtain ⟨i1, i2, i3⟩ := tkQ_len2 (L := F.2.2.1 f) (e := F.2.1 f + u) (n := F.2.2.2)
    have e1 : (moF f none u F).2.2.1 = upN F.2.2.1 f (tkQ (F.2.2.1 f) (F.2.1 f + u)).2 := rfl
    have e2 : (moF f none u F).2.2.2 = spNq (F.2.2.1 f) (F.2.1 f + u) F.2.2.2 := rfl
    have e3 : moC f none u F = mcNq (F.2.2.1 f) (F.2.1 f + u) F.2.2.2 := rfl
    unfold cSp cnt tnk
    rw [e1, e2, e3]
    omega
theorem fol_cnt {fc tg : Nat} {yI : Int32} {J : List kJe} {F : kF} {k : Nat} (hfc : fc < 10) (hK : folK fc yI tg J F) (ht : tnk F ≤ k) : cnt (folF fc yI tg J F) = cnt F + (fol fc yI tg J F).2 ∧ (cnt (folF fc yI tg J F) ≤ cnt F ∨ cnt (folF fc yI tg J F) ≤ k + J.length) := by
  induction J generalizing F k with
  | nil => exact ⟨rfl, Or.inl (Nat.le_refl _)⟩
  | cons e t ih =>
    match e, hK with
    | .inl (y, u), hK =>
      obtain ⟨s1, s2, s3⟩ := cSp_ra (fo := if nI y = yI then some fc else none) (u := u) (F := F) (fun f hf => by
        split at hf
        · cases hf; exact hfc
        · cases hf)
      have hK : folK fc yI tg t (raF (if nI y = yI then some fc else none) u F) := hK
      obtain ⟨i1, i2⟩ := ih (k := k + 1) hK (by omega)
      have e1 : folF fc yI tg (.inl (y, u) :: t) F = folF fc yI tg t (raF (if nI y = yI then some fc else none) u F) := rfl
      have e2 : (fol fc yI tg (.inl (y, u) :: t) F).2 = raC (if nI y = yI then some fc else none) F + (fol fc yI tg t (raF (if nI y = yI then some fc else none) u F)).2 := rfl
      rw [e1, e2, List.length_cons]
      exact ⟨by omega, by omega⟩
    | .inr (f, d, u), hK =>
      obtain ⟨b1, b2, b3, b4, b5, b6⟩ := hK
      obtain ⟨s1, s2, s3⟩ := cSp_mo (f := f) (d := d) (u := u) (F := F) b1 b2
      by_cases q : d = tg
      · rw [folF, fol, if_pos q, if_pos q, List.length_cons]
        exact ⟨s1, by omega⟩
      · rw [folF, fol, if_neg q, if_neg q, List.length_cons]
        obtain ⟨i1, i2⟩ := ih (k := k + 1) b6 (by omega)
        exact ⟨by simp only []; omega, by omega⟩
theorem cnt_em {F : kF} : cnt (emF F) = cnt F ∧ tnk (emF F) = 0 := ⟨rfl, rfl⟩
