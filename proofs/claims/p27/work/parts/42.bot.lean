theorem rwI.snocN {σ s2 : kS} {n : Nat} {ra : Nat → Nat} {R : Nat → kPs} (h : rwI n ra R σ) (hf : kKp rP σ s2) {r : Nat} {P2 : kPs} (hne : ∀ j, j < n → ra j ≠ r) (g1 : s2 r = some (rowE (nI (unS (kCon P2))) (hdA P2) (lsA P2))) (g2 : pCh s2 P2) (g3 : (adr P2).Nodup) (g4 : ∀ a ∈ adr P2, ∀ j, j < n → a ∉ adr (R j)) : rwI (n + 1) (upN ra n r) (upN R n P2) s2 := by
  obtain ⟨h1, h2, h3, h4, h5⟩ := h
  refine ⟨fun j hj => ?_, fun j hj => ?_, fun j hj => ?_, fun j1 j2 hj1 hj2 hij a ha hb => ?_, fun j1 j2 hj1 hj2 hij => ?_⟩
  · by_cases q : j = n
    · subst q; rw [upN_eq, upN_eq]; exact g1
    · rw [upN_ne q, upN_ne q]; exact hf _ _ (h1 j (by omega)) (Or.inr rfl)
  · by_cases q : j = n
    · subst q; rw [upN_eq]; exact g2
    · rw [upN_ne q]; exact pCh_kp (h2 j (by omega)) hf
  · by_cases q : j = n
    · subst q; rw [upN_eq]; exact g3
    · rw [upN_ne q]; exact h3 j (by omega)
  · by_cases q : j1 = n
    · subst q
      rw [upN_eq] at ha
      rw [upN_ne (Ne.symm hij)] at hb
      exact g4 a ha j2 (by omega) hb
    · rw [upN_ne q] at ha
      by_cases q2 : j2 = n
      · subst q2
        rw [upN_eq] at hb
        exact g4 a hb j1 (by omega) ha
      · rw [upN_ne q2] at hb
        exact h4 j1 j2 (by omega) (by omega) hij a ha hb
  · by_cases q : j1 = n
    · by_cases q2 : j2 = n
      · rw [q, q2]
      · subst q; rw [upN_eq, upN_ne q2] at hij; exact absurd hij.symm (hne j2 (by omega))
    · by_cases q2 : j2 = n
      · subst q2; rw [upN_eq, upN_ne q] at hij; exact absurd hij (hne j1 (by omega))
      · rw [upN_ne q, upN_ne q2] at hij; exact h5 j1 j2 (by omega) (by omega) hij
def bL : va_E := .inr (2, [.int 0, .int 0, .null, .int 0, .int 0, .int 0, .int 0])
theorem kUp_mid {σ : kS} {a b : Nat} {x x2 y : va_E} (h : a ≠ b) : kUp (kUp (kUp σ a x) b y) a x2 = kUp (kUp σ b y) a x2 := by
  funext c
  by_cases h1 : c = a
  · subst h1; simp [kUp]
  · by_cases h2 : c = b
    · subst h2; simp [kUp, h1]
    · simp [kUp, h1, h2]
theorem tkS_all {P : List kP} {w : Nat} (h : w ≤ unS P) : unS (tkS P w).1 = w := by
  induction P generalizing w with
  | nil => simp only [unS] at h; subst_vars; show 0 = w; omega
  | cons p t ih =>
    by_cases h1 : kUn p ≤ w
    · rw [tkS_cons_le h1]
      show kUn p + unS (tkS t (w - kUn p)).1 = w
      rw [ih (by simp only [unS] at h; omega)]
      omega
    · by_cases h0 : w = 0
      · subst h0; rw [tkS_cons_0 h1]; rfl
      · rw [tkS_cons_gt h1 h0]; rfl
section Bot
variable {l : Launch} {D : va_G} {σ s2 : kS} {aO cA wA lA aJ : Nat} {cad ra wad lad : Nat → Nat} {R : Nat → kPs} {z : kSt} {J : List kJe} {F : kF}
theorem nbL {k : Nat} {e : va_E} (h : kC e = k) (hk : k ≠ 2) : e ≠ bL := fun q => by subst q; exact hk (h.symm.trans rfl)
theorem cI.keepB (h : cI D aO cA wA lA aJ cad ra wad lad R z J F σ) (hf : kKp (fun e => e ≠ bL) σ s2) : cI D aO cA wA lA aJ cad ra wad lad R z J F s2 := by
  obtain ⟨h1, h2, h3, h4, h5, h6, h7, h8, h9, h10⟩ := h
  have h15 : ∀ N e, isAr N e → e ≠ bL := by
    intro N e q q2
    subst q2
    exact q.elim
  refine ⟨hf _ _ h1 (nbL (k := 9) rfl (by decide)), h2.keep (hf.mono (h15 _)), h3.keep (hf.mono (h15 _)), h4.keep (hf.mono (h15 _)), h5.keep (hf.mono (fun e q => nbL q (by decide))), h6.keep (hf.mono (fun e q => nbL q (by decide))), ⟨fun i hi => hf _ _ (h7.1 i hi) (fun q => ?_), h7.2⟩, h8.keep (hf.mono (fun e q => q.elim (fun q => nbL q (by decide)) (fun q => nbL q (by decide)))), h9, h10.keep (hf.mono (fun e q => ?_))⟩
  · have q2 := Sum.inr.inj q
    have q3 : some (Value.ref (ra (11 + i))) = some Value.null := congrArg (fun l : List Value => l[2]?) (Prod.mk.inj q2).2
    cases q3
  · rcases q with q | q | q | q | q
    · exact nbL q (by decide)
    · exact nbL q (by decide)
    · exact nbL q (by decide)
    · exact nbL q (by decide)
    · exact h15 _ e q
/-- a lot more -/
theorem cI.addLot (h : cI D aO cA wA lA aJ cad ra wad lad R z J F σ) {q r : Nat} {T : kPs} {t : kLo} {f : Nat → Option Nat} (f1 : σ lA = some (.inl (D.1 17, 40, .inr (.inr (.inr (.inr f)))))) (f2 : ∀ i, i < sLn z → f i = some (lad i)) (f3 : f (sLn z) = some q) (hq : σ q = some (loE r t)) (hqn : ∀ i, i < sLn z → lad i ≠ q) (hr : σ r = some (rowE (nI (unS (kCon T))) (hdA T) (lsA T))) (hrn : ∀ i, i < 11 + sLn z → ra i ≠ r) (hT : pCh σ T) (hTn : (adr T).Nodup) (hTd : ∀ a ∈ adr T, ∀ j, j < 11 + sLn z → a ∉ adr (R j)) (c2 : kSc) (e : va_E) (he : e = o9E cA wA lA (ra 10) aJ (cad c2.2.2.1) (c2, z.2.1, upN (sR z) (11 + sLn z) (kCon T), z.2.2.2.1, (sLn z + 1, upN (sLo z) (sLn z) t))) : cI D aO cA wA lA aJ cad (upN ra (11 + sLn z) r) wad (upN lad (sLn z) q) (upN R (11 + sLn z) T) (c2, z.2.1, upN (sR z) (11 + sLn z) (kCon T), z.2.2.2.1, (sLn z + 1, upN (sLo z) (sLn z) t)) J F (kUp σ aO e) := by
  have h1 := h.o
  have hk : ∀ P : va_E → Prop, (∀ e, kC e = 9 → ¬ P e) → kKp P σ (kUp σ aO e) := fun P hp => kKp.up h1 (hp _ rfl)
  refine ⟨?_, h.a.keep (hk _ (fun e q => noAr q (by decide))), h.aw.keep (hk _ (fun e q => noAr q (by decide))), ⟨f, kUp_o (kNeL h1 f1).symm f1, fun i hi => ?_⟩, fun i hi => ?_, h.w.keep (hk _ (fun e q => noK q (by decide))), ⟨fun i hi => ?_, fun i j hi hj hij => ?_⟩, ?_, fun i hi => ?_, h.j.keep (hk _ (fun e q => noJ q (by decide)))⟩
  · rw [upN_ne (show 10 ≠ 11 + sLn z by omega), kUp_eq, he]
  · have hi : i < sLn z + 1 := hi
    by_cases x : i = sLn z
    · rw [x, upN_eq, f3]
    · rw [upN_ne x]; exact f2 i (by omega)
  · have e1 : cE cad (upN ra (11 + sLn z) r) i (sK z i) = cE cad ra i (sK z i) := by
      unfold cE; rw [upN_ne (show i ≠ 11 + sLn z by omega)]
    show _ = some (cE cad (upN ra (11 + sLn z) r) i (sK z i))
    rw [e1]
    exact kUp_o (kNe (h.c i hi) h1 (by decide)) (h.c i hi)
  · have hi : i < sLn z + 1 := hi
    show _ = some (loE (upN ra (11 + sLn z) r (11 + i)) (upN (sLo z) (sLn z) t i))
    by_cases x : i = sLn z
    · subst x
      rw [upN_eq, upN_eq, upN_eq]
      exact kUp_o (kNe hq h1 (by decide)) hq
    · rw [upN_ne x, upN_ne x, upN_ne (show 11 + i ≠ 11 + sLn z by omega)]
      have := h.lo.1 i (by omega)
      exact kUp_o (kNe this h1 (by decide)) this
  · have hi : i < sLn z + 1 := hi
    have hj : j < sLn z + 1 := hj
    by_cases x : i = sLn z
    · by_cases y : j = sLn z
      · rw [x, y]
      · rw [x, upN_eq, upN_ne y] at hij; exact absurd hij.symm (hqn j (by omega))
    · by_cases y : j = sLn z
      · rw [y, upN_eq, upN_ne x] at hij; exact absurd hij (hqn i (by omega))
      · rw [upN_ne x, upN_ne y] at hij; exact h.lo.2 i j (by omega) (by omega) hij
  · exact h.r.snocN (hk _ (fun e q => noR q (by decide))) hrn (kUp_o (kNe hr h1 (by decide)) hr) (pCh_kp hT (hk _ (fun e q => noR q (by decide)))) hTn hTd
  · have hi : i < 11 + (sLn z + 1) := hi
    show _ = upN (sR z) (11 + sLn z) (kCon T) i
    by_cases x : i = 11 + sLn z
    · rw [x, upN_eq, upN_eq]
    · rw [upN_ne x, upN_ne x]; exact h.rc i (by omega)
end Bot
