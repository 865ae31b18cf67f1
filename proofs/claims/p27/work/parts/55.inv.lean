/-! ===== what holds of the object beside its bounds ===== -/
def nitOk (z : kSt) : Prop := ∀ i, i < 11 + sLn z → ∀ q ∈ sR z i, 1 ≤ q.2.2.1
/-- a set of treatments -/
def trOk (x : Int32) : Prop := ∃ n, n < 64 ∧ x = nI n
def ltI (t : kLo) : Prop := trOk t.2.2.1 ∧ (t.2.2.2.1 = -1 → t.2.2.2.2.1 = 0 ∧ t.2.2.2.2.2 = 0)
def zI (z : kSt) : Prop := nitOk z ∧ trOk (sFb z) ∧ (∀ i, i < sLn z → ltI (sLo z i)) ∧ sFal z = fIn z + sSpr z + fBot z
set_option maxRecDepth 100000 in
theorem bit64 : ∀ n, n < 64 → ∀ j, j < 6 → (nI n ||| bitI (nI j)).toNatClampNeg < 64 ∧ nI n ||| bitI (nI j) = nI (nI n ||| bitI (nI j)).toNatClampNeg := by decide +kernel
theorem trOk.bit {x : Int32} (h : trOk x) {j : Nat} (hj : j < 6) : trOk (x ||| bitI (nI j)) := by
  obtain ⟨n, hn, rfl⟩ := h
  exact ⟨_, (bit64 n hn j hj).1, (bit64 n hn j hj).2⟩
theorem trOk_0 : trOk 0 := ⟨0, by decide, by decide⟩
theorem zI_st0 : zI st0 := ⟨fun i _ q hq => (by cases hq), trOk_0, fun i hi => absurd hi (Nat.not_lt_zero i), by decide⟩
theorem zI_K {z : kSt} (h : zI z) (K : Nat → kCl) : zI (z.1, K, z.2.2) := h
theorem zI_treat {z : kSt} (h : zI z) {i j : Nat} (hi : i < sLn z) (hi2 : i < 40) (hj : j < 6) : zI (nTreat z (nI i) (nI j)) := by
  refine ⟨h.1, h.2.1, fun a ha => ?_, h.2.2.2⟩
  show ltI (upN (sLo z) (cN (nI i)) _ a)
  rw [cN_nI (by omega)]
  by_cases q : a = i
  · subst q
    rw [upN_eq]
    refine ⟨?_, fun hx => (h.2.2.1 a hi).2 ?_⟩
    · show trOk (rTreat z (nI a) (nI j))
      rw [rTreat, cN_nI (by omega)]
      exact (h.2.2.1 a hi).1.bit hj
    · exact hx
  · rw [upN_ne q]
    exact h.2.2.1 a ha
theorem zI_label {z : kSt} (h : zI z) {i j : Nat} (hi : i < sLn z) (hi2 : i < 40) (hj : j < 3) : zI (nLabel z (nI i) (nI j)) := by
  refine ⟨h.1, h.2.1, fun a ha => ?_, h.2.2.2⟩
  show ltI (upN (sLo z) (cN (nI i)) _ a)
  rw [cN_nI (by omega)]
  by_cases q : a = i
  · subst q
    rw [upN_eq]
    refine ⟨?_, fun hx => ?_⟩
    · exact (h.2.2.1 a hi).1
    · have hx : nI j = -1 := hx
      have : j = 0 ∨ j = 1 ∨ j = 2 := by omega
      rcases this with q | q | q <;> subst q <;> exact absurd hx (by decide)
  · rw [upN_ne q]
    exact h.2.2.1 a ha
theorem zI_forbid {z : kSt} (h : zI z) {j : Nat} (hj : j < 6) : zI (nForbid z (nI j)) := by
  refine ⟨h.1, h.2.1.bit hj, fun a ha => ?_, h.2.2.2⟩
  show ltI (fbL z (bitI (nI j)) (sLn z) a)
  unfold fbL
  have ha : a < sLn z := ha
  by_cases q : a < sLn z ∧ fbB z (bitI (nI j)) a = true
  · rw [if_pos q]
    refine ⟨(h.2.2.1 a ha).1, fun hx => ?_⟩
    have hx : (sLo z a).2.2.2.1 = -1 := hx
    have hb := q.2
    unfold fbB rcB at hb
    rw [hx] at hb
    exact absurd hb (by
      rw [show decide ((-1 : Int32) = 0) = false by decide, show decide ((-1 : Int32) = 1) = false by decide]
      simp)
  · rw [if_neg q]
    exact h.2.2.1 a ha
/-- nitrate through a year -/
theorem tkS_nit {P : List kP} {w : Nat} (h : ∀ q ∈ P, 1 ≤ q.2.2.1) : (∀ q ∈ (tkS P w).1, 1 ≤ q.2.2.1) ∧ ∀ q ∈ (tkS P w).2, 1 ≤ q.2.2.1 := by
  induction P generalizing w with
  | nil => exact ⟨fun q hq => (by cases hq), fun q hq => (by cases hq)⟩
  | cons p t ih =>
    have hp := h p List.mem_cons_self
    have ht : ∀ q ∈ t, 1 ≤ q.2.2.1 := fun q hq => h q (List.mem_cons_of_mem _ hq)
    by_cases h1 : kUn p ≤ w
    · rw [tkS_cons_le h1]
      refine ⟨fun q hq => ?_, (ih ht).2⟩
      rcases List.mem_cons.mp hq with e | e
      · subst e; exact hp
      · exact (ih ht).1 q e
    · by_cases h0 : w = 0
      · subst h0
        rw [tkS_cons_0 h1]
        exact ⟨fun q hq => (by cases hq), h⟩
      · rw [tkS_cons_gt h1 h0]
        refine ⟨fun q hq => ?_, fun q hq => ?_⟩
        · have e : q = pPart p w := by simpa using hq
          subst e
          exact hp
        · rcases List.mem_cons.mp hq with e | e
          · subst e
            exact hp
          · exact ht q e
theorem ldN_nit {K : Nat → kCl} {P : Nat → List kP} (hK : ∀ i d, i < 10 → (K i).1 = some d → d < i) (hP : ∀ i, i < 11 → ∀ q ∈ P i, 1 ≤ q.2.2.1) {n : Nat} (hn : n ≤ 10) : ∀ i, i < 11 → ∀ q ∈ ldN K P n i, 1 ≤ q.2.2.1 := by
  induction n with
  | zero =>
    intro i hi q hq
    have hq : q ∈ upN P 10 [] i := hq
    by_cases e : i = 10
    · subst e; rw [upN_eq] at hq; cases hq
    · rw [upN_ne e] at hq; exact hP i hi q hq
  | succ n ih =>
    intro i hi q hq
    obtain ⟨h1, h2⟩ := ldD_ok (hK n · (by omega)) (show n < 10 by omega)
    have hq : q ∈ ldS K (ldN K P n) n i := hq
    rw [ldS] at hq
    by_cases e : i = ldD K n
    · rw [e, upN_eq] at hq
      rcases List.mem_append.mp hq with hq | hq
      · exact ih (by omega) _ h1 q hq
      · exact (tkS_nit (ih (by omega) n (by omega))).1 q hq
    · rw [upN_ne e] at hq
      by_cases e2 : i = n
      · subst e2; rw [upN_eq] at hq
        exact (tkS_nit (ih (by omega) i (by omega))).2 q hq
      · rw [upN_ne e2] at hq
        exact ih (by omega) i hi q hq
theorem nitOf_ge (a b : Nat) : 1 ≤ nitOf a b := by unfold nitOf; split; decide; split <;> decide
theorem sOk.low {z : kSt} (hs : sOk z) : ∀ i d, i < 10 → (sK z i).1 = some d → d < i := fun i d hi => (hs.2.1 i hi).1 d
theorem oneS_Lo {z : kSt} {r : Nat} : sLo (oneS z r) = sLo z := by unfold oneS rainO; split <;> rfl
theorem oneS_Ln {z : kSt} {r : Nat} : sLn (oneS z r) = sLn z := by unfold oneS rainO; split <;> rfl
theorem oneS_Fb {z : kSt} {r : Nat} : sFb (oneS z r) = sFb z := by unfold oneS rainO; split <;> rfl
theorem oneS_Cen {z : kSt} {r : Nat} : sCen (oneS z r) = sCen z := by unfold oneS rainO; split <;> rfl
theorem oneS_Dr {z : kSt} {r : Nat} : sDr (oneS z r) = sDr z := by unfold oneS rainO; split <;> rfl
theorem oneS_L1 {z : kSt} {r : Nat} : sL1 (oneS z r) = sL1 z := by unfold oneS rainO; split <;> rfl
theorem oneS_L2 {z : kSt} {r : Nat} : sL2 (oneS z r) = sL2 z := by unfold oneS rainO; split <;> rfl
theorem oneS_Wn {z : kSt} {r : Nat} : sWn (oneS z r) = sWn z := by unfold oneS rainO; split <;> rfl
theorem oneS_Vil {z : kSt} {r : Nat} : sVil (oneS z r) = sVil z := by unfold oneS rainO; split <;> rfl
theorem oneS_Fal {z : kSt} {r : Nat} : sFal (oneS z r) = sFal z + r * 10 := by
  unfold oneS rainO
  split
  · rename_i h; subst h; rfl
  · rfl
theorem oneS_Spr {z : kSt} {r : Nat} : sSpr (oneS z r) = sSpr z + unS (ldN (sK z) (sR z) 10 10) := by unfold oneS rainO; split <;> rfl
theorem oneS_Pai {z : kSt} {r : Nat} : sPai (oneS z r) = sPai z + payN z 10 := by
  unfold oneS rainO
  split
  · rfl
  · show sPai z + payN (rainS (leadS z) r) 10 = _
    rfl
/-- what a cell is behind a year -/
theorem oneS_K {z : kSt} {r i : Nat} (hi : i < 10) : (sK (oneS z r) i).1 = (sK z i).1 ∧ (sK (oneS z r) i).2.1 = (sK z i).2.1 ∧ (sK (oneS z r) i).2.2.2.1 = (sK z i).2.2.2.1 - 1 ∧ (sK (oneS z r) i).2.2.2.2.1 = (sK z i).2.2.2.2.1 := by
  unfold oneS rainO
  split
  · show (paK (leadS z) 10 i).1 = _ ∧ (paK (leadS z) 10 i).2.1 = _ ∧ (paK (leadS z) 10 i).2.2.2.1 = _ ∧ (paK (leadS z) 10 i).2.2.2.2.1 = _
    unfold paK
    rw [if_pos hi]
    exact ⟨rfl, rfl, rfl, rfl⟩
  · show (paK (rainS (leadS z) r) 10 i).1 = _ ∧ (paK (rainS (leadS z) r) 10 i).2.1 = _ ∧ (paK (rainS (leadS z) r) 10 i).2.2.2.1 = _ ∧ (paK (rainS (leadS z) r) 10 i).2.2.2.2.1 = _
    unfold paK
    rw [if_pos hi]
    show (raK (leadS z) 10 i).1 = _ ∧ (raK (leadS z) 10 i).2.1 = _ ∧ (raK (leadS z) 10 i).2.2.2.1 - 1 = _ ∧ (raK (leadS z) 10 i).2.2.2.2.1 = _
    unfold raK
    rw [if_pos hi]
    exact ⟨rfl, rfl, rfl, rfl⟩
/-- the wells behind a year -/
theorem oneS_W {z : kSt} {r i : Nat} (hi : i < sWn z) : sW (oneS z r) i = ((sW z i).1, (sW z i).2.1, 0) := by
  unfold oneS rainO
  split
  · show tkW (noS (paS (leadS z) 10)) (sWn z) i = _
    unfold tkW
    rw [if_pos hi]
    rfl
  · show tkW (noS (paS (rainS (leadS z) r) 10)) (sWn z) i = _
    unfold tkW
    rw [if_pos hi]
    rfl
/-- a cell's units behind a year -/
theorem oneS_un {z : kSt} {r i : Nat} (hi : i < 10) : unS (sR (oneS z r) i) = unS (ldN (sK z) (sR z) 10 i) + r := by
  rw [oneR_eq]
  unfold oneR
  split
  · rename_i h; rw [h]; rfl
  · rw [raP, if_pos hi, unS_app]
    rfl
theorem oneS_10 {z : kSt} {r : Nat} : sR (oneS z r) 10 = ldN (sK z) (sR z) 10 10 := by
  rw [oneR_eq]
  unfold oneR
  split
  · rfl
  · rw [raP, if_neg (by decide)]; rfl
theorem zI_one {z : kSt} {r : Nat} (hs : sOk z) (h : zI z) : zI (oneS z r) := by
  have hK := hs.low
  refine ⟨fun i hi q hq => ?_, by rw [oneS_Fb]; exact h.2.1, fun i hi => by rw [oneS_Lo]; exact h.2.2.1 i (by rw [oneS_Ln] at hi; exact hi), ?_⟩
  · rw [oneS_Ln] at hi
    by_cases h11 : 11 ≤ i
    · rw [oneR_eq, oneR_hi hs h11] at hq
      exact h.1 i hi q hq
    · rw [oneR_eq] at hq
      have hl : ∀ q ∈ ldN (sK z) (sR z) 10 i, 1 ≤ q.2.2.1 := ldN_nit hK (fun i hi => h.1 i (by omega)) (by decide) i (by omega)
      unfold oneR at hq
      split at hq
      · exact hl q hq
      · unfold raP at hq
        split at hq
        · rcases List.mem_append.mp hq with hq | hq
          · exact hl q hq
          · have e : q = raQ (leadS z) (sNow z) r i := by simpa using hq
            rw [e]
            exact nitOf_ge _ _
        · exact hl q hq
  · have e1 : fIn (oneS z r) = suN (fun i => unS (ldN (sK z) (sR z) 10 i) + r) 10 := suN_congr (fun i hi => oneS_un hi)
    have e2 : suN (fun i => unS (ldN (sK z) (sR z) 10 i)) 11 = fIn z := ldN_sum hK (by decide)
    have e3 : suN (fun i => unS (ldN (sK z) (sR z) 10 i)) 11 = suN (fun i => unS (ldN (sK z) (sR z) 10 i)) 10 + unS (ldN (sK z) (sR z) 10 10) := rfl
    have e4 : fBot (oneS z r) = fBot z := by
      unfold fBot
      rw [oneS_Ln]
      exact suN_congr (fun i hi => by rw [oneR_eq, oneR_hi hs (by omega)])
    rw [oneS_Fal, oneS_Spr, e4, e1, suN_add (f := fun i => unS (ldN (sK z) (sR z) 10 i)), h.2.2.2]
    omega
theorem zI_bot {z : kSt} (hs : sOk z) (h : zI z) {i t : Nat} (hi : i < sWn z) (htu : t ≤ unS (sR z (sW z i).1)) : zI (botS z i t) := by
  have hw := (hs.2.2.1.2 i hi).1
  have hn : ∀ q ∈ sR z (sW z i).1, 1 ≤ q.2.2.1 := h.1 _ (by omega)
  have hR : ∀ a, sR (botS z i t) a = upN (upN (sR z) (sW z i).1 (tkS (sR z (sW z i).1) t).2) (11 + sLn z) (tkS (sR z (sW z i).1) t).1 a := fun a => rfl
  refine ⟨fun a ha q hq => ?_, h.2.1, fun a ha => ?_, ?_⟩
  · rw [hR] at hq
    by_cases e : a = 11 + sLn z
    · rw [e, upN_eq] at hq
      exact (tkS_nit hn).1 q hq
    · rw [upN_ne e] at hq
      by_cases e2 : a = (sW z i).1
      · rw [e2, upN_eq] at hq
        exact (tkS_nit hn).2 q hq
      · rw [upN_ne e2] at hq
        have ha : a < 11 + (sLn z + 1) := ha
        exact h.1 a (by omega) q hq
  · show ltI (upN (sLo z) (sLn z) (i, sNow z, 0, -1, 0, 0) a)
    by_cases e : a = sLn z
    · rw [e, upN_eq]
      exact ⟨trOk_0, fun _ => ⟨rfl, rfl⟩⟩
    · rw [upN_ne e]
      have ha : a < sLn z + 1 := ha
      exact h.2.2.1 a (by omega)
  · have e1 : fIn (botS z i t) + unS (sR z (sW z i).1) = fIn z + unS (tkS (sR z (sW z i).1) t).2 := by
      have : fIn (botS z i t) = suN (fun a => upN (fun a => unS (sR z a)) (sW z i).1 (unS (tkS (sR z (sW z i).1) t).2) a) 10 := suN_congr (fun a ha => by
        rw [hR, upN_ne (by omega)]
        by_cases e2 : a = (sW z i).1
        · rw [e2, upN_eq, upN_eq]
        · rw [upN_ne e2, upN_ne e2])
      rw [this]
      exact suN_up (f := fun a => unS (sR z a)) hw
    have e2 : fBot (botS z i t) = fBot z + unS (tkS (sR z (sW z i).1) t).1 := by
      show suN (fun a => unS (sR (botS z i t) (11 + a))) (sLn z) + unS (sR (botS z i t) (11 + sLn z)) = _
      congr 1
      · exact suN_congr (fun a ha => by rw [hR, upN_ne (by omega), upN_ne (by omega)])
      · rw [hR, upN_eq]
    have e3 := tkS_un (P := sR z (sW z i).1) (w := t)
    show sFal z = fIn (botS z i t) + sSpr z + fBot (botS z i t)
    rw [h.2.2.2, e2]
    omega
/-! the law's own numbers -/
def hW (lb tr rc : Int32) : Int32 := (lb + 1) + 10 * tr + 100 * rc
def hV (t : kLo) : Int32 := hW t.2.2.2.1 t.2.2.2.2.1 t.2.2.2.2.2
def cA (z : kSt) (f : Nat → Int32) : Prop := f 0 = nI (sNow z) ∧ f 1 = nI (sWn z) ∧ f 2 = nI (sLn z) ∧ f 3 = sFb z ∧ f 4 = nI (sCen z) ∧ f 5 = nI (sDr z) ∧ f 6 = nI (sL1 z) ∧ f 7 = nI (sL2 z)
def pA (z : kSt) (f : Nat → Int32) : Prop := ∀ k, k < 10 → f k = nI (sK z k).2.2.2.2.1
def wA (z : kSt) (f : Nat → Int32) : Prop := ∀ k, k < sWn z → f k = nI (sW z k).1 ∧ f (6 + k) = nI (sW z k).2.1 ∧ f (12 + k) = nI (sW z k).2.2
def hA (z : kSt) (f : Nat → Int32) : Prop := ∀ k, k < 40 → f k = if k < sLn z then hV (sLo z k) else 0
/-- a label, its truth and its recall, as the law packs them -/
def lbOk (lb tr rc : Int32) : Prop := (lb = -1 ∨ lb = 0 ∨ lb = 1 ∨ lb = 2) ∧ (tr = 0 ∨ tr = 1) ∧ (rc = 0 ∨ rc = 1)
theorem sOk.lb {z : kSt} (hs : sOk z) {i : Nat} (hi : i < sLn z) : lbOk (sLo z i).2.2.2.1 (sLo z i).2.2.2.2.1 (sLo z i).2.2.2.2.2 := by
  have h := hs.2.2.2.1.2 i hi
  exact ⟨h.2.2.1, h.2.2.2.1, h.2.2.2.2.1⟩
def rm (x y : Int32) : Int32 := x - x / y * y
theorem hW_1 {lb tr rc : Int32} (h : lbOk lb tr rc) : rm (hW lb tr rc) 10 = lb + 1 := by
  obtain ⟨h1, h2, h3⟩ := h
  rcases h1 with rfl | rfl | rfl | rfl <;> rcases h2 with rfl | rfl <;> rcases h3 with rfl | rfl <;> decide
theorem hW_2 {lb tr rc : Int32} (h : lbOk lb tr rc) : rm (hW lb tr rc / 10) 10 = tr := by
  obtain ⟨h1, h2, h3⟩ := h
  rcases h1 with rfl | rfl | rfl | rfl <;> rcases h2 with rfl | rfl <;> rcases h3 with rfl | rfl <;> decide
theorem hW_3 {lb tr rc : Int32} (h : lbOk lb tr rc) : hW lb tr rc / 100 = rc := by
  obtain ⟨h1, h2, h3⟩ := h
  rcases h1 with rfl | rfl | rfl | rfl <;> rcases h2 with rfl | rfl <;> rcases h3 with rfl | rfl <;> decide
theorem hW_4 {lb tr rc : Int32} (h : lbOk lb tr rc) : (100 ≤ hW lb tr rc) ↔ rc = 1 := by
  obtain ⟨h1, h2, h3⟩ := h
  rcases h1 with rfl | rfl | rfl | rfl <;> rcases h2 with rfl | rfl <;> rcases h3 with rfl | rfl <;> decide
