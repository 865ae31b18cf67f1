/-! ===== every call keeps the bounds ===== -/
theorem gCell_i {c : Int32} {g : Option String} (h : gCell c g = none) : (0 ≤ c ∧ c < 10) ∧ g = none := by
  by_cases q : 0 ≤ c ∧ c < 10
  · exact ⟨q, (gCell_p q).symm.trans h⟩
  · rw [gCell, if_neg q] at h; cases h
theorem gIx_i {c n : Int32} {g : Option String} (h : gIx c n g = none) : (0 ≤ c ∧ c < n) ∧ g = none := by
  by_cases q : 0 ≤ c ∧ c < n
  · exact ⟨q, (gIx_p q).symm.trans h⟩
  · rw [gIx, if_neg q] at h; cases h
theorem gRg_i {x lo hi : Int32} {g : Option String} (h : gRg x lo hi g = none) : inR x lo hi ∧ g = none := by
  by_cases q : lo ≤ x ∧ x ≤ hi
  · exact ⟨q, (gRg_p q).symm.trans h⟩
  · rw [gRg, if_neg q] at h; cases h
theorem gSt_i {b : Bool} (h : gSt b = none) : b = true := by
  cases b with
  | true => rfl
  | false => cases h
theorem gArg_i {b : Bool} (h : gArg b = none) : b = true := by
  cases b with
  | true => rfl
  | false => cases h
section Oks
variable {z : kSt}
theorem sOk.cell (hs : sOk z) {i : Nat} {k : kCl} (hk : i < 10 → clOk i k) : sOk (z.1, upN (sK z) i k, z.2.2) := by
  obtain ⟨h1, h2, h3⟩ := hs
  refine ⟨h1, fun j hj => ?_, h3⟩
  show clOk j (upN (sK z) i k j)
  by_cases q : j = i
  · subst q; rw [upN_eq]; exact hk hj
  · rw [upN_ne q]; exact h2 j hj
theorem sOk.lots (hs : sOk z) {f : Nat → kLo} (hf : ∀ i, i < sLn z → ltOk (sNow z) (f i) (sR z (11 + i))) : sOk (z.1, z.2.1, z.2.2.1, z.2.2.2.1, (sLn z, f)) := by
  obtain ⟨h1, h2, h3, ⟨h4, h5⟩, h6⟩ := hs
  exact ⟨h1, h2, h3, ⟨h4, hf⟩, h6⟩
theorem ok_rock (hs : sOk z) {c y : Int32} (g : gRock c y = none) : sOk (nRock z c y) := by
  obtain ⟨g1, g⟩ := gCell_i g
  obtain ⟨g2, -⟩ := gRg_i g
  obtain ⟨i, hi, e⟩ := ix_of (n := 10) (by decide) g1
  obtain ⟨j, hj1, hj2, ej⟩ := inR_of (a := 1) (n := 40) rfl rfl (by decide) (by decide) g2
  subst e; subst ej
  rw [nRock, cN_nI (by omega), cN_nI (by omega)]
  have hk := hs.2.1 i hi
  exact hs.cell (fun _ => ⟨hk.1, hj1, hj2, hk.2.2.2⟩)
theorem ok_land (hs : sOk z) {c y : Int32} (g : gLand z c y = none) : sOk (nLand z c y) := by
  obtain ⟨g1, g⟩ := gCell_i g
  obtain ⟨g2, -⟩ := gRg_i g
  obtain ⟨i, hi, e⟩ := ix_of (n := 10) (by decide) g1
  obtain ⟨j, hj1, hj2, ej⟩ := inR_of (a := 0) (n := 2) rfl rfl (by decide) (by decide) g2
  subst e; subst ej
  rw [nLand, cN_nI (by omega), cN_nI (by omega)]
  have hk := hs.2.1 i hi
  exact hs.cell (fun _ => ⟨hk.1, hk.2.1, hk.2.2.1, hj2, hk.2.2.2.2⟩)
theorem ok_lead (hs : sOk z) {c y : Int32} (g : gLead c y = none) : sOk (nLead z c y) := by
  obtain ⟨g1, g⟩ := gCell_i g
  obtain ⟨i, hi, e⟩ := ix_of (n := 10) (by decide) g1
  subst e
  rw [nLead, cN_nI (by omega)]
  have hk := hs.2.1 i hi
  refine hs.cell (fun _ => ⟨fun d hd => ?_, hk.2⟩)
  have hd : (if y = -1 then none else some (cN y)) = some d := hd
  by_cases q : y = -1
  · rw [if_pos q] at hd; cases hd
  · rw [if_neg q] at hd g
    obtain ⟨g2, g⟩ := gCell_i g
    obtain ⟨j, hj, ej⟩ := ix_of (n := 10) (by decide) g2
    subst ej
    rw [cN_nI (by omega)] at hd
    cases hd
    exact (nI_ltI (by omega) (by omega)).mp (of_decide_eq_true (gArg_i g))
theorem ok_spill (hs : sOk z) {c y : Int32} : sOk (nSpill z c y) := hs.cell (fun hi => hs.2.1 (cN c) hi)
theorem ok_contract (hs : sOk z) {c y w : Int32} (g : gContract z c y w = none) : sOk (nContract z c y w) := by
  obtain ⟨g1, g⟩ := gCell_i g
  obtain ⟨g2, g⟩ := gRg_i g
  obtain ⟨g3, g⟩ := gRg_i g
  obtain ⟨i, hi, e⟩ := ix_of (n := 10) (by decide) g1
  obtain ⟨j, hj1, hj2, ej⟩ := inR_of (a := 1) (n := 30) rfl rfl (by decide) (by decide) g2
  obtain ⟨j2, hj3, hj4, ej2⟩ := inR_of (a := 0) (n := 1000) rfl rfl (by decide) (by decide) g3
  subst e; subst ej; subst ej2
  rw [nContract, cN_nI (by omega), cN_nI (by omega), cN_nI (by omega)]
  have hk := hs.2.1 i hi
  exact hs.cell (fun _ => ⟨hk.1, hk.2.1, hk.2.2.1, hk.2.2.2.1, hj2, hj4⟩)
theorem ok_drought (hs : sOk z) {c y w : Int32} (g : gDrought c y w = none) : sOk (nDrought z c y w) := by
  obtain ⟨g1, g⟩ := gCell_i g
  obtain ⟨g2, g⟩ := gRg_i g
  obtain ⟨g3, g⟩ := gRg_i g
  obtain ⟨i, hi, e⟩ := ix_of (n := 10) (by decide) g1
  obtain ⟨j, hj1, hj2, ej⟩ := inR_of (a := 0) (n := 100000) rfl rfl (by decide) (by decide) g2
  subst ej
  obtain ⟨j2, hj3, hj4, ej2⟩ := inR_of (a := 0) (n := j) rfl rfl (by omega) (by omega) g3
  subst e; subst ej2
  rw [nDrought, cN_nI (by omega), cN_nI (by omega), cN_nI (by omega)]
  obtain ⟨⟨h1, h2, h3, h4, h5⟩, h6⟩ := hs
  exact ⟨⟨h1, h2, hi, hj2, (by omega : j2 ≤ 100000)⟩, h6⟩
theorem ok_share (hs : sOk z) {y : Int32} (g : gShare y = none) : sOk (nShare z y) := by
  obtain ⟨g2, -⟩ := gRg_i g
  obtain ⟨j, hj1, hj2, ej⟩ := inR_of (a := 0) (n := 100) rfl rfl (by decide) (by decide) g2
  subst ej
  rw [nShare, cN_nI (by omega)]
  obtain ⟨⟨h1, h2, h3, h4, h5⟩, h6⟩ := hs
  exact ⟨⟨h1, hj2, h3, h4, h5⟩, h6⟩
theorem ok_well (hs : sOk z) {c w : Int32} (g : gWell z c w = none) : sOk (nWell z c w) := by
  obtain ⟨g1, ga⟩ := gCell_i g
  obtain ⟨g2, gb⟩ := gRg_i ga
  obtain ⟨i, hi, e⟩ := ix_of (n := 10) (by decide) g1
  obtain ⟨j, hj1, hj2, ej⟩ := inR_of (a := 0) (n := 10000) rfl rfl (by decide) (by decide) g2
  subst e; subst ej
  have hn : sWn z < 6 := of_decide_eq_true (gSt_i gb)
  rw [nWell, cN_nI (by omega), cN_nI (by omega)]
  obtain ⟨h1, h2, ⟨h3, h4⟩, h5⟩ := hs
  refine ⟨h1, h2, ⟨(by omega : sWn z + 1 ≤ 6), fun a ha => ?_⟩, h5⟩
  have ha : a < sWn z + 1 := ha
  show wlOk (upN (sW z) (sWn z) (i, j, 0) a)
  by_cases q : a = sWn z
  · rw [q, upN_eq]; exact ⟨hi, hj2, Nat.zero_le _⟩
  · rw [upN_ne q]; exact h4 a (by omega)
theorem ok_treat (hs : sOk z) {c q9 : Int32} : sOk (nTreat z c q9) := by
  refine hs.lots (fun i hi => ?_)
  have h := hs.2.2.2.1.2 i hi
  by_cases q : i = cN c
  · rw [q, upN_eq]; rw [q] at h; exact h
  · rw [upN_ne q]; exact h
theorem ok_label (hs : sOk z) {c y : Int32} (g : gLabel z c y = none) : sOk (nLabel z c y) := by
  obtain ⟨-, g⟩ := gIx_i g
  obtain ⟨g2, -⟩ := gRg_i g
  obtain ⟨j, hj1, hj2, ej⟩ := inR_of (a := 0) (n := 2) rfl rfl (by decide) (by decide) g2
  have hy : y = 0 ∨ y = 1 ∨ y = 2 := by
    subst ej
    have : j = 0 ∨ j = 1 ∨ j = 2 := by omega
    rcases this with q | q | q <;> subst q <;> decide
  refine hs.lots (fun i hi => ?_)
  have h := hs.2.2.2.1.2 i hi
  by_cases q : i = cN c
  · rw [q, upN_eq]; rw [q] at h
    exact ⟨h.1, h.2.1, Or.inr hy, bI_01 _, h.2.2.2.2.1, h.2.2.2.2.2⟩
  · rw [upN_ne q]; exact h
theorem ok_forbid (hs : sOk z) {y : Int32} : sOk (nForbid z y) := by
  have h9 : sOk (z.1, z.2.1, z.2.2.1, z.2.2.2.1, (sLn z, fbL z (bitI y) (sLn z))) := hs.lots (fun i hi => by
    have h := hs.2.2.2.1.2 i hi
    unfold fbL
    split
    · exact ⟨h.1, h.2.1, h.2.2.1, h.2.2.2.1, Or.inr rfl, h.2.2.2.2.2⟩
    · exact h)
  exact ⟨h9.1, h9.2⟩
theorem ok_pass (hs : sOk z) {y r : Int32} (g : gPass z y r = none) : sOk (nPass z y r) := by
  obtain ⟨g1, ga⟩ := gRg_i g
  obtain ⟨g2, gb⟩ := gRg_i ga
  obtain ⟨t, ht1, ht2, et⟩ := inR_of (a := 0) (n := 1000) rfl rfl (by decide) (by decide) g2
  subst et
  rw [nPass, cN_nI (show t < 2 ^ 31 by omega)]
  exact passS_ok hs (of_decide_eq_true (gSt_i gb)) ht2
end Oks
