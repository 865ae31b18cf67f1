theorem adr_app (A T : kPs) : adr (A ++ T) = adr A ++ adr T := by simp [adr]
theorem kCon_app (A T : kPs) : kCon (A ++ T) = kCon A ++ kCon T := by simp [kCon]
theorem unS_cons (p : kP) (t : List kP) : unS (p :: t) = kUn p + unS t := rfl
theorem tkS_cons_le {p : kP} {t : List kP} {w : Nat} (h : kUn p ≤ w) : tkS (p :: t) w = (p :: (tkS t (w - kUn p)).1, (tkS t (w - kUn p)).2) := by rw [tkS, if_pos h]
theorem tkS_cons_0 {p : kP} {t : List kP} (h : ¬ kUn p ≤ 0) : tkS (p :: t) 0 = ([], p :: t) := by rw [tkS, if_neg h, if_pos rfl]
theorem tkS_cons_gt {p : kP} {t : List kP} {w : Nat} (h : ¬ kUn p ≤ w) (h0 : w ≠ 0) : tkS (p :: t) w = ([pPart p w], pLess p w :: t) := by rw [tkS, if_neg h, if_neg h0]; rfl
section RowT
variable {l : Launch} {D : va_G} {σ : kS}
/-- what take leaves behind -/
def tkP (σ : kS) (ρ u w : Nat) (L : kPs) (v : Option Value) (s2 : kS) : Prop :=
  ∃ T R : kPs, kCon T = (tkS (kCon L) w).1 ∧ kCon R = (tkS (kCon L) w).2 ∧ v = some (va_rf (hdA T)) ∧ s2 ρ = some (rowE (nI (u - unS (kCon T))) (hdA R) (lsA R)) ∧ pCh s2 T ∧ pCh s2 R ∧ (adr T ++ adr R).Nodup ∧ (∀ a ∈ adr T ++ adr R, a ∈ adr L ∨ σ a = none) ∧ kOut (fun b => b = ρ ∨ b ∈ adr L) σ s2 ∧ kFr k56 σ s2
set_option maxRecDepth 100000 in
theorem c_X6_take (hl : l.stackTraces = false) {ρ u w : Nat} {L : kPs} (hρ : σ ρ = some (rowE (nI u) (hdA L) (lsA L))) (hL : pCh σ L) (hn : (adr L).Nodup) (hu : u = unS (kCon L)) (hub : u < 2 ^ 31) (hwb : w < 2 ^ 31) : kMh hX6_take l D yX6_take 3 1 6 [.ref ρ, .int (nI w)] σ (tkP σ ρ u w L) (fun _ => False) := by
  refine kM_of (L := [some (.ref ρ), some (.int (nI w)), none, none, none, none, none]) (by decide +kernel) hl (List.forall_mem_cons.mpr ⟨rfl, (List.forall_mem_cons.mpr ⟨rfl, (fun _ h => absurd h List.not_mem_nil)⟩)⟩) (Nat.le_of_ble_eq_true rfl) rfl ?_
  intro p e s m args below meth c B hr hex hnm
  have B : kB p l s m args meth c D (kA σ s.heap.size) 7 cX6_take RX6 := B
  have hunb : ∀ q ∈ L, kUn q.2 ≤ u := by
    rw [hu]
    clear hu hρ hL hn
    induction L with
    | nil => intro q hq; cases hq
    | cons r t ih =>
      intro q hq
      have e : unS (kCon (r :: t)) = kUn r.2 + unS (kCon t) := rfl
      rcases List.mem_cons.mp hq with h | h
      · subst h; omega
      · have := ih q h; omega
  -- the end of the walk
  have fin : ∀ (A R : kPs) (s1 : kS) (fr : Option Nat) (x : Nat) (nx : Option Nat) (o6 : Option Value), s1 ρ = some (rowE (nI u) (hdA L) (lsA L)) → pSeg s1 A nx → pCh s1 R → (A ≠ [] → fr = hdA A) → (A = [] → R = L ∧ s1 = σ) → (adr A ++ adr R).Nodup → (∀ a ∈ adr A ++ adr R, a ∈ adr L ∨ σ a = none) → unS (kCon A) + x = w → unS (kCon A) ≤ u → kCon A = (tkS (kCon L) w).1 → kCon R = (tkS (kCon L) w).2 → (R ≠ [] → lsA R = lsA L) → kOut (fun b => b = ρ ∨ b ∈ adr L) σ s1 → kFr k56 σ s1 →
      kK p l e (kR 3 1 6) s m args below meth c D (kA σ s.heap.size) 7 (kQ below args s D σ (tkP σ ρ u w L) (fun _ => False) 1 6) s1 1 6 95 [some (.ref ρ), some (.int (nI w)), some (va_rf fr), some (va_rf (lsA A)), some (va_rf (hdA R)), some (.int (nI x)), o6] [] := by
    intro A R s1 fr x nx o6 h1 hA hR hfr hA0 hnd hin hwx hwu htA htR hlsR hO hF
    rcases List.eq_nil_or_concat A with e0 | ⟨A0, b, e0⟩
    · subst e0
      obtain ⟨rfl, rfl⟩ := hA0 rfl
      refine k_aload_n B dX6_take_95 rfl (by first | exact kRf_r _ | exact kRf_q _ | exact kRf_n) ?_
      refine k_ifnonnullN B 101 dX6_take_96 (by decide) ?_
      refine k_null B dX6_take_99 ?_
      refine k_aret B hr ⟨_, rfl⟩ dX6_take_100 (by first | exact kRf_r _ | exact kRf_q _ | exact kRf_n) ?_ (by first | exact Nat.le_of_ble_eq_true rfl | omega | (simp only [kR, Value.category, kCat_q, List.map, List.sum_cons, List.sum_nil]; omega)) (by first | exact Nat.le_of_ble_eq_true rfl | omega | (simp only [kR, Value.category, kCat_q, List.map, List.sum_cons, List.sum_nil]; omega))
      refine ⟨[], R, htA, htR, rfl, ?_, trivial, hR, hnd, hin, hO, hF⟩
      rw [h1]; rfl
    · obtain ⟨b, pb⟩ := b
      rw [List.concat_eq_append] at e0
      have hls : lsA A = some b := by rw [e0]; exact lsA_snoc _ _ _
      have hfr2 := hfr (by rw [e0]; simp)
      rw [hls]
      have hseg : pSeg s1 (A0 ++ [(b, pb)]) nx := by rw [← e0]; exact hA
      obtain ⟨g1, g2⟩ := pSeg_app.mp hseg
      have hb1 : s1 b = some (pE pb nx) := g2.1
      have hbρ : b ≠ ρ := kNe hb1 h1 (by decide)
      have hρ2 : kUp s1 b (pE pb none) ρ = some (rowE (nI u) (hdA L) (lsA L)) := kUp_o (Ne.symm hbρ) h1
      have hnb0 : b ∉ adr A0 := by
        rw [e0, adr_app] at hnd
        have := (List.nodup_append.mp hnd).1
        have := (List.nodup_append.mp this).2.2
        intro h
        exact this b h b (by simp [adr]) rfl
      have hnbR : b ∉ adr R := by
        intro h
        exact (List.nodup_append.mp hnd).2.2 b (by rw [e0, adr_app]; simp [adr]) b h rfl
      have hbX : (fun b => b = ρ ∨ b ∈ adr L) b ∨ σ b = none := by
        rcases hin b (by rw [e0, adr_app]; simp [adr]) with h | h
        · exact Or.inl (Or.inr h)
        · exact Or.inr h
      refine k_aload_n B dX6_take_95 rfl (by first | exact kRf_r _ | exact kRf_q _ | exact kRf_n) ?_
      refine k_ifnonnullR B 101 dX6_take_96 (by decide) ?_
      refine k_aload_n B dX6_take_101 rfl (by first | exact kRf_r _ | exact kRf_q _ | exact kRf_n) ?_
      refine k_null B dX6_take_102 ?_
      refine pf_X6_22 B dX6_take_103 hb1 rfl (by first | exact kRf_r _ | exact kRf_q _ | exact kRf_n) ?_
      refine kK.eq (σ2 := kUp s1 b (pE pb none)) rfl ?_
      refine k_aload_n B dX6_take_106 rfl (by first | exact kRf_r _ | exact kRf_q _ | exact kRf_n) ?_
      refine k_dup B dX6_take_107 rfl ?_
      refine gf_X6_9 B dX6_take_108 hρ2 rfl ?_
      refine k_iload_n B dX6_take_111 rfl ?_
      refine k_iload B dX6_take_112 rfl ?_
      refine k_isub B dX6_take_114 ?_
      refine k_isub B dX6_take_115 ?_
      refine kK.rei (y := nI (u - unS (kCon A))) (by rw [pk_sub (show x ≤ w by omega), pk_sub (show w - x ≤ u by omega), show w - x = unS (kCon A) by omega]) ?_
      have tail : ∀ z : Option Nat, z = lsA R → kK p l e (kR 3 1 6) s m args below meth c D (kA σ s.heap.size) 7 (kQ below args s D σ (tkP σ ρ u w L) (fun _ => False) 1 6) (kUp (kUp s1 b (pE pb none)) ρ (rowE (nI (u - unS (kCon A))) (hdA R) (lsA L))) 1 6 139 [some (.ref ρ), some (.int (nI w)), some (va_rf fr), some (.ref b), some (va_rf (hdA R)), some (.int (nI x)), o6] [va_rf z, .ref ρ] := by
        intro z hz
        refine pf_X6_19 B dX6_take_139 kUp_eq rfl (by first | exact kRf_r _ | exact kRf_q _ | exact kRf_n) ?_
        refine k_aload_n B dX6_take_142 rfl (by first | exact kRf_r _ | exact kRf_q _ | exact kRf_n) ?_
        refine k_aret B hr ⟨_, rfl⟩ dX6_take_143 (by first | exact kRf_r _ | exact kRf_q _ | exact kRf_n) ?_ (by first | exact Nat.le_of_ble_eq_true rfl | omega | (simp only [kR, Value.category, kCat_q, List.map, List.sum_cons, List.sum_nil]; omega)) (by first | exact Nat.le_of_ble_eq_true rfl | omega | (simp only [kR, Value.category, kCat_q, List.map, List.sum_cons, List.sum_nil]; omega))
        refine ⟨A, R, htA, htR, by rw [hfr2], ?_, ?_, ?_, hnd, hin, ?_, ?_⟩
        · rw [kUp_uu, kUp_eq, ← hz]; rfl
        · rw [kUp_uu]
          refine pCh_keep (σ := kUp s1 b (pE pb none)) (pCh_iff.mpr (by rw [e0]; exact pSeg_app.mpr ⟨pSeg_up g1 hnb0, kUp_eq, trivial⟩)) (fun a ha y hy => kUp_o ?_ hy)
          intro h
          subst h
          obtain ⟨p1, y1, hh⟩ := pSeg_adr hA ha
          rw [h1] at hh
          cases hh
        · rw [kUp_uu]
          refine pCh_keep (σ := kUp s1 b (pE pb none)) (pCh_keep hR (fun a ha y hy => kUp_o (fun h => hnbR (h ▸ ha)) hy)) (fun a ha y hy => kUp_o ?_ hy)
          intro h
          subst h
          obtain ⟨p1, y1, hh⟩ := pSeg_adr (pCh_iff.mp hR) ha
          rw [h1] at hh
          cases hh
        · rw [kUp_uu]
          intro a y ha hx
          refine kUp_o (fun h => hx (Or.inl h)) (kUp_o (fun h => ?_) (hO a y ha hx))
          rcases hbX with h2 | h2
          · exact hx (h ▸ h2)
          · rw [← h, ha] at h2
            cases h2
        · rw [kUp_uu]
          exact hF.tr ((kFr.up hb1 (Or.inl rfl)).tr (kFr.up hρ2 (Or.inr rfl)))
      cases R with
      | nil =>
        refine pf_X6_9 B dX6_take_116 hρ2 rfl ?_
        refine k_aload_n B dX6_take_119 rfl (by first | exact kRf_r _ | exact kRf_q _ | exact kRf_n) ?_
        refine k_aload B dX6_take_120 rfl (by first | exact kRf_r _ | exact kRf_q _ | exact kRf_n) ?_
        refine pf_X6_15 B dX6_take_122 kUp_eq rfl (by first | exact kRf_r _ | exact kRf_q _ | exact kRf_n) ?_
        refine k_aload_n B dX6_take_125 rfl (by first | exact kRf_r _ | exact kRf_q _ | exact kRf_n) ?_
        refine k_aload B dX6_take_126 rfl (by first | exact kRf_r _ | exact kRf_q _ | exact kRf_n) ?_
        refine k_ifnonnullN B 135 dX6_take_128 (by decide) ?_
        refine k_null B dX6_take_131 ?_
        refine k_goto B 139 dX6_take_132 (by decide) ?_
        refine kK.eq (σ2 := kUp (kUp s1 b (pE pb none)) ρ (rowE (nI (u - unS (kCon A))) none (lsA L))) (by rw [kUp_uu]; rfl) ?_
        exact tail none rfl
      | cons r t =>
        obtain ⟨a, r⟩ := r
        refine pf_X6_9 B dX6_take_116 hρ2 rfl ?_
        refine k_aload_n B dX6_take_119 rfl (by first | exact kRf_r _ | exact kRf_q _ | exact kRf_n) ?_
        refine k_aload B dX6_take_120 rfl (by first | exact kRf_r _ | exact kRf_q _ | exact kRf_n) ?_
        refine pf_X6_15 B dX6_take_122 kUp_eq rfl (by first | exact kRf_r _ | exact kRf_q _ | exact kRf_n) ?_
        refine k_aload_n B dX6_take_125 rfl (by first | exact kRf_r _ | exact kRf_q _ | exact kRf_n) ?_
        refine k_aload B dX6_take_126 rfl (by first | exact kRf_r _ | exact kRf_q _ | exact kRf_n) ?_
        refine k_ifnonnullR B 135 dX6_take_128 (by decide) ?_
        refine k_aload_n B dX6_take_135 rfl (by first | exact kRf_r _ | exact kRf_q _ | exact kRf_n) ?_
        refine gf_X6_19 B dX6_take_136 kUp_eq rfl ?_
        refine kK.eq (σ2 := kUp (kUp s1 b (pE pb none)) ρ (rowE (nI (u - unS (kCon A))) (some a) (lsA L))) (by rw [kUp_uu]; rfl) ?_
        exact tail (lsA L) (hlsR (by simp)).symm
  -- the loop
  have loop : ∀ (T2 A : kPs), L = A ++ T2 → unS (kCon A) ≤ w → (tkS (kCon L) w = (kCon A ++ (tkS (kCon T2) (w - unS (kCon A))).1, (tkS (kCon T2) (w - unS (kCon A))).2)) → kK p l e (kR 3 1 6) s m args below meth c D (kA σ s.heap.size) 7 (kQ below args s D σ (tkP σ ρ u w L) (fun _ => False) 1 6) σ 0 0 16 [some (.ref ρ), some (.int (nI w)), some (va_rf (hdA L)), some (va_rf (lsA A)), some (va_rf (hdA T2)), some (.int (nI (w - unS (kCon A)))), none] [] := by
    intro T2
    induction T2 with
    | nil =>
      intro A hLA hwA htk
      have hLA2 : A = L := by rw [hLA, List.append_nil]
      subst hLA2
      refine kK.widen (k2 := 1) (n2 := 6) (by omega) (by omega) ?_
      refine k_aload B dX6_take_16 rfl (by first | exact kRf_r _ | exact kRf_q _ | exact kRf_n) ?_
      refine k_ifnullN B 54 dX6_take_18 (by decide) ?_
      refine k_aload B dX6_take_54 rfl (by first | exact kRf_r _ | exact kRf_q _ | exact kRf_n) ?_
      refine k_ifnullN B 95 dX6_take_56 (by decide) ?_
      exact fin A [] σ (hdA A) (w - unS (kCon A)) none none hρ (pCh_iff.mp hL) trivial (fun _ => rfl) (fun h => ⟨h.symm, rfl⟩) (by simpa [adr] using hn) (fun a ha => Or.inl (by simpa [adr] using ha)) (by omega) (by omega) (by rw [htk]; simp [kCon, tkS]) (by rw [htk]; rfl) (fun h => absurd rfl h) kOut.rf kFr.rf
    | cons r t ih =>
      obtain ⟨a, r⟩ := r
      intro A hLA hwA htk
      have hrL : (a, r) ∈ L := by rw [hLA]; simp
      have hr1 := hunb _ hrL
      have hsegL : pSeg σ (A ++ (a, r) :: t) none := by rw [← hLA]; exact pCh_iff.mp hL
      obtain ⟨gA, gT⟩ := pSeg_app.mp hsegL
      have haσ : σ a = some (pE r (hdO t none)) := gT.1
      have hconL : unS (kCon L) = unS (kCon A) + (kUn r + unS (kCon t)) := by rw [hLA, kCon_app, unS_app]; rfl
      refine k_aload B dX6_take_16 rfl (by first | exact kRf_r _ | exact kRf_q _ | exact kRf_n) ?_
      refine k_ifnullR B 54 dX6_take_18 (by decide) ?_
      refine k_aload B dX6_take_21 rfl (by first | exact kRf_r _ | exact kRf_q _ | exact kRf_n) ?_
      refine gf_X6_27 B dX6_take_23 haσ rfl ?_
      refine k_iload B dX6_take_26 rfl ?_
      refine k_icmp_gt B 54 dX6_take_28 (by decide) (fun c28 => ?_) (fun c28 => ?_)
      · -- the portion is larger than what is left
        have hgt : w - unS (kCon A) < kUn r := (nI_ltI (by omega) (show kUn r < 2 ^ 31 by omega)).mp c28
        refine k_aload B dX6_take_54 rfl (by first | exact kRf_r _ | exact kRf_q _ | exact kRf_n) ?_
        refine k_ifnullR B 95 dX6_take_56 (by decide) ?_
        refine k_iload B dX6_take_59 rfl ?_
        refine k_if_le B 95 dX6_take_61 (by decide) (fun c61 => ?_) (fun c61 => ?_)
        · -- nothing is left to take
          have h0 : w - unS (kCon A) = 0 := by
            rcases Nat.eq_zero_or_pos (w - unS (kCon A)) with h | h
            · exact h
            · exact absurd c61 (nI_nle h (by omega))
          refine kK.widen (k2 := 1) (n2 := 6) (by omega) (by omega) ?_
          have htk2 : tkS (kCon ((a, r) :: t)) 0 = ([], kCon ((a, r) :: t)) := tkS_cons_0 (by show ¬ kUn r ≤ 0; omega)
          rw [h0] at htk ⊢
          refine fin A ((a, r) :: t) σ (hdA L) 0 (some a) none hρ gA (pCh_iff.mpr gT) ?_ ?_ (by rw [← adr_app, ← hLA]; exact hn) (fun z hz => Or.inl (by rw [hLA, adr_app]; exact hz)) (by omega) (by omega) (by rw [htk, htk2]; simp) (by rw [htk, htk2]) (fun _ => by rw [hLA, lsA_app _ _ (by simp)]) kOut.rf kFr.rf
          · intro h
            rw [hLA]
            cases A with
            | nil => exact absurd rfl h
            | cons z1 z2 => rfl
          · intro h
            subst h
            exact ⟨hLA.symm, rfl⟩
        · -- a part is split off
          have hpos : 0 < w - unS (kCon A) := by
            rcases Nat.eq_zero_or_pos (w - unS (kCon A)) with h | h
            · rw [h] at c61
              exact absurd (by rw [nI_0]; exact Int32.le_refl 0) c61
            · exact h
          generalize hx : w - unS (kCon A) = x at *
          refine k_aload B dX6_take_64 rfl (by first | exact kRf_r _ | exact kRf_q _ | exact kRf_n) ?_
          refine k_iload B dX6_take_66 rfl ?_
          refine cl_X6_28 B (c_X5_splitOff hl haσ (by omega)) (by assumption) dX6_take_68 (by first | exact Nat.le_of_ble_eq_true rfl | omega | (simp only [kR, Value.category, kCat_q, List.map, List.sum_cons, List.sum_nil]; omega)) (by first | exact Nat.le_of_ble_eq_true rfl | omega | (simp only [kR, Value.category, kCat_q, List.map, List.sum_cons, List.sum_nil]; omega)) (by first | exact Nat.le_of_ble_eq_true rfl | omega | (simp only [kR, Value.category, kCat_q, List.map, List.sum_cons, List.sum_nil]; omega)) (by first | exact Nat.le_of_ble_eq_true rfl | omega | (simp only [kR, Value.category, kCat_q, List.map, List.sum_cons, List.sum_nil]; omega)) (by first | exact Nat.le_of_ble_eq_true rfl | omega | (simp only [kR, Value.category, kCat_q, List.map, List.sum_cons, List.sum_nil]; omega)) (fun _ hx => hx.elim) (fun v68 s68 hp68 => ?_)
          obtain ⟨b, rfl, hσb, rfl⟩ := hp68
          have hab : a ≠ b := kNeN haσ hσb
          have hbL : b ∉ adr L := by
            intro h
            obtain ⟨p1, y1, h1⟩ := pSeg_adr (pCh_iff.mp hL) h
            rw [hσb] at h1
            cases h1
          have hbρ : b ≠ ρ := fun h => by rw [h, hρ] at hσb; cases hσb
          have haρ : a ≠ ρ := kNe haσ hρ (by decide)
          have hρ1 : kUp (kUp σ a (pE (pLess r x) (hdO t none))) b (pE (pPart r x) none) ρ = some (rowE (nI u) (hdA L) (lsA L)) := kUp_o (Ne.symm hbρ) (kUp_o (Ne.symm haρ) hρ)
          have hnL : (adr A ++ a :: adr t).Nodup := by
            have h := hn
            rw [hLA, adr_app] at h
            exact h
          have haA : a ∉ adr A := fun h => (List.nodup_append.mp hnL).2.2 a h a (by simp) rfl
          have hat : a ∉ adr t := (List.nodup_cons.mp (List.nodup_append.mp hnL).2.1).1
          have hbA : b ∉ adr A := fun h => hbL (by rw [hLA, adr_app]; exact List.mem_append_left _ h)
          have hbt : b ∉ adr t := fun h => hbL (by rw [hLA, adr_app]; exact List.mem_append_right _ (List.mem_cons_of_mem _ h))
          have hA1 : pSeg (kUp (kUp σ a (pE (pLess r x) (hdO t none))) b (pE (pPart r x) none)) A (some a) := pSeg_up (pSeg_up gA haA) hbA
          have hR1 : pCh (kUp (kUp σ a (pE (pLess r x) (hdO t none))) b (pE (pPart r x) none)) ((a, pLess r x) :: t) := pCh_iff.mpr ⟨kUp_o hab kUp_eq, pSeg_up (pSeg_up gT.2 hat) hbt⟩
          have htk2 : tkS (kCon ((a, r) :: t)) x = ([pPart r x], pLess r x :: kCon t) := tkS_cons_gt (by show ¬ kUn r ≤ x; omega) (by omega)
          have hO1 : kOut (fun b => b = ρ ∨ b ∈ adr L) σ (kUp (kUp σ a (pE (pLess r x) (hdO t none))) b (pE (pPart r x) none)) := (kOut.up (Or.inr (by rw [hLA, adr_app]; simp [adr]))).tr (kOut.new (by rw [kUp_ne (Ne.symm hab)]; exact hσb))
          have hF1 : kFr k56 σ (kUp (kUp σ a (pE (pLess r x) (hdO t none))) b (pE (pPart r x) none)) := (kFr.up haσ (Or.inl rfl)).tr (kFr.new (by rw [kUp_ne (Ne.symm hab)]; exact hσb))
          have hun1 : kUn (pPart r x) = x := rfl
          rcases List.eq_nil_or_concat A with e0 | ⟨A0, g, e0⟩
          · subst e0
            refine k_astore B dX6_take_71 (by decide) (by first | exact kRf_r _ | exact kRf_q _ | exact kRf_n) ?_
            try refine kK.set1 (by first | exact True.intro | rfl | exact kCat_q _) ?_
            refine k_iconst B (v := 0) dX6_take_73 (by decide) ?_
            refine k_istore B dX6_take_74 (by decide) ?_
            try refine kK.set1 (by first | exact True.intro | rfl | exact kCat_q _) ?_
            refine k_aload_n B dX6_take_76 rfl (by first | exact kRf_r _ | exact kRf_q _ | exact kRf_n) ?_
            refine k_ifnonnullN B 86 dX6_take_77 (by decide) ?_
            refine k_aload B dX6_take_80 rfl (by first | exact kRf_r _ | exact kRf_q _ | exact kRf_n) ?_
            refine k_astore_n B dX6_take_82 (by decide) (by first | exact kRf_r _ | exact kRf_q _ | exact kRf_n) ?_
            try refine kK.set1 (by first | exact True.intro | rfl | exact kCat_q _) ?_
            refine k_goto B 92 dX6_take_83 (by decide) ?_
            refine k_aload B dX6_take_92 rfl (by first | exact kRf_r _ | exact kRf_q _ | exact kRf_n) ?_
            refine k_astore_n B dX6_take_94 (by decide) (by first | exact kRf_r _ | exact kRf_q _ | exact kRf_n) ?_
            try refine kK.set1 (by first | exact True.intro | rfl | exact kCat_q _) ?_
            refine fin [(b, pPart r x)] ((a, pLess r x) :: t) _ (some b) 0 none _ hρ1 ⟨kUp_eq, trivial⟩ hR1 (fun _ => rfl) (fun h => by cases h) ?_ ?_ ?_ ?_ ?_ ?_ ?_ hO1 hF1
            · show (b :: a :: adr t).Nodup
              exact List.nodup_cons.mpr ⟨fun h => by
                rcases List.mem_cons.mp h with h | h
                · exact hab h.symm
                · exact hbt h, (List.nodup_append.mp hnL).2.1⟩
            · intro z hz
              rcases List.mem_cons.mp (show z ∈ b :: a :: adr t from hz) with h | h
              · exact Or.inr (h ▸ hσb)
              · exact Or.inl (by rw [hLA]; exact h)
            · show kUn (pPart r x) + 0 + 0 = w
              rw [hun1]
              have : unS (kCon ([] : kPs)) = 0 := rfl
              omega
            · show kUn (pPart r x) + 0 ≤ u
              rw [hun1]; omega
            · rw [htk, htk2]; rfl
            · rw [htk, htk2]; rfl
            · intro _
              rw [hLA]
              cases t with
              | nil => rfl
              | cons t1 t2 => rfl
          · obtain ⟨g, pg⟩ := g
            rw [List.concat_eq_append] at e0
            have hls : lsA A = some g := by rw [e0]; exact lsA_snoc _ _ _
            rw [hls]
            have hA2 : pSeg (kUp (kUp σ a (pE (pLess r x) (hdO t none))) b (pE (pPart r x) none)) (A0 ++ [(g, pg)]) (some a) := by rw [← e0]; exact hA1
            obtain ⟨k1, k2⟩ := pSeg_app.mp hA2
            have hg1 := k2.1
            have hgA : g ∈ adr A := by rw [e0, adr_app]; simp [adr]
            have hgρ : g ≠ ρ := kNe hg1 hρ1 (by decide)
            have hgb : g ≠ b := fun h => hbA (h ▸ hgA)
            have hga : g ≠ a := fun h => haA (h ▸ hgA)
            have hgt2 : g ∉ adr t := fun h => (List.nodup_append.mp hnL).2.2 g hgA g (List.mem_cons_of_mem _ h) rfl
            have hnA0 : g ∉ adr A0 := by
              have h := (List.nodup_append.mp hnL).1
              rw [e0, adr_app] at h
              exact fun h2 => (List.nodup_append.mp h).2.2 g h2 g (by simp [adr]) rfl
            refine k_astore B dX6_take_71 (by decide) (by first | exact kRf_r _ | exact kRf_q _ | exact kRf_n) ?_
            try refine kK.set1 (by first | exact True.intro | rfl | exact kCat_q _) ?_
            refine k_iconst B (v := 0) dX6_take_73 (by decide) ?_
            refine k_istore B dX6_take_74 (by decide) ?_
            try refine kK.set1 (by first | exact True.intro | rfl | exact kCat_q _) ?_
            refine k_aload_n B dX6_take_76 rfl (by first | exact kRf_r _ | exact kRf_q _ | exact kRf_n) ?_
            refine k_ifnonnullR B 86 dX6_take_77 (by decide) ?_
            refine k_aload_n B dX6_take_86 rfl (by first | exact kRf_r _ | exact kRf_q _ | exact kRf_n) ?_
            refine k_aload B dX6_take_87 rfl (by first | exact kRf_r _ | exact kRf_q _ | exact kRf_n) ?_
            refine pf_X6_22 B dX6_take_89 hg1 rfl (by first | exact kRf_r _ | exact kRf_q _ | exact kRf_n) ?_
            refine k_aload B dX6_take_92 rfl (by first | exact kRf_r _ | exact kRf_q _ | exact kRf_n) ?_
            refine k_astore_n B dX6_take_94 (by decide) (by first | exact kRf_r _ | exact kRf_q _ | exact kRf_n) ?_
            try refine kK.set1 (by first | exact True.intro | rfl | exact kCat_q _) ?_
            refine kK.sub (L2 := [some (.ref ρ), some (.int (nI w)), some (va_rf (hdA L)), some (.ref b), some (.ref a), some (.int (nI 0)), some (.ref b)]) ⟨Or.inr rfl, Or.inr rfl, Or.inr rfl, Or.inr rfl, Or.inr rfl, Or.inr rfl, Or.inr rfl, trivial⟩ ?_
            have hfin := fin (A ++ [(b, pPart r x)]) ((a, pLess r x) :: t) (kUp (kUp (kUp σ a (pE (pLess r x) (hdO t none))) b (pE (pPart r x) none)) g (pE pg (some b))) (hdA L) 0 none (some (.ref b))
            rw [show lsA (A ++ [(b, pPart r x)]) = some b from lsA_snoc _ _ _] at hfin
            refine hfin (kUp_o (Ne.symm hgρ) hρ1) ?_ ?_ ?_ ?_ ?_ ?_ ?_ ?_ ?_ ?_ ?_ ?_ ?_
            · rw [e0, List.append_assoc]
              exact pSeg_app.mpr ⟨pSeg_up k1 hnA0, kUp_eq, kUp_o (Ne.symm hgb) kUp_eq, trivial⟩
            · refine pCh_keep hR1 (fun z hz y hy => kUp_o (fun h => ?_) hy)
              rcases List.mem_cons.mp (show z ∈ a :: adr t from hz) with h2 | h2
              · exact hga (h ▸ h2)
              · exact hgt2 (h ▸ h2)
            · intro _
              rw [hLA, e0]
              cases A0 <;> rfl
            · intro h
              exact absurd h (by simp)
            · rw [adr_app]
              show ((adr A ++ [b]) ++ (a :: adr t)).Nodup
              rw [List.append_assoc]
              refine List.nodup_append.mpr ⟨(List.nodup_append.mp hnL).1, List.nodup_cons.mpr ⟨fun h => by
                rcases List.mem_cons.mp h with h | h
                · exact hab h.symm
                · exact hbt h, (List.nodup_append.mp hnL).2.1⟩, fun y hy z hz h => ?_⟩
              rcases List.mem_cons.mp hz with h2 | h2
              · exact hbA (h2 ▸ h ▸ hy)
              · exact (List.nodup_append.mp hnL).2.2 y hy z h2 h
            · intro z hz
              rw [adr_app] at hz
              rcases List.mem_append.mp hz with h | h
              · rcases List.mem_append.mp h with h | h
                · exact Or.inl (by rw [hLA, adr_app]; exact List.mem_append_left _ h)
                · have : z = b := by simpa [adr] using h
                  exact Or.inr (this ▸ hσb)
              · exact Or.inl (by rw [hLA, adr_app]; exact List.mem_append_right _ h)
            · rw [kCon_app, unS_app]
              show unS (kCon A) + (kUn (pPart r x) + 0) + 0 = w
              rw [hun1]; omega
            · rw [kCon_app, unS_app]
              show unS (kCon A) + (kUn (pPart r x) + 0) ≤ u
              rw [hun1]; omega
            · rw [htk, htk2, kCon_app]; rfl
            · rw [htk, htk2]; rfl
            · intro _
              rw [hLA, lsA_app _ _ (by simp)]
              cases t with
              | nil => rfl
              | cons t1 t2 => rfl
            · exact hO1.tr (kOut.up (Or.inr (by rw [hLA, adr_app]; exact List.mem_append_left _ hgA)))
            · exact hF1.tr (kFr.up hg1 (Or.inl rfl))
      · -- the whole portion is taken
        have hle : kUn r ≤ w - unS (kCon A) := by
          rcases Nat.lt_or_ge (w - unS (kCon A)) (kUn r) with h | h
          · exact absurd ((nI_ltI (by omega) (show kUn r < 2 ^ 31 by omega)).mpr h) c28
          · exact h
        refine k_iload B dX6_take_31 rfl ?_
        refine k_aload B dX6_take_33 rfl (by first | exact kRf_r _ | exact kRf_q _ | exact kRf_n) ?_
        refine gf_X6_27 B dX6_take_35 haσ rfl ?_
        refine k_isub B dX6_take_38 ?_
        refine kK.rei (y := nI (w - unS (kCon (A ++ [(a, r)])))) (by
          rw [kCon_app, unS_app]
          show nI _ - nI (kUn r) = nI (w - (unS (kCon A) + (kUn r + 0)))
          rw [pk_sub hle]
          congr 1
          omega) ?_
        refine k_istore B dX6_take_39 (by decide) ?_
        try refine kK.set1 (by first | exact True.intro | rfl | exact kCat_q _) ?_
        refine k_aload B dX6_take_41 rfl (by first | exact kRf_r _ | exact kRf_q _ | exact kRf_n) ?_
        refine k_astore_n B dX6_take_43 (by decide) (by first | exact kRf_r _ | exact kRf_q _ | exact kRf_n) ?_
        try refine kK.set1 (by first | exact True.intro | rfl | exact kCat_q _) ?_
        refine k_aload B dX6_take_44 rfl (by first | exact kRf_r _ | exact kRf_q _ | exact kRf_n) ?_
        refine gf_X6_22 B dX6_take_46 haσ rfl ?_
        refine k_astore B dX6_take_49 (by decide) (by first | exact kRf_r _ | exact kRf_q _ | exact kRf_n) ?_
        try refine kK.set1 (by first | exact True.intro | rfl | exact kCat_q _) ?_
        refine k_goto B 16 dX6_take_51 (by decide) ?_
        have hih := ih (A ++ [(a, r)]) (by rw [hLA, List.append_assoc]; rfl) (by
          rw [kCon_app, unS_app]
          show unS (kCon A) + (kUn r + 0) ≤ w
          omega) (by
          rw [htk, show kCon ((a, r) :: t) = r :: kCon t from rfl, tkS_cons_le hle, kCon_app, unS_app, show unS (kCon [(a, r)]) = kUn r from (by simp [kCon, unS]), show w - (unS (kCon A) + kUn r) = w - unS (kCon A) - kUn r by omega]
          simp [kCon])
        rw [show lsA (A ++ [(a, r)]) = some a from lsA_snoc _ _ _, ← hdO_n t] at hih
        exact hih
  refine k_aload_n B dX6_take_0 rfl (by first | exact kRf_r _ | exact kRf_q _ | exact kRf_n) ?_
  refine gf_X6_15 B dX6_take_1 hρ rfl ?_
  refine k_astore_n B dX6_take_4 (by decide) (by first | exact kRf_r _ | exact kRf_q _ | exact kRf_n) ?_
  try refine kK.set1 (by first | exact True.intro | rfl | exact kCat_q _) ?_
  refine k_null B dX6_take_5 ?_
  refine k_astore_n B dX6_take_6 (by decide) (by first | exact kRf_r _ | exact kRf_q _ | exact kRf_n) ?_
  try refine kK.set1 (by first | exact True.intro | rfl | exact kCat_q _) ?_
  refine k_aload_n B dX6_take_7 rfl (by first | exact kRf_r _ | exact kRf_q _ | exact kRf_n) ?_
  refine gf_X6_15 B dX6_take_8 hρ rfl ?_
  refine k_astore B dX6_take_11 (by decide) (by first | exact kRf_r _ | exact kRf_q _ | exact kRf_n) ?_
  try refine kK.set1 (by first | exact True.intro | rfl | exact kCat_q _) ?_
  refine k_iload_n B dX6_take_13 rfl ?_
  refine k_istore B dX6_take_14 (by decide) ?_
  try refine kK.set1 (by first | exact True.intro | rfl | exact kCat_q _) ?_
  refine loop L [] rfl (by show 0 ≤ w; omega) ?_
  simp [kCon, unS]
end RowT
