theorem lb_pos {lb tr rc : Int32} (h : lbOk lb tr rc) : lb + 1 ≤ 0 ↔ lb = -1 := by
  rcases h.1 with q | q | q | q <;> subst q <;> decide
theorem lb_one {lb tr rc : Int32} (h : lbOk lb tr rc) : lb + 1 = 1 ↔ lb = 0 := by
  rcases h.1 with q | q | q | q <;> subst q <;> decide
theorem lb_two {lb tr rc : Int32} (h : lbOk lb tr rc) : lb + 1 = 2 ↔ lb = 1 := by
  rcases h.1 with q | q | q | q <;> subst q <;> decide
theorem hW_r {lb tr rc : Int32} (h : lbOk lb tr rc) (h0 : rc = 0) : hW lb tr rc + 100 = hW lb tr 1 := by
  subst h0
  obtain ⟨h1, h2, -⟩ := h
  rcases h1 with rfl | rfl | rfl | rfl <;> rcases h2 with rfl | rfl <;> decide
theorem hW_l {w : Nat} (hw : w < 3) (d : Bool) : (0 : Int32) + ((1 + nI w) + (if d = true then 10 else 0)) = hW (nI w) (bI d) 0 := by
  have : w = 0 ∨ w = 1 ∨ w = 2 := by omega
  rcases this with q | q | q <;> subst q <;> cases d <;> decide
set_option maxRecDepth 100000 in
theorem or64 : ∀ n, n < 64 → ∀ j, j < 6 → ¬ (nI n &&& bitI (nI j) = 0) → nI n ||| bitI (nI j) = nI n := by decide +kernel
theorem fbN_s {z : kSt} {bit : Int32} {n : Nat} : fbN z bit (n + 1) = fbN z bit n + (if fbB z bit n = true then 1 else 0) := rfl
section OfLots
variable {l : Launch} {D : va_G} {σ : kS} {aO ac ap aw ah : Nat} {z : kSt} {J : List kJe} {F : kF}
set_option maxHeartbeats 4000000 in
set_option maxRecDepth 100000 in
theorem c_L_ofLots (hl : l.stackTraces = false) (hs : sOk z) (hz : zI z) (hJ : jR z J) (hW9 : lW D aO ac ap aw ah z J F σ) {x y : Nat} (hx : x < 2 ^ 30) (hy : y < 2 ^ 30) : kMh hL_ofLots l D yL_ofLots 10 120 700 [.ref aO, .int (nI x), .int (nI y), .ref ac, .ref ah] σ (lPs D aO ac ap aw ah z F) (fun _ => False) := by
  refine kM_of (L := [some (.ref aO), some (.int (nI x)), some (.int (nI y)), some (.ref ac), some (.ref ah), none, none, none, none, none, none, none]) (by decide +kernel) hl (List.forall_mem_cons.mpr ⟨rfl, (List.forall_mem_cons.mpr ⟨rfl, (List.forall_mem_cons.mpr ⟨rfl, (List.forall_mem_cons.mpr ⟨rfl, (List.forall_mem_cons.mpr ⟨rfl, (fun _ h => absurd h List.not_mem_nil)⟩)⟩)⟩)⟩)⟩) (Nat.le_of_ble_eq_true rfl) rfl ?_
  intro p e s m args below meth c B hr hex hnm
  have B : kB p l s m args meth c D (kA σ s.heap.size) 12 cL_ofLots RL := B
  obtain ⟨h, fc, fp, fw, fh, ha, hcA, hpA, hwA, hhA⟩ := id hW9
  obtain ⟨c0, c1, c2, c3, c4, c5, c6, c7⟩ := id hcA
  have h40 := hs.2.2.2.1.1
  refine k_iload_n B dL_ofLots_0 rfl ?_
  refine k_iconst B (v := 5) dL_ofLots_1 (by decide) ?_
  refine k_irem B dL_ofLots_2 (by decide) ?_
  refine kK.rei (y := nI (x % 5)) (nI_rem (b := 5) (by omega) (by decide) (by decide)) ?_
  by_cases hx4 : x % 5 = 4
  · rw [hx4]
    obtain ⟨j, hj⟩ : ∃ j, j = y % 6 := ⟨_, rfl⟩
    have hj6 : j < 6 := by omega
    obtain ⟨n, hn, en⟩ := hz.2.1
    have gg : gForbid z (nI j) = gSt (decide (sFb z &&& bitI (nI j) = 0)) := gIx_p ⟨nI_pos' (by omega), nI_lt hj6 (by decide)⟩
    by_cases hw : sFb z &&& bitI (nI j) = 0
    · have g0 : gForbid z (nI j) = none := by rw [gg, decide_eq_true hw]; rfl
      have hb : ¬ ((sFb z >>> (nI j &&& 31)) &&& 1 = 1) := fun q => (bit_t _ (by omega)).mp q hw
      have hs2 : sOk (nForbid z (nI j)) := ok_forbid hs
      have hz2 : zI (nForbid z (nI j)) := zI_forbid hz hj6
      have hJ2 : jR (nForbid z (nI j)) J := jR_same hJ rfl rfl rfl
      refine k_istore B dL_ofLots_3 (by decide) ?_
      try refine kK.set1 (by first | exact True.intro | rfl | exact kCat_q _) ?_
      refine k_iload B dL_ofLots_5 rfl ?_
      refine k_iconst B (v := 4) dL_ofLots_7 (by decide) ?_
      refine k_icmp_ne B 196 dL_ofLots_8 (by decide) (fun c9 => (c9 (rfl)).elim) (fun _ => ?_)
      refine k_iload_n B dL_ofLots_11 rfl ?_
      refine k_bipush B (v := 6) dL_ofLots_12 (by decide) ?_
      refine k_irem B dL_ofLots_14 (by decide) ?_
      refine kK.rei (y := nI j) (by rw [hj]; exact nI_rem (b := 6) (by omega) (by decide) (by decide)) ?_
      refine k_istore B dL_ofLots_15 (by decide) ?_
      try refine kK.set1 (by first | exact True.intro | rfl | exact kCat_q _) ?_
      refine k_aload_n B dL_ofLots_17 rfl (by first | exact kRf_r _ | exact kRf_q _ | exact kRf_n) ?_
      refine k_iconst B (v := 3) dL_ofLots_18 (by decide) ?_
      refine k_ald B 3 dL_ofLots_19 ha.1 (by rfl) (by first | omega | decide) (by decide) (c3) ?_
      refine k_iload B dL_ofLots_20 rfl ?_
      refine k_ishr B dL_ofLots_22 ?_
      refine k_iconst B (v := 1) dL_ofLots_23 (by decide) ?_
      refine k_iand B dL_ofLots_24 ?_
      refine k_iconst B (v := 1) dL_ofLots_25 (by decide) ?_
      refine k_icmp_ne B 33 dL_ofLots_26 (by decide) (fun _ => ?_) (fun c9 => absurd c9 (hb))
      refine k_iconst B (v := 0) dL_ofLots_33 (by decide) ?_
      refine k_istore B dL_ofLots_34 (by decide) ?_
      try refine kK.set1 (by first | exact True.intro | rfl | exact kCat_q _) ?_
      refine k_aload_n B dL_ofLots_36 rfl (by first | exact kRf_r _ | exact kRf_q _ | exact kRf_n) ?_
      refine k_iconst B (v := 3) dL_ofLots_37 (by decide) ?_
      refine k_iload B dL_ofLots_38 rfl ?_
      refine k_iconst B (v := 0) dL_ofLots_40 (by decide) ?_
      refine cl_L_90 B (c_L_asks3 hl hs h) dL_ofLots_41 (by first | exact Nat.le_of_ble_eq_true rfl | omega | (simp only [kR, Value.category, kCat_q, List.map, List.sum_cons, List.sum_nil]; omega)) (by first | exact Nat.le_of_ble_eq_true rfl | omega | (simp only [kR, Value.category, kCat_q, List.map, List.sum_cons, List.sum_nil]; omega)) (by first | exact Nat.le_of_ble_eq_true rfl | omega | (simp only [kR, Value.category, kCat_q, List.map, List.sum_cons, List.sum_nil]; omega)) (by first | exact Nat.le_of_ble_eq_true rfl | omega | (simp only [kR, Value.category, kCat_q, List.map, List.sum_cons, List.sum_nil]; omega)) (by first | exact Nat.le_of_ble_eq_true rfl | omega | (simp only [kR, Value.category, kCat_q, List.map, List.sum_cons, List.sum_nil]; omega)) (fun _ hx => hx.elim) (fun v41 s41 hp41 => ?_)
      rcases hp41 with ⟨-, rfl, h2, f2⟩ | ⟨E, hE, -⟩
      · refine kK.rev (y := .int (nI (fbN z (bitI (nI j)) (sLn z)))) rfl ?_
        have a2 := ha.keep f2
        refine k_istore B dL_ofLots_44 (by decide) ?_
        try refine kK.set1 (by first | exact True.intro | rfl | exact kCat_q _) ?_
        refine k_iconst B (v := 0) dL_ofLots_46 (by decide) ?_
        refine k_istore B dL_ofLots_47 (by decide) ?_
        try refine kK.set1 (by first | exact True.intro | rfl | exact kCat_q _) ?_
        refine k_aload_n B dL_ofLots_49 rfl (by first | exact kRf_r _ | exact kRf_q _ | exact kRf_n) ?_
        refine k_iconst B (v := 3) dL_ofLots_50 (by decide) ?_
        refine k_dup2 B dL_ofLots_51 rfl rfl ?_
        refine k_ald B 3 dL_ofLots_52 a2.1 (by rfl) (by first | omega | decide) (by decide) (c3) ?_
        refine k_iconst B (v := 1) dL_ofLots_53 (by decide) ?_
        refine k_iload B dL_ofLots_54 rfl ?_
        refine k_ishl B dL_ofLots_56 ?_
        refine k_ior B dL_ofLots_57 ?_
        refine k_aupG B 3 dL_ofLots_58 a2.1 (by rfl) (by first | omega | decide) (by decide) (fun s58 ha58 ho58 => ?_)
        have a3 := a2.c ho58 ha58
        have h3 := h2.outI a2.1 ho58
        have loop : ∀ (n9 k9 : Nat) (s1 : kS) (f1 : Nat → Int32), k9 + n9 = sLn z → cl9 D aO (nForbid z (nI j)) J F s1 → ar4 D ac ap aw ah (upN fc 3 (sFb z ||| bitI (nI j))) fp fw f1 s1 → (∀ i, i < 40 → f1 i = if i < k9 then hV (fbL z (bitI (nI j)) (sLn z) i) else fh i) → kK p l e (kR 10 120 700) s m args below meth c D (kA σ s.heap.size) 12 (kQ below args s D σ (lPs D aO ac ap aw ah z F) (fun _ => False) 120 700) s1 (4 + 2 * k9) (24 + 12 * k9) 62 [some (.ref aO), some (.int (nI x)), some (.int (nI y)), some (.ref ac), some (.ref ah), none, some (.int (nI j)), some (.int 0), some (.int (nI (fbN z (bitI (nI j)) (sLn z)))), some (.int (nI (fbN z (bitI (nI j)) k9))), some (.int (nI k9)), none] [] := by
          intro n9
          induction n9 with
          | zero =>
            intro k9 s1 f1 hk h1 a1 hf1
            have hk9 : k9 = sLn z := by omega
            subst hk9
            refine k_iload B dL_ofLots_62 rfl ?_
            refine k_aload_n B dL_ofLots_64 rfl (by first | exact kRf_r _ | exact kRf_q _ | exact kRf_n) ?_
            refine k_iconst B (v := 2) dL_ofLots_65 (by decide) ?_
            refine k_ald B 2 dL_ofLots_66 a1.1 (by rfl) (by first | omega | decide) (by decide) ((upN_ne (by decide)).trans c2) ?_
            refine k_icmp_ge B 173 dL_ofLots_67 (by decide) (fun _ => ?_) (fun c9 => (c9 (Int32.le_refl _)).elim)
            refine k_iload B dL_ofLots_173 rfl ?_
            refine k_iload B dL_ofLots_175 rfl ?_
            refine k_if_eq B 185 dL_ofLots_177 (by decide) (fun _ => ?_) (fun c9 => (c9 (rfl)).elim)
            refine k_iload B dL_ofLots_185 rfl ?_
            refine k_icmp_ne B 194 dL_ofLots_187 (by decide) (fun c9 => (c9 (rfl)).elim) (fun _ => ?_)
            refine k_iconst B (v := 1) dL_ofLots_190 (by decide) ?_
            refine k_goto B 195 dL_ofLots_191 (by decide) ?_
            refine k_zret B hr dL_ofLots_195 (by rfl) ?_ (by first | exact Nat.le_of_ble_eq_true rfl | omega | (simp only [kR, Value.category, kCat_q, List.map, List.sum_cons, List.sum_nil]; omega)) (by first | exact Nat.le_of_ble_eq_true rfl | omega | (simp only [kR, Value.category, kCat_q, List.map, List.sum_cons, List.sum_nil]; omega))
            refine ⟨rfl, _, _, hs2, hz2, hJ2, Nat.le_succ _, h1, _, fp, fw, f1, a1, ⟨?_, ?_, ?_, ?_, ?_, ?_, ?_, ?_⟩, hpA, hwA, fun k hk => ?_⟩
            · rw [upN_ne (by decide)]; exact c0
            · rw [upN_ne (by decide)]; exact c1
            · rw [upN_ne (by decide)]; exact c2
            · exact upN_eq
            · rw [upN_ne (by decide)]; exact c4
            · rw [upN_ne (by decide)]; exact c5
            · rw [upN_ne (by decide)]; exact c6
            · rw [upN_ne (by decide)]; exact c7
            · show f1 k = if k < sLn z then hV (fbL z (bitI (nI j)) (sLn z) k) else 0
              rw [hf1 k hk]
              by_cases q : k < sLn z
              · rw [if_pos q, if_pos q]
              · rw [if_neg q, if_neg q, hhA k hk, if_neg q]
          | succ n9 ih =>
            intro k9 s1 f1 hk h1 a1 hf1
            have hk9 : k9 < sLn z := by omega
            have hlb := hs.lb hk9
            have ef : f1 k9 = hV (sLo z k9) := by rw [hf1 k9 (by omega), if_neg (by omega), hhA k9 (by omega), if_pos hk9]
            have e7 : (sLo (nForbid z (nI j)) k9).2.2.1 = (sLo z k9).2.2.1 := by
              show (fbL z (bitI (nI j)) (sLn z) k9).2.2.1 = _
              unfold fbL
              split <;> rfl
            have hk2 : k9 < sLn (nForbid z (nI j)) := hk9
            refine k_iload B dL_ofLots_62 rfl ?_
            refine k_aload_n B dL_ofLots_64 rfl (by first | exact kRf_r _ | exact kRf_q _ | exact kRf_n) ?_
            refine k_iconst B (v := 2) dL_ofLots_65 (by decide) ?_
            refine k_ald B 2 dL_ofLots_66 a1.1 (by rfl) (by first | omega | decide) (by decide) ((upN_ne (by decide)).trans c2) ?_
            refine k_icmp_ge B 173 dL_ofLots_67 (by decide) (fun c9 => absurd c9 (fun q => nI_ge hk9 (by omega) q)) (fun _ => ?_)
            refine k_iload B dL_ofLots_70 rfl ?_
            refine k_if_ne B 173 dL_ofLots_72 (by decide) (fun c9 => (c9 (rfl)).elim) (fun _ => ?_)
            have cont : ∀ fl : Int32, (fl = 1 ∧ fbB z (bitI (nI j)) k9 = true) ∨ (fl = 0 ∧ fbB z (bitI (nI j)) k9 = false) → kK p l e (kR 10 120 700) s m args below meth c D (kA σ s.heap.size) 12 (kQ below args s D σ (lPs D aO ac ap aw ah z F) (fun _ => False) 120 700) s1 (4 + 2 * (k9 + 1)) (24 + 12 * (k9 + 1)) 131 [some (.ref aO), some (.int (nI x)), some (.int (nI y)), some (.ref ac), some (.ref ah), none, some (.int (nI j)), some (.int 0), some (.int (nI (fbN z (bitI (nI j)) (sLn z)))), some (.int (nI (fbN z (bitI (nI j)) k9))), some (.int (nI k9)), none] [.int fl] := by
              intro fl hfl
              rcases hfl with ⟨rfl, hb9⟩ | ⟨rfl, hb9⟩
              · have hb8 := hb9
                unfold fbB rcB at hb8
                simp only [Bool.and_eq_true, Bool.or_eq_true, decide_eq_true_eq] at hb8
                have hr0 := hb8.1.2
                refine k_istore B dL_ofLots_131 (by decide) ?_
                try refine kK.set1 (by first | exact True.intro | rfl | exact kCat_q _) ?_
                refine k_iload B dL_ofLots_133 rfl ?_
                refine k_iload B dL_ofLots_135 rfl ?_
                refine k_if_eq B 144 dL_ofLots_137 (by decide) (fun c9 => absurd c9 (by decide)) (fun _ => ?_)
                refine k_iconst B (v := 1) dL_ofLots_140 (by decide) ?_
                refine k_goto B 145 dL_ofLots_141 (by decide) ?_
                refine k_iadd B dL_ofLots_145 ?_
                refine kK.rei (y := nI (fbN z (bitI (nI j)) (k9 + 1))) (by rw [fbN_s, if_pos hb9]; exact nI_1 _) ?_
                refine k_istore B dL_ofLots_146 (by decide) ?_
                try refine kK.set1 (by first | exact True.intro | rfl | exact kCat_q _) ?_
                refine k_aload B dL_ofLots_148 rfl (by first | exact kRf_r _ | exact kRf_q _ | exact kRf_n) ?_
                refine k_iload B dL_ofLots_150 rfl ?_
                refine k_dup2 B dL_ofLots_152 rfl rfl ?_
                refine k_ald B k9 dL_ofLots_153 a1.2.2.2 (by rfl) (by first | omega | decide) (by decide) (ef) ?_
                refine k_iload B dL_ofLots_154 rfl ?_
                refine k_if_eq B 164 dL_ofLots_156 (by decide) (fun c9 => absurd c9 (by decide)) (fun _ => ?_)
                refine k_bipush B (v := 100) dL_ofLots_159 (by decide) ?_
                refine k_goto B 165 dL_ofLots_161 (by decide) ?_
                refine k_iadd B dL_ofLots_165 ?_
                refine kK.rei (y := hW (sLo z k9).2.2.2.1 (sLo z k9).2.2.2.2.1 1) (hW_r hlb hr0) ?_
                refine k_aupG B k9 dL_ofLots_166 a1.2.2.2 (by rfl) (by first | omega | decide) (by decide) (fun s166 ha166 ho166 => ?_)
                refine k_iincN (y := nI (k9 + 1)) B dL_ofLots_167 rfl (by decide) (nI_1 k9) ?_
                try refine kK.set1 (by first | exact True.intro | rfl | exact kCat_q _) ?_
                refine k_goto B 62 dL_ofLots_170 (by decide) ?_
                refine kK.sub (L2 := [some (.ref aO), some (.int (nI x)), some (.int (nI y)), some (.ref ac), some (.ref ah), none, some (.int (nI j)), some (.int 0), some (.int (nI (fbN z (bitI (nI j)) (sLn z)))), some (.int (nI (fbN z (bitI (nI j)) (k9 + 1)))), some (.int (nI (k9 + 1))), none]) ⟨Or.inr rfl, Or.inr rfl, Or.inr rfl, Or.inr rfl, Or.inr rfl, Or.inl rfl, Or.inr rfl, Or.inr rfl, Or.inr rfl, Or.inr rfl, Or.inr rfl, Or.inl rfl, trivial⟩ ?_
                refine ih (k9 + 1) s166 _ (by omega) (h1.outI a1.2.2.2 ho166) (a1.h ho166 ha166) (fun i hi => ?_)
                by_cases q : i = k9
                · rw [q, upN_eq, if_pos (by omega)]
                  unfold fbL
                  rw [if_pos ⟨hk9, hb9⟩]
                  rfl
                · rw [upN_ne q, hf1 i hi]
                  by_cases q2 : i < k9
                  · rw [if_pos q2, if_pos (by omega)]
                  · rw [if_neg q2, if_neg (by omega)]
              · refine k_istore B dL_ofLots_131 (by decide) ?_
                try refine kK.set1 (by first | exact True.intro | rfl | exact kCat_q _) ?_
                refine k_iload B dL_ofLots_133 rfl ?_
                refine k_iload B dL_ofLots_135 rfl ?_
                refine k_if_eq B 144 dL_ofLots_137 (by decide) (fun _ => ?_) (fun c9 => (c9 (rfl)).elim)
                refine k_iconst B (v := 0) dL_ofLots_144 (by decide) ?_
                refine k_iadd B dL_ofLots_145 ?_
                refine kK.rei (y := nI (fbN z (bitI (nI j)) (k9 + 1))) (by rw [fbN_s, if_neg (by rw [hb9]; decide)]; exact Int32.add_zero _) ?_
                refine k_istore B dL_ofLots_146 (by decide) ?_
                try refine kK.set1 (by first | exact True.intro | rfl | exact kCat_q _) ?_
                refine k_aload B dL_ofLots_148 rfl (by first | exact kRf_r _ | exact kRf_q _ | exact kRf_n) ?_
                refine k_iload B dL_ofLots_150 rfl ?_
                refine k_dup2 B dL_ofLots_152 rfl rfl ?_
                refine k_ald B k9 dL_ofLots_153 a1.2.2.2 (by rfl) (by first | omega | decide) (by decide) (ef) ?_
                refine k_iload B dL_ofLots_154 rfl ?_
                refine k_if_eq B 164 dL_ofLots_156 (by decide) (fun _ => ?_) (fun c9 => (c9 (rfl)).elim)
                refine k_iconst B (v := 0) dL_ofLots_164 (by decide) ?_
                refine k_iadd B dL_ofLots_165 ?_
                refine kK.rei (y := hV (sLo z k9)) (Int32.add_zero _) ?_
                refine k_aupG B k9 dL_ofLots_166 a1.2.2.2 (by rfl) (by first | omega | decide) (by decide) (fun s166 ha166 ho166 => ?_)
                refine k_iincN (y := nI (k9 + 1)) B dL_ofLots_167 rfl (by decide) (nI_1 k9) ?_
                try refine kK.set1 (by first | exact True.intro | rfl | exact kCat_q _) ?_
                refine k_goto B 62 dL_ofLots_170 (by decide) ?_
                refine kK.sub (L2 := [some (.ref aO), some (.int (nI x)), some (.int (nI y)), some (.ref ac), some (.ref ah), none, some (.int (nI j)), some (.int 0), some (.int (nI (fbN z (bitI (nI j)) (sLn z)))), some (.int (nI (fbN z (bitI (nI j)) (k9 + 1)))), some (.int (nI (k9 + 1))), none]) ⟨Or.inr rfl, Or.inr rfl, Or.inr rfl, Or.inr rfl, Or.inr rfl, Or.inl rfl, Or.inr rfl, Or.inr rfl, Or.inr rfl, Or.inr rfl, Or.inr rfl, Or.inl rfl, trivial⟩ ?_
                refine ih (k9 + 1) s166 _ (by omega) (h1.outI a1.2.2.2 ho166) (a1.h ho166 ha166) (fun i hi => ?_)
                by_cases q : i = k9
                · rw [q, upN_eq, if_pos (by omega)]
                  unfold fbL
                  rw [if_neg (fun q3 => by rw [hb9] at q3; exact absurd q3.2 (by decide))]
                · rw [upN_ne q, hf1 i hi]
                  by_cases q2 : i < k9
                  · rw [if_pos q2, if_pos (by omega)]
                  · rw [if_neg q2, if_neg (by omega)]
            have no : fbB z (bitI (nI j)) k9 = false → kK p l e (kR 10 120 700) s m args below meth c D (kA σ s.heap.size) 12 (kQ below args s D σ (lPs D aO ac ap aw ah z F) (fun _ => False) 120 700) s1 (4 + 2 * (k9 + 1)) (24 + 12 * (k9 + 1)) 130 [some (.ref aO), some (.int (nI x)), some (.int (nI y)), some (.ref ac), some (.ref ah), none, some (.int (nI j)), some (.int 0), some (.int (nI (fbN z (bitI (nI j)) (sLn z)))), some (.int (nI (fbN z (bitI (nI j)) k9))), some (.int (nI k9)), none] [] := by
              intro hb9
              refine k_iconst B (v := 0) dL_ofLots_130 (by decide) ?_
              exact cont 0 (Or.inr ⟨rfl, hb9⟩)
            have at116 : ((sLo z k9).2.2.2.1 = 0 ∨ (sLo z k9).2.2.2.1 = 1) → ¬ ((sLo z k9).2.2.1 &&& bitI (nI j) = 0) → kK p l e (kR 10 120 700) s m args below meth c D (kA σ s.heap.size) 12 (kQ below args s D σ (lPs D aO ac ap aw ah z F) (fun _ => False) 120 700) s1 (4 + 2 * (k9 + 1)) (24 + 12 * (k9 + 1)) 116 [some (.ref aO), some (.int (nI x)), some (.int (nI y)), some (.ref ac), some (.ref ah), none, some (.int (nI j)), some (.int 0), some (.int (nI (fbN z (bitI (nI j)) (sLn z)))), some (.int (nI (fbN z (bitI (nI j)) k9))), some (.int (nI k9)), none] [] := by
              intro hl9 ht9
              refine k_aload B dL_ofLots_116 rfl (by first | exact kRf_r _ | exact kRf_q _ | exact kRf_n) ?_
              refine k_iload B dL_ofLots_118 rfl ?_
              refine k_ald B k9 dL_ofLots_120 a1.2.2.2 (by rfl) (by first | omega | decide) (by decide) (ef) ?_
              refine k_bipush B (v := 100) dL_ofLots_121 (by decide) ?_
              refine k_icmp_ge B 130 dL_ofLots_123 (by decide) (fun c123 => ?_) (fun c123 => ?_)
              · have r1 := (hW_4 hlb).mp c123
                exact no (by unfold fbB rcB; rw [r1]; rw [show decide ((1 : Int32) = 0) = false by decide, Bool.and_false, Bool.false_and])
              · have r0 : (sLo z k9).2.2.2.2.2 = 0 := hlb.2.2.elim id (fun q => absurd ((hW_4 hlb).mpr q) c123)
                refine k_iconst B (v := 1) dL_ofLots_126 (by decide) ?_
                refine k_goto B 131 dL_ofLots_127 (by decide) ?_
                refine cont 1 (Or.inl ⟨rfl, ?_⟩)
                unfold fbB rcB
                rw [decide_eq_true r0, decide_eq_false ht9]
                rcases hl9 with q | q
                · rw [decide_eq_true q]; simp
                · rw [decide_eq_true q]; simp
            by_cases ht : (sLo z k9).2.2.1 &&& bitI (nI j) = 0
            · refine k_aload_n B dL_ofLots_75 rfl (by first | exact kRf_r _ | exact kRf_q _ | exact kRf_n) ?_
              refine k_iload B dL_ofLots_76 rfl ?_
              refine k_bipush B (v := 7) dL_ofLots_78 (by decide) ?_
              refine cl_L_36 B (c_X9_lotOf hl hs2 h1) (h1.rv.choose_spec) dL_ofLots_80 (by first | exact Nat.le_of_ble_eq_true rfl | omega | (simp only [kR, Value.category, kCat_q, List.map, List.sum_cons, List.sum_nil]; omega)) (by first | exact Nat.le_of_ble_eq_true rfl | omega | (simp only [kR, Value.category, kCat_q, List.map, List.sum_cons, List.sum_nil]; omega)) (by first | exact Nat.le_of_ble_eq_true rfl | omega | (simp only [kR, Value.category, kCat_q, List.map, List.sum_cons, List.sum_nil]; omega)) (by first | exact Nat.le_of_ble_eq_true rfl | omega | (simp only [kR, Value.category, kCat_q, List.map, List.sum_cons, List.sum_nil]; omega)) (by first | exact Nat.le_of_ble_eq_true rfl | omega | (simp only [kR, Value.category, kCat_q, List.map, List.sum_cons, List.sum_nil]; omega)) (noE (gLf hk2 hs2.2.2.2.1.1 ⟨by decide, by decide⟩)) (rdI (rLo7 (Nat.lt_of_lt_of_le hk2 hs2.2.2.2.1.1)) ?_)
              refine kK.rei (y := (sLo z k9).2.2.1) (e7) ?_
              refine k_iload B dL_ofLots_83 rfl ?_
              refine k_ishr B dL_ofLots_85 ?_
              refine k_iconst B (v := 1) dL_ofLots_86 (by decide) ?_
              refine k_iand B dL_ofLots_87 ?_
              refine k_iconst B (v := 1) dL_ofLots_88 (by decide) ?_
              refine k_icmp_ne B 130 dL_ofLots_89 (by decide) (fun _ => ?_) (fun c9 => absurd c9 (fun q => (bit_t _ (by omega)).mp q ht))
              exact no (by unfold fbB rcB; rw [decide_eq_true ht]; simp)
            · refine k_aload_n B dL_ofLots_75 rfl (by first | exact kRf_r _ | exact kRf_q _ | exact kRf_n) ?_
              refine k_iload B dL_ofLots_76 rfl ?_
              refine k_bipush B (v := 7) dL_ofLots_78 (by decide) ?_
              refine cl_L_36 B (c_X9_lotOf hl hs2 h1) (h1.rv.choose_spec) dL_ofLots_80 (by first | exact Nat.le_of_ble_eq_true rfl | omega | (simp only [kR, Value.category, kCat_q, List.map, List.sum_cons, List.sum_nil]; omega)) (by first | exact Nat.le_of_ble_eq_true rfl | omega | (simp only [kR, Value.category, kCat_q, List.map, List.sum_cons, List.sum_nil]; omega)) (by first | exact Nat.le_of_ble_eq_true rfl | omega | (simp only [kR, Value.category, kCat_q, List.map, List.sum_cons, List.sum_nil]; omega)) (by first | exact Nat.le_of_ble_eq_true rfl | omega | (simp only [kR, Value.category, kCat_q, List.map, List.sum_cons, List.sum_nil]; omega)) (by first | exact Nat.le_of_ble_eq_true rfl | omega | (simp only [kR, Value.category, kCat_q, List.map, List.sum_cons, List.sum_nil]; omega)) (noE (gLf hk2 hs2.2.2.2.1.1 ⟨by decide, by decide⟩)) (rdI (rLo7 (Nat.lt_of_lt_of_le hk2 hs2.2.2.2.1.1)) ?_)
              refine kK.rei (y := (sLo z k9).2.2.1) (e7) ?_
              refine k_iload B dL_ofLots_83 rfl ?_
              refine k_ishr B dL_ofLots_85 ?_
              refine k_iconst B (v := 1) dL_ofLots_86 (by decide) ?_
              refine k_iand B dL_ofLots_87 ?_
              refine k_iconst B (v := 1) dL_ofLots_88 (by decide) ?_
              refine k_icmp_ne B 130 dL_ofLots_89 (by decide) (fun c9 => (c9 ((bit_t _ (by omega)).mpr ht)).elim) (fun _ => ?_)
              refine k_aload B dL_ofLots_92 rfl (by first | exact kRf_r _ | exact kRf_q _ | exact kRf_n) ?_
              refine k_iload B dL_ofLots_94 rfl ?_
              refine k_ald B k9 dL_ofLots_96 a1.2.2.2 (by rfl) (by first | omega | decide) (by decide) (ef) ?_
              refine k_bipush B (v := 10) dL_ofLots_97 (by decide) ?_
              refine k_irem B dL_ofLots_99 (by decide) ?_
              refine kK.rei (y := (sLo z k9).2.2.2.1 + 1) (hW_1 hlb) ?_
              refine k_iconst B (v := 1) dL_ofLots_100 (by decide) ?_
              refine k_icmp_eq B 116 dL_ofLots_101 (by decide) (fun c101 => ?_) (fun c101 => ?_)
              · exact at116 (Or.inl ((lb_one hlb).mp c101)) ht
              · refine k_aload B dL_ofLots_104 rfl (by first | exact kRf_r _ | exact kRf_q _ | exact kRf_n) ?_
                refine k_iload B dL_ofLots_106 rfl ?_
                refine k_ald B k9 dL_ofLots_108 a1.2.2.2 (by rfl) (by first | omega | decide) (by decide) (ef) ?_
                refine k_bipush B (v := 10) dL_ofLots_109 (by decide) ?_
                refine k_irem B dL_ofLots_111 (by decide) ?_
                refine kK.rei (y := (sLo z k9).2.2.2.1 + 1) (hW_1 hlb) ?_
                refine k_iconst B (v := 2) dL_ofLots_112 (by decide) ?_
                refine k_icmp_ne B 130 dL_ofLots_113 (by decide) (fun c113 => ?_) (fun c113 => ?_)
                · refine no ?_
                  unfold fbB rcB
                  rw [decide_eq_false (fun q => c101 ((lb_one hlb).mpr q)), decide_eq_false (fun q => c113 ((lb_two hlb).mpr q))]
                  simp
                · exact at116 (Or.inr ((lb_two hlb).mp c113)) ht
        refine k_iconst B (v := 0) dL_ofLots_59 (by decide) ?_
        refine k_istore B dL_ofLots_60 (by decide) ?_
        try refine kK.set1 (by first | exact True.intro | rfl | exact kCat_q _) ?_
        refine kK.sub (L2 := [some (.ref aO), some (.int (nI x)), some (.int (nI y)), some (.ref ac), some (.ref ah), none, some (.int (nI j)), some (.int 0), some (.int (nI (fbN z (bitI (nI j)) (sLn z)))), some (.int (nI (fbN z (bitI (nI j)) 0))), some (.int (nI 0)), none]) ⟨Or.inr rfl, Or.inr rfl, Or.inr rfl, Or.inr rfl, Or.inr rfl, Or.inl rfl, Or.inr rfl, Or.inr rfl, Or.inr rfl, Or.inr ((congrArg (fun q => some (Value.int q)) nI_0)), Or.inr ((congrArg (fun q => some (Value.int q)) nI_0)), Or.inl rfl, trivial⟩ ?_
        exact kK.widen (by omega) (by omega) (loop (sLn z) 0 s58 fh (by omega) h3 a3 (fun i hi => (if_neg (Nat.not_lt_zero i)).symm))
      · rw [g0] at hE; cases hE
    · have g0 : gForbid z (nI j) = some eS := by rw [gg, decide_eq_false hw]; rfl
      have hb : (sFb z >>> (nI j &&& 31)) &&& 1 = 1 := (bit_t _ (by omega)).mpr hw
      have eor : sFb z ||| bitI (nI j) = sFb z := by rw [en] at hw ⊢; exact or64 n hn j hj6 hw
      refine k_istore B dL_ofLots_3 (by decide) ?_
      try refine kK.set1 (by first | exact True.intro | rfl | exact kCat_q _) ?_
      refine k_iload B dL_ofLots_5 rfl ?_
      refine k_iconst B (v := 4) dL_ofLots_7 (by decide) ?_
      refine k_icmp_ne B 196 dL_ofLots_8 (by decide) (fun c9 => (c9 (rfl)).elim) (fun _ => ?_)
      refine k_iload_n B dL_ofLots_11 rfl ?_
      refine k_bipush B (v := 6) dL_ofLots_12 (by decide) ?_
      refine k_irem B dL_ofLots_14 (by decide) ?_
      refine kK.rei (y := nI j) (by rw [hj]; exact nI_rem (b := 6) (by omega) (by decide) (by decide)) ?_
      refine k_istore B dL_ofLots_15 (by decide) ?_
      try refine kK.set1 (by first | exact True.intro | rfl | exact kCat_q _) ?_
      refine k_aload_n B dL_ofLots_17 rfl (by first | exact kRf_r _ | exact kRf_q _ | exact kRf_n) ?_
      refine k_iconst B (v := 3) dL_ofLots_18 (by decide) ?_
      refine k_ald B 3 dL_ofLots_19 ha.1 (by rfl) (by first | omega | decide) (by decide) (c3) ?_
      refine k_iload B dL_ofLots_20 rfl ?_
      refine k_ishr B dL_ofLots_22 ?_
      refine k_iconst B (v := 1) dL_ofLots_23 (by decide) ?_
      refine k_iand B dL_ofLots_24 ?_
      refine k_iconst B (v := 1) dL_ofLots_25 (by decide) ?_
      refine k_icmp_ne B 33 dL_ofLots_26 (by decide) (fun c9 => (c9 (hb)).elim) (fun _ => ?_)
      refine k_iconst B (v := 1) dL_ofLots_29 (by decide) ?_
      refine k_goto B 34 dL_ofLots_30 (by decide) ?_
      refine k_istore B dL_ofLots_34 (by decide) ?_
      try refine kK.set1 (by first | exact True.intro | rfl | exact kCat_q _) ?_
      refine k_aload_n B dL_ofLots_36 rfl (by first | exact kRf_r _ | exact kRf_q _ | exact kRf_n) ?_
      refine k_iconst B (v := 3) dL_ofLots_37 (by decide) ?_
      refine k_iload B dL_ofLots_38 rfl ?_
      refine k_iconst B (v := 0) dL_ofLots_40 (by decide) ?_
      refine cl_L_90 B (c_L_asks3 hl hs h) dL_ofLots_41 (by first | exact Nat.le_of_ble_eq_true rfl | omega | (simp only [kR, Value.category, kCat_q, List.map, List.sum_cons, List.sum_nil]; omega)) (by first | exact Nat.le_of_ble_eq_true rfl | omega | (simp only [kR, Value.category, kCat_q, List.map, List.sum_cons, List.sum_nil]; omega)) (by first | exact Nat.le_of_ble_eq_true rfl | omega | (simp only [kR, Value.category, kCat_q, List.map, List.sum_cons, List.sum_nil]; omega)) (by first | exact Nat.le_of_ble_eq_true rfl | omega | (simp only [kR, Value.category, kCat_q, List.map, List.sum_cons, List.sum_nil]; omega)) (by first | exact Nat.le_of_ble_eq_true rfl | omega | (simp only [kR, Value.category, kCat_q, List.map, List.sum_cons, List.sum_nil]; omega)) (fun _ hx => hx.elim) (fun v41 s41 hp41 => ?_)
      rcases hp41 with ⟨g, -⟩ | ⟨E, hE, rfl, e41⟩
      · rw [g0] at g; cases g
      · rw [g0] at hE
        cases hE
        rw [e41]
        refine kK.rev (y := .int (-70008)) (by rw [aCd_S]) ?_
        refine k_istore B dL_ofLots_44 (by decide) ?_
        try refine kK.set1 (by first | exact True.intro | rfl | exact kCat_q _) ?_
        refine k_iconst B (v := 0) dL_ofLots_46 (by decide) ?_
        refine k_istore B dL_ofLots_47 (by decide) ?_
        try refine kK.set1 (by first | exact True.intro | rfl | exact kCat_q _) ?_
        refine k_aload_n B dL_ofLots_49 rfl (by first | exact kRf_r _ | exact kRf_q _ | exact kRf_n) ?_
        refine k_iconst B (v := 3) dL_ofLots_50 (by decide) ?_
        refine k_dup2 B dL_ofLots_51 rfl rfl ?_
        refine k_ald B 3 dL_ofLots_52 ha.1 (by rfl) (by first | omega | decide) (by decide) (c3) ?_
        refine k_iconst B (v := 1) dL_ofLots_53 (by decide) ?_
        refine k_iload B dL_ofLots_54 rfl ?_
        refine k_ishl B dL_ofLots_56 ?_
        refine k_ior B dL_ofLots_57 ?_
        refine kK.rei (y := sFb z) (eor) ?_
        refine k_aupG B 3 dL_ofLots_58 ha.1 (by rfl) (by first | omega | decide) (by decide) (fun s58 ha58 ho58 => ?_)
        refine k_iconst B (v := 0) dL_ofLots_59 (by decide) ?_
        refine k_istore B dL_ofLots_60 (by decide) ?_
        try refine kK.set1 (by first | exact True.intro | rfl | exact kCat_q _) ?_
        have a3 := ha.c ho58 ha58
        have h3 := h.outI ha.1 ho58
        have hW3 : lW D aO ac ap aw ah z J F s58 := by
          refine ⟨h3, _, fp, fw, fh, a3, ⟨?_, ?_, ?_, ?_, ?_, ?_, ?_, ?_⟩, hpA, hwA, hhA⟩
          · rw [upN_ne (by decide)]; exact c0
          · rw [upN_ne (by decide)]; exact c1
          · rw [upN_ne (by decide)]; exact c2
          · exact upN_eq
          · rw [upN_ne (by decide)]; exact c4
          · rw [upN_ne (by decide)]; exact c5
          · rw [upN_ne (by decide)]; exact c6
          · rw [upN_ne (by decide)]; exact c7
        by_cases h0 : sLn z = 0
        · refine k_iload B dL_ofLots_62 rfl ?_
          refine k_aload_n B dL_ofLots_64 rfl (by first | exact kRf_r _ | exact kRf_q _ | exact kRf_n) ?_
          refine k_iconst B (v := 2) dL_ofLots_65 (by decide) ?_
          refine k_ald B 2 dL_ofLots_66 a3.1 (by rfl) (by first | omega | decide) (by decide) ((upN_ne (by decide)).trans c2) ?_
          refine k_icmp_ge B 173 dL_ofLots_67 (by decide) (fun _ => ?_) (fun c9 => (c9 (by rw [h0]; decide)).elim)
          refine k_iload B dL_ofLots_173 rfl ?_
          refine k_iload B dL_ofLots_175 rfl ?_
          refine k_if_eq B 185 dL_ofLots_177 (by decide) (fun c9 => absurd c9 (by decide)) (fun _ => ?_)
          refine k_ldc B qw628 dL_ofLots_180 ?_
          refine k_goto B 187 dL_ofLots_182 (by decide) ?_
          refine k_icmp_ne B 194 dL_ofLots_187 (by decide) (fun c9 => (c9 (rfl)).elim) (fun _ => ?_)
          refine k_iconst B (v := 1) dL_ofLots_190 (by decide) ?_
          refine k_goto B 195 dL_ofLots_191 (by decide) ?_
          refine k_zret B hr dL_ofLots_195 (by rfl) ?_ (by first | exact Nat.le_of_ble_eq_true rfl | omega | (simp only [kR, Value.category, kCat_q, List.map, List.sum_cons, List.sum_nil]; omega)) (by first | exact Nat.le_of_ble_eq_true rfl | omega | (simp only [kR, Value.category, kCat_q, List.map, List.sum_cons, List.sum_nil]; omega))
          exact ⟨rfl, z, J, hs, hz, hJ, by omega, hW3⟩
        · refine k_iload B dL_ofLots_62 rfl ?_
          refine k_aload_n B dL_ofLots_64 rfl (by first | exact kRf_r _ | exact kRf_q _ | exact kRf_n) ?_
          refine k_iconst B (v := 2) dL_ofLots_65 (by decide) ?_
          refine k_ald B 2 dL_ofLots_66 a3.1 (by rfl) (by first | omega | decide) (by decide) ((upN_ne (by decide)).trans c2) ?_
          refine k_icmp_ge B 173 dL_ofLots_67 (by decide) (fun c9 => absurd c9 (fun q => nI_nle (n := sLn z) (by omega) (by omega) q)) (fun _ => ?_)
          refine k_iload B dL_ofLots_70 rfl ?_
          refine k_if_ne B 173 dL_ofLots_72 (by decide) (fun _ => ?_) (fun c9 => absurd c9 (by decide))
          refine k_iload B dL_ofLots_173 rfl ?_
          refine k_iload B dL_ofLots_175 rfl ?_
          refine k_if_eq B 185 dL_ofLots_177 (by decide) (fun c9 => absurd c9 (by decide)) (fun _ => ?_)
          refine k_ldc B qw628 dL_ofLots_180 ?_
          refine k_goto B 187 dL_ofLots_182 (by decide) ?_
          refine k_icmp_ne B 194 dL_ofLots_187 (by decide) (fun c9 => (c9 (rfl)).elim) (fun _ => ?_)
          refine k_iconst B (v := 1) dL_ofLots_190 (by decide) ?_
          refine k_goto B 195 dL_ofLots_191 (by decide) ?_
          refine k_zret B hr dL_ofLots_195 (by rfl) ?_ (by first | exact Nat.le_of_ble_eq_true rfl | omega | (simp only [kR, Value.category, kCat_q, List.map, List.sum_cons, List.sum_nil]; omega)) (by first | exact Nat.le_of_ble_eq_true rfl | omega | (simp only [kR, Value.category, kCat_q, List.map, List.sum_cons, List.sum_nil]; omega))
          exact ⟨rfl, z, J, hs, hz, hJ, by omega, hW3⟩
  · have hne : ¬ nI (x % 5) = 4 := fun q => hx4 ((nI_eq (b := 4) (by omega) (by decide)).mp q)
    by_cases h0 : sLn z = 0
    · refine k_istore B dL_ofLots_3 (by decide) ?_
      try refine kK.set1 (by first | exact True.intro | rfl | exact kCat_q _) ?_
      refine k_iload B dL_ofLots_5 rfl ?_
      refine k_iconst B (v := 4) dL_ofLots_7 (by decide) ?_
      refine k_icmp_ne B 196 dL_ofLots_8 (by decide) (fun _ => ?_) (fun c9 => absurd c9 (hne))
      refine k_aload_n B dL_ofLots_196 rfl (by first | exact kRf_r _ | exact kRf_q _ | exact kRf_n) ?_
      refine k_iconst B (v := 2) dL_ofLots_197 (by decide) ?_
      refine k_ald B 2 dL_ofLots_198 ha.1 (by rfl) (by first | omega | decide) (by decide) (c2) ?_
      refine k_if_ne B 204 dL_ofLots_199 (by decide) (fun c9 => (c9 (by rw [h0]; rfl)).elim) (fun _ => ?_)
      refine k_iconst B (v := 1) dL_ofLots_202 (by decide) ?_
      refine k_zret B hr dL_ofLots_203 (by rfl) ?_ (by first | exact Nat.le_of_ble_eq_true rfl | omega | (simp only [kR, Value.category, kCat_q, List.map, List.sum_cons, List.sum_nil]; omega)) (by first | exact Nat.le_of_ble_eq_true rfl | omega | (simp only [kR, Value.category, kCat_q, List.map, List.sum_cons, List.sum_nil]; omega))
      exact ⟨rfl, z, J, hs, hz, hJ, by omega, hW9⟩
    · have hn1 : 1 ≤ sLn z := by omega
      obtain ⟨i, hi⟩ : ∃ i, i = x / 5 % sLn z := ⟨_, rfl⟩
      have hil : i < sLn z := by rw [hi]; exact Nat.mod_lt _ hn1
      have i40 : i < 40 := by omega
      have hlb := hs.lb hil
      have hlt := (hz.2.2.1 i hil).2
      have ef : fh i = hV (sLo z i) := by rw [hhA i i40, if_pos hil]
      refine k_istore B dL_ofLots_3 (by decide) ?_
      try refine kK.set1 (by first | exact True.intro | rfl | exact kCat_q _) ?_
      refine k_iload B dL_ofLots_5 rfl ?_
      refine k_iconst B (v := 4) dL_ofLots_7 (by decide) ?_
      refine k_icmp_ne B 196 dL_ofLots_8 (by decide) (fun _ => ?_) (fun c9 => absurd c9 (hne))
      refine k_aload_n B dL_ofLots_196 rfl (by first | exact kRf_r _ | exact kRf_q _ | exact kRf_n) ?_
      refine k_iconst B (v := 2) dL_ofLots_197 (by decide) ?_
      refine k_ald B 2 dL_ofLots_198 ha.1 (by rfl) (by first | omega | decide) (by decide) (c2) ?_
      refine k_if_ne B 204 dL_ofLots_199 (by decide) (fun _ => ?_) (fun c9 => absurd c9 (nI_ne0 hn1 (by omega)))
      refine k_iload_n B dL_ofLots_204 rfl ?_
      refine k_iconst B (v := 5) dL_ofLots_205 (by decide) ?_
      refine k_idiv B dL_ofLots_206 (by decide) ?_
      refine kK.rei (y := nI (x / 5)) (pk_div (d := 5) (by omega) (by decide) (by decide)) ?_
      refine k_aload_n B dL_ofLots_207 rfl (by first | exact kRf_r _ | exact kRf_q _ | exact kRf_n) ?_
      refine k_iconst B (v := 2) dL_ofLots_208 (by decide) ?_
      refine k_ald B 2 dL_ofLots_209 ha.1 (by rfl) (by first | omega | decide) (by decide) (c2) ?_
      refine k_irem B dL_ofLots_210 (nI_ne0 hn1 (by omega)) ?_
      refine kK.rei (y := nI i) (by rw [nI_rem (by omega) hn1 (by omega), hi]) ?_
      refine k_istore B dL_ofLots_211 (by decide) ?_
      try refine kK.set1 (by first | exact True.intro | rfl | exact kCat_q _) ?_
      by_cases hx2 : x % 5 < 2
      · obtain ⟨j, hj⟩ : ∃ j, j = y % 6 := ⟨_, rfl⟩
        have hj6 : j < 6 := by omega
        have gg : gTreat z (nI i) (nI j) = gSt (decide ((sLo z i).2.2.2.1 = -1)) := by
          rw [gTreat, gLot, gIx_p (gLx hil h40), gIx_p (x := nI j) (n := 6) ⟨nI_pos' (by omega), nI_lt hj6 (by decide)⟩, cN_nI (by omega)]
        refine k_iload B dL_ofLots_213 rfl ?_
        refine k_iconst B (v := 2) dL_ofLots_215 (by decide) ?_
        refine k_icmp_ge B 278 dL_ofLots_216 (by decide) (fun c9 => absurd c9 (fun q => nI_ge (a := x % 5) (b := 2) hx2 (by decide) q)) (fun _ => ?_)
        refine k_aload_n B dL_ofLots_219 rfl (by first | exact kRf_r _ | exact kRf_q _ | exact kRf_n) ?_
        refine k_iload B dL_ofLots_220 rfl ?_
        refine k_bipush B (v := 7) dL_ofLots_222 (by decide) ?_
        refine cl_L_36 B (c_X9_lotOf hl hs h) (h.rv.choose_spec) dL_ofLots_224 (by first | exact Nat.le_of_ble_eq_true rfl | omega | (simp only [kR, Value.category, kCat_q, List.map, List.sum_cons, List.sum_nil]; omega)) (by first | exact Nat.le_of_ble_eq_true rfl | omega | (simp only [kR, Value.category, kCat_q, List.map, List.sum_cons, List.sum_nil]; omega)) (by first | exact Nat.le_of_ble_eq_true rfl | omega | (simp only [kR, Value.category, kCat_q, List.map, List.sum_cons, List.sum_nil]; omega)) (by first | exact Nat.le_of_ble_eq_true rfl | omega | (simp only [kR, Value.category, kCat_q, List.map, List.sum_cons, List.sum_nil]; omega)) (by first | exact Nat.le_of_ble_eq_true rfl | omega | (simp only [kR, Value.category, kCat_q, List.map, List.sum_cons, List.sum_nil]; omega)) (noE (gLf hil hs.2.2.2.1.1 ⟨by decide, by decide⟩)) (rdI (rLo7 (Nat.lt_of_lt_of_le hil hs.2.2.2.1.1)) ?_)
        refine k_istore B dL_ofLots_227 (by decide) ?_
        try refine kK.set1 (by first | exact True.intro | rfl | exact kCat_q _) ?_
        refine k_aload_n B dL_ofLots_229 rfl (by first | exact kRf_r _ | exact kRf_q _ | exact kRf_n) ?_
        refine k_iconst B (v := 1) dL_ofLots_230 (by decide) ?_
        refine k_iload B dL_ofLots_231 rfl ?_
        refine k_iload_n B dL_ofLots_233 rfl ?_
        refine k_bipush B (v := 6) dL_ofLots_234 (by decide) ?_
        refine k_irem B dL_ofLots_236 (by decide) ?_
        refine kK.rei (y := nI j) (by rw [hj]; exact nI_rem (b := 6) (by omega) (by decide) (by decide)) ?_
        refine cl_L_90 B (c_L_asks1 hl hs h) dL_ofLots_237 (by first | exact Nat.le_of_ble_eq_true rfl | omega | (simp only [kR, Value.category, kCat_q, List.map, List.sum_cons, List.sum_nil]; omega)) (by first | exact Nat.le_of_ble_eq_true rfl | omega | (simp only [kR, Value.category, kCat_q, List.map, List.sum_cons, List.sum_nil]; omega)) (by first | exact Nat.le_of_ble_eq_true rfl | omega | (simp only [kR, Value.category, kCat_q, List.map, List.sum_cons, List.sum_nil]; omega)) (by first | exact Nat.le_of_ble_eq_true rfl | omega | (simp only [kR, Value.category, kCat_q, List.map, List.sum_cons, List.sum_nil]; omega)) (by first | exact Nat.le_of_ble_eq_true rfl | omega | (simp only [kR, Value.category, kCat_q, List.map, List.sum_cons, List.sum_nil]; omega)) (fun _ hx => hx.elim) (fun v237 s237 hp237 => ?_)
        by_cases hneg : (sLo z i).2.2.2.1 = -1
        · have g0 : gTreat z (nI i) (nI j) = none := by rw [gg, decide_eq_true hneg]; rfl
          rcases hp237 with ⟨-, rfl, h2, f2⟩ | ⟨E, hE, -⟩
          · refine kK.rev (y := .int ((sLo z i).2.2.1 ||| bitI (nI j))) (by rw [rTreat, cN_nI (by omega)]) ?_
            have a2 := ha.keep f2
            refine k_istore B dL_ofLots_240 (by decide) ?_
            try refine kK.set1 (by first | exact True.intro | rfl | exact kCat_q _) ?_
            refine k_iload B dL_ofLots_242 rfl ?_
            refine k_aload B dL_ofLots_244 rfl (by first | exact kRf_r _ | exact kRf_q _ | exact kRf_n) ?_
            refine k_iload B dL_ofLots_246 rfl ?_
            refine k_ald B i dL_ofLots_248 a2.2.2.2 (by rfl) (by first | omega | decide) (by decide) (ef) ?_
            refine k_bipush B (v := 10) dL_ofLots_249 (by decide) ?_
            refine k_irem B dL_ofLots_251 (by decide) ?_
            refine kK.rei (y := (sLo z i).2.2.2.1 + 1) (hW_1 hlb) ?_
            refine k_if_le B 260 dL_ofLots_252 (by decide) (fun _ => ?_) (fun c9 => (c9 ((lb_pos hlb).mpr hneg)).elim)
            refine k_iload B dL_ofLots_260 rfl ?_
            refine k_iconst B (v := 1) dL_ofLots_262 (by decide) ?_
            refine k_iload_n B dL_ofLots_263 rfl ?_
            refine k_bipush B (v := 6) dL_ofLots_264 (by decide) ?_
            refine k_irem B dL_ofLots_266 (by decide) ?_
            refine kK.rei (y := nI j) (by rw [hj]; exact nI_rem (b := 6) (by omega) (by decide) (by decide)) ?_
            refine k_ishl B dL_ofLots_267 ?_
            refine k_ior B dL_ofLots_268 ?_
            refine k_icmp_ne B 276 dL_ofLots_269 (by decide) (fun c9 => (c9 (rfl)).elim) (fun _ => ?_)
            refine k_iconst B (v := 1) dL_ofLots_272 (by decide) ?_
            refine k_goto B 277 dL_ofLots_273 (by decide) ?_
            refine k_zret B hr dL_ofLots_277 (by rfl) ?_ (by first | exact Nat.le_of_ble_eq_true rfl | omega | (simp only [kR, Value.category, kCat_q, List.map, List.sum_cons, List.sum_nil]; omega)) (by first | exact Nat.le_of_ble_eq_true rfl | omega | (simp only [kR, Value.category, kCat_q, List.map, List.sum_cons, List.sum_nil]; omega))
            refine ⟨rfl, _, J, ok_treat hs, zI_treat hz hil i40 hj6, jR_same hJ rfl rfl rfl, Nat.le_succ _, h2, fc, fp, fw, fh, a2, hcA, hpA, hwA, fun k hk => ?_⟩
            show fh k = if k < sLn z then hV (upN (sLo z) (cN (nI i)) _ k) else 0
            rw [hhA k hk, cN_nI (by omega)]
            by_cases q : k = i
            · rw [q, upN_eq]; rfl
            · rw [upN_ne q]
          · rw [g0] at hE; cases hE
        · have g0 : gTreat z (nI i) (nI j) = some eS := by rw [gg, decide_eq_false hneg]; rfl
          rcases hp237 with ⟨g, -⟩ | ⟨E, hE, rfl, e37⟩
          · rw [g0] at g; cases g
          · rw [g0] at hE
            cases hE
            rw [e37]
            refine kK.rev (y := .int (-70008)) (by rw [aCd_S]) ?_
            refine k_istore B dL_ofLots_240 (by decide) ?_
            try refine kK.set1 (by first | exact True.intro | rfl | exact kCat_q _) ?_
            refine k_iload B dL_ofLots_242 rfl ?_
            refine k_aload B dL_ofLots_244 rfl (by first | exact kRf_r _ | exact kRf_q _ | exact kRf_n) ?_
            refine k_iload B dL_ofLots_246 rfl ?_
            refine k_ald B i dL_ofLots_248 ha.2.2.2 (by rfl) (by first | omega | decide) (by decide) (ef) ?_
            refine k_bipush B (v := 10) dL_ofLots_249 (by decide) ?_
            refine k_irem B dL_ofLots_251 (by decide) ?_
            refine kK.rei (y := (sLo z i).2.2.2.1 + 1) (hW_1 hlb) ?_
            refine k_if_le B 260 dL_ofLots_252 (by decide) (fun c9 => absurd c9 (fun q => hneg ((lb_pos hlb).mp q))) (fun _ => ?_)
            refine k_ldc B qw628 dL_ofLots_255 ?_
            refine k_goto B 269 dL_ofLots_257 (by decide) ?_
            refine k_icmp_ne B 276 dL_ofLots_269 (by decide) (fun c9 => (c9 (rfl)).elim) (fun _ => ?_)
            refine k_iconst B (v := 1) dL_ofLots_272 (by decide) ?_
            refine k_goto B 277 dL_ofLots_273 (by decide) ?_
            refine k_zret B hr dL_ofLots_277 (by rfl) ?_ (by first | exact Nat.le_of_ble_eq_true rfl | omega | (simp only [kR, Value.category, kCat_q, List.map, List.sum_cons, List.sum_nil]; omega)) (by first | exact Nat.le_of_ble_eq_true rfl | omega | (simp only [kR, Value.category, kCat_q, List.map, List.sum_cons, List.sum_nil]; omega))
            exact ⟨rfl, z, J, hs, hz, hJ, by omega, hW9⟩
      · obtain ⟨w, hw⟩ : ∃ w, w = y % 3 := ⟨_, rfl⟩
        have hw3 : w < 3 := by omega
        have hk3 : nI w = 0 ∨ nI w = 1 ∨ nI w = 2 := by
          have : w = 0 ∨ w = 1 ∨ w = 2 := by omega
          rcases this with q | q | q <;> subst q <;> decide
        have hw4 : inR (nI w) 0 2 := ⟨nI_pos' (by omega), nI_le (b := 2) (by omega) (by decide)⟩
        have gg : gLabel z (nI i) (nI w) = gSt (decide ((sLo z i).2.2.2.1 = -1)) := by
          rw [gLabel, gLot, gIx_p (gLx hil h40), gRg_p hw4, cN_nI (by omega)]
        by_cases hneg : (sLo z i).2.2.2.1 = -1
        · have g0 : gLabel z (nI i) (nI w) = none := by rw [gg, decide_eq_true hneg]; rfl
          have e0 : hV (sLo z i) = 0 := by
            unfold hV
            rw [hneg, (hlt hneg).1, (hlt hneg).2]
            decide
          refine k_iload B dL_ofLots_213 rfl ?_
          refine k_iconst B (v := 2) dL_ofLots_215 (by decide) ?_
          refine k_icmp_ge B 278 dL_ofLots_216 (by decide) (fun _ => ?_) (fun c9 => (c9 (Int32.not_lt.mp (fun q => hx2 ((nI_ltI (b := 2) (by omega) (by decide)).mp q)))).elim)
          refine k_aload B dL_ofLots_278 rfl (by first | exact kRf_r _ | exact kRf_q _ | exact kRf_n) ?_
          refine k_iload B dL_ofLots_280 rfl ?_
          refine k_ald B i dL_ofLots_282 ha.2.2.2 (by rfl) (by first | omega | decide) (by decide) (ef) ?_
          refine k_bipush B (v := 10) dL_ofLots_283 (by decide) ?_
          refine k_irem B dL_ofLots_285 (by decide) ?_
          refine kK.rei (y := (sLo z i).2.2.2.1 + 1) (hW_1 hlb) ?_
          refine k_if_le B 293 dL_ofLots_286 (by decide) (fun _ => ?_) (fun c9 => (c9 ((lb_pos hlb).mpr hneg)).elim)
          refine k_iconst B (v := 0) dL_ofLots_293 (by decide) ?_
          refine k_istore B dL_ofLots_294 (by decide) ?_
          try refine kK.set1 (by first | exact True.intro | rfl | exact kCat_q _) ?_
          refine k_aload_n B dL_ofLots_296 rfl (by first | exact kRf_r _ | exact kRf_q _ | exact kRf_n) ?_
          refine k_iload B dL_ofLots_297 rfl ?_
          refine k_iload_n B dL_ofLots_299 rfl ?_
          refine k_iconst B (v := 3) dL_ofLots_300 (by decide) ?_
          refine k_irem B dL_ofLots_301 (by decide) ?_
          refine kK.rei (y := nI w) (by rw [hw]; exact nI_rem (b := 3) (by omega) (by decide) (by decide)) ?_
          refine k_aload_n B dL_ofLots_302 rfl (by first | exact kRf_r _ | exact kRf_q _ | exact kRf_n) ?_
          refine cl_L_63 B (c_L_isWater hl hs h hz ha.1 c3 hil hk3) dL_ofLots_303 (by first | exact Nat.le_of_ble_eq_true rfl | omega | (simp only [kR, Value.category, kCat_q, List.map, List.sum_cons, List.sum_nil]; omega)) (by first | exact Nat.le_of_ble_eq_true rfl | omega | (simp only [kR, Value.category, kCat_q, List.map, List.sum_cons, List.sum_nil]; omega)) (by first | exact Nat.le_of_ble_eq_true rfl | omega | (simp only [kR, Value.category, kCat_q, List.map, List.sum_cons, List.sum_nil]; omega)) (by first | exact Nat.le_of_ble_eq_true rfl | omega | (simp only [kR, Value.category, kCat_q, List.map, List.sum_cons, List.sum_nil]; omega)) (by first | exact Nat.le_of_ble_eq_true rfl | omega | (simp only [kR, Value.category, kCat_q, List.map, List.sum_cons, List.sum_nil]; omega)) (fun _ hx => hx.elim) (rdV ?_)
          refine k_istore B dL_ofLots_306 (by decide) ?_
          try refine kK.set1 (by first | exact True.intro | rfl | exact kCat_q _) ?_
          refine k_aload_n B dL_ofLots_308 rfl (by first | exact kRf_r _ | exact kRf_q _ | exact kRf_n) ?_
          refine k_iconst B (v := 2) dL_ofLots_309 (by decide) ?_
          refine k_iload B dL_ofLots_310 rfl ?_
          refine k_iload_n B dL_ofLots_312 rfl ?_
          refine k_iconst B (v := 3) dL_ofLots_313 (by decide) ?_
          refine k_irem B dL_ofLots_314 (by decide) ?_
          refine kK.rei (y := nI w) (by rw [hw]; exact nI_rem (b := 3) (by omega) (by decide) (by decide)) ?_
          refine cl_L_90 B (c_L_asks2 hl hs h) dL_ofLots_315 (by first | exact Nat.le_of_ble_eq_true rfl | omega | (simp only [kR, Value.category, kCat_q, List.map, List.sum_cons, List.sum_nil]; omega)) (by first | exact Nat.le_of_ble_eq_true rfl | omega | (simp only [kR, Value.category, kCat_q, List.map, List.sum_cons, List.sum_nil]; omega)) (by first | exact Nat.le_of_ble_eq_true rfl | omega | (simp only [kR, Value.category, kCat_q, List.map, List.sum_cons, List.sum_nil]; omega)) (by first | exact Nat.le_of_ble_eq_true rfl | omega | (simp only [kR, Value.category, kCat_q, List.map, List.sum_cons, List.sum_nil]; omega)) (by first | exact Nat.le_of_ble_eq_true rfl | omega | (simp only [kR, Value.category, kCat_q, List.map, List.sum_cons, List.sum_nil]; omega)) (fun _ hx => hx.elim) (fun v315 s315 hp315 => ?_)
          rcases hp315 with ⟨-, rfl, h2, f2⟩ | ⟨E, hE, -⟩
          · refine kK.rev (y := .int (bI (kindB z (nI i) (nI w)))) rfl ?_
            have a2 := ha.keep f2
            have post : ∀ s3 : kS, cl9 D aO (nLabel z (nI i) (nI w)) J F s3 → ar4 D ac ap aw ah fc fp fw (upN fh i (hW (nI w) (bI (kindB z (nI i) (nI w))) 0)) s3 → lPs D aO ac ap aw ah z F (some (.int 1)) s3 := by
              intro s3 h3 a3
              refine ⟨rfl, _, J, ok_label hs g0, zI_label hz hil i40 hw3, jR_same hJ rfl rfl rfl, Nat.le_succ _, h3, fc, fp, fw, _, a3, hcA, hpA, hwA, fun k hk => ?_⟩
              show upN fh i _ k = if k < sLn z then hV (upN (sLo z) (cN (nI i)) ((sLo z (cN (nI i))).1, (sLo z (cN (nI i))).2.1, (sLo z (cN (nI i))).2.2.1, nI w, rLabel z (nI i) (nI w), (sLo z (cN (nI i))).2.2.2.2.2) k) else 0
              rw [cN_nI (by omega)]
              by_cases q : k = i
              · rw [q, upN_eq, upN_eq, if_pos hil]
                show _ = hW (nI w) (rLabel z (nI i) (nI w)) (sLo z i).2.2.2.2.2
                rw [(hlt hneg).2]
                rfl
              · rw [upN_ne q, upN_ne q, hhA k hk]
            cases hkb : kindB z (nI i) (nI w) with
            | true =>
              rw [hkb] at post
              refine k_istore B dL_ofLots_318 (by decide) ?_
              try refine kK.set1 (by first | exact True.intro | rfl | exact kCat_q _) ?_
              refine k_aload B dL_ofLots_320 rfl (by first | exact kRf_r _ | exact kRf_q _ | exact kRf_n) ?_
              refine k_iload B dL_ofLots_322 rfl ?_
              refine k_dup2 B dL_ofLots_324 rfl rfl ?_
              refine k_ald B i dL_ofLots_325 a2.2.2.2 (by rfl) (by first | omega | decide) (by decide) (ef.trans e0) ?_
              refine k_iload B dL_ofLots_326 rfl ?_
              refine k_if_eq B 335 dL_ofLots_328 (by decide) (fun _ => ?_) (fun c9 => (c9 (rfl)).elim)
              refine k_iconst B (v := 1) dL_ofLots_335 (by decide) ?_
              refine k_iload_n B dL_ofLots_336 rfl ?_
              refine k_iconst B (v := 3) dL_ofLots_337 (by decide) ?_
              refine k_irem B dL_ofLots_338 (by decide) ?_
              refine kK.rei (y := nI w) (by rw [hw]; exact nI_rem (b := 3) (by omega) (by decide) (by decide)) ?_
              refine k_iadd B dL_ofLots_339 ?_
              refine k_iload B dL_ofLots_340 rfl ?_
              refine k_if_eq B 350 dL_ofLots_342 (by decide) (fun c9 => absurd c9 (by decide)) (fun _ => ?_)
              refine k_bipush B (v := 10) dL_ofLots_345 (by decide) ?_
              refine k_goto B 351 dL_ofLots_347 (by decide) ?_
              refine k_iadd B dL_ofLots_351 ?_
              refine k_iadd B dL_ofLots_352 ?_
              refine kK.rei (y := hW (nI w) (bI true) 0) (hW_l hw3 true) ?_
              refine k_aupG B i dL_ofLots_353 a2.2.2.2 (by rfl) (by first | omega | decide) (by decide) (fun s353 ha353 ho353 => ?_)
              refine k_iload B dL_ofLots_354 rfl ?_
              refine k_iload B dL_ofLots_356 rfl ?_
              refine k_if_eq B 366 dL_ofLots_358 (by decide) (fun _ => ?_) (fun c9 => (c9 (rfl)).elim)
              refine k_iload B dL_ofLots_366 rfl ?_
              refine k_if_eq B 375 dL_ofLots_368 (by decide) (fun c9 => absurd c9 (by decide)) (fun _ => ?_)
              refine k_iconst B (v := 1) dL_ofLots_371 (by decide) ?_
              refine k_goto B 376 dL_ofLots_372 (by decide) ?_
              refine k_icmp_ne B 383 dL_ofLots_376 (by decide) (fun c9 => (c9 (rfl)).elim) (fun _ => ?_)
              refine k_iconst B (v := 1) dL_ofLots_379 (by decide) ?_
              refine k_goto B 384 dL_ofLots_380 (by decide) ?_
              refine k_zret B hr dL_ofLots_384 (by rfl) ?_ (by first | exact Nat.le_of_ble_eq_true rfl | omega | (simp only [kR, Value.category, kCat_q, List.map, List.sum_cons, List.sum_nil]; omega)) (by first | exact Nat.le_of_ble_eq_true rfl | omega | (simp only [kR, Value.category, kCat_q, List.map, List.sum_cons, List.sum_nil]; omega))
              exact post s353 (h2.outI a2.2.2.2 ho353) (a2.h ho353 ha353)
            | false =>
              rw [hkb] at post
              refine k_istore B dL_ofLots_318 (by decide) ?_
              try refine kK.set1 (by first | exact True.intro | rfl | exact kCat_q _) ?_
              refine k_aload B dL_ofLots_320 rfl (by first | exact kRf_r _ | exact kRf_q _ | exact kRf_n) ?_
              refine k_iload B dL_ofLots_322 rfl ?_
              refine k_dup2 B dL_ofLots_324 rfl rfl ?_
              refine k_ald B i dL_ofLots_325 a2.2.2.2 (by rfl) (by first | omega | decide) (by decide) (ef.trans e0) ?_
              refine k_iload B dL_ofLots_326 rfl ?_
              refine k_if_eq B 335 dL_ofLots_328 (by decide) (fun _ => ?_) (fun c9 => (c9 (rfl)).elim)
              refine k_iconst B (v := 1) dL_ofLots_335 (by decide) ?_
              refine k_iload_n B dL_ofLots_336 rfl ?_
              refine k_iconst B (v := 3) dL_ofLots_337 (by decide) ?_
              refine k_irem B dL_ofLots_338 (by decide) ?_
              refine kK.rei (y := nI w) (by rw [hw]; exact nI_rem (b := 3) (by omega) (by decide) (by decide)) ?_
              refine k_iadd B dL_ofLots_339 ?_
              refine k_iload B dL_ofLots_340 rfl ?_
              refine k_if_eq B 350 dL_ofLots_342 (by decide) (fun _ => ?_) (fun c9 => (c9 (rfl)).elim)
              refine k_iconst B (v := 0) dL_ofLots_350 (by decide) ?_
              refine k_iadd B dL_ofLots_351 ?_
              refine k_iadd B dL_ofLots_352 ?_
              refine kK.rei (y := hW (nI w) (bI false) 0) (hW_l hw3 false) ?_
              refine k_aupG B i dL_ofLots_353 a2.2.2.2 (by rfl) (by first | omega | decide) (by decide) (fun s353 ha353 ho353 => ?_)
              refine k_iload B dL_ofLots_354 rfl ?_
              refine k_iload B dL_ofLots_356 rfl ?_
              refine k_if_eq B 366 dL_ofLots_358 (by decide) (fun _ => ?_) (fun c9 => (c9 (rfl)).elim)
              refine k_iload B dL_ofLots_366 rfl ?_
              refine k_if_eq B 375 dL_ofLots_368 (by decide) (fun _ => ?_) (fun c9 => (c9 (rfl)).elim)
              refine k_iconst B (v := 0) dL_ofLots_375 (by decide) ?_
              refine k_icmp_ne B 383 dL_ofLots_376 (by decide) (fun c9 => (c9 (rfl)).elim) (fun _ => ?_)
              refine k_iconst B (v := 1) dL_ofLots_379 (by decide) ?_
              refine k_goto B 384 dL_ofLots_380 (by decide) ?_
              refine k_zret B hr dL_ofLots_384 (by rfl) ?_ (by first | exact Nat.le_of_ble_eq_true rfl | omega | (simp only [kR, Value.category, kCat_q, List.map, List.sum_cons, List.sum_nil]; omega)) (by first | exact Nat.le_of_ble_eq_true rfl | omega | (simp only [kR, Value.category, kCat_q, List.map, List.sum_cons, List.sum_nil]; omega))
              exact post s353 (h2.outI a2.2.2.2 ho353) (a2.h ho353 ha353)
          · rw [g0] at hE; cases hE
        · have g0 : gLabel z (nI i) (nI w) = some eS := by rw [gg, decide_eq_false hneg]; rfl
          refine k_iload B dL_ofLots_213 rfl ?_
          refine k_iconst B (v := 2) dL_ofLots_215 (by decide) ?_
          refine k_icmp_ge B 278 dL_ofLots_216 (by decide) (fun _ => ?_) (fun c9 => (c9 (Int32.not_lt.mp (fun q => hx2 ((nI_ltI (b := 2) (by omega) (by decide)).mp q)))).elim)
          refine k_aload B dL_ofLots_278 rfl (by first | exact kRf_r _ | exact kRf_q _ | exact kRf_n) ?_
          refine k_iload B dL_ofLots_280 rfl ?_
          refine k_ald B i dL_ofLots_282 ha.2.2.2 (by rfl) (by first | omega | decide) (by decide) (ef) ?_
          refine k_bipush B (v := 10) dL_ofLots_283 (by decide) ?_
          refine k_irem B dL_ofLots_285 (by decide) ?_
          refine kK.rei (y := (sLo z i).2.2.2.1 + 1) (hW_1 hlb) ?_
          refine k_if_le B 293 dL_ofLots_286 (by decide) (fun c9 => absurd c9 (fun q => hneg ((lb_pos hlb).mp q))) (fun _ => ?_)
          refine k_iconst B (v := 1) dL_ofLots_289 (by decide) ?_
          refine k_goto B 294 dL_ofLots_290 (by decide) ?_
          refine k_istore B dL_ofLots_294 (by decide) ?_
          try refine kK.set1 (by first | exact True.intro | rfl | exact kCat_q _) ?_
          refine k_aload_n B dL_ofLots_296 rfl (by first | exact kRf_r _ | exact kRf_q _ | exact kRf_n) ?_
          refine k_iload B dL_ofLots_297 rfl ?_
          refine k_iload_n B dL_ofLots_299 rfl ?_
          refine k_iconst B (v := 3) dL_ofLots_300 (by decide) ?_
          refine k_irem B dL_ofLots_301 (by decide) ?_
          refine kK.rei (y := nI w) (by rw [hw]; exact nI_rem (b := 3) (by omega) (by decide) (by decide)) ?_
          refine k_aload_n B dL_ofLots_302 rfl (by first | exact kRf_r _ | exact kRf_q _ | exact kRf_n) ?_
          refine cl_L_63 B (c_L_isWater hl hs h hz ha.1 c3 hil hk3) dL_ofLots_303 (by first | exact Nat.le_of_ble_eq_true rfl | omega | (simp only [kR, Value.category, kCat_q, List.map, List.sum_cons, List.sum_nil]; omega)) (by first | exact Nat.le_of_ble_eq_true rfl | omega | (simp only [kR, Value.category, kCat_q, List.map, List.sum_cons, List.sum_nil]; omega)) (by first | exact Nat.le_of_ble_eq_true rfl | omega | (simp only [kR, Value.category, kCat_q, List.map, List.sum_cons, List.sum_nil]; omega)) (by first | exact Nat.le_of_ble_eq_true rfl | omega | (simp only [kR, Value.category, kCat_q, List.map, List.sum_cons, List.sum_nil]; omega)) (by first | exact Nat.le_of_ble_eq_true rfl | omega | (simp only [kR, Value.category, kCat_q, List.map, List.sum_cons, List.sum_nil]; omega)) (fun _ hx => hx.elim) (rdV ?_)
          refine k_istore B dL_ofLots_306 (by decide) ?_
          try refine kK.set1 (by first | exact True.intro | rfl | exact kCat_q _) ?_
          refine k_aload_n B dL_ofLots_308 rfl (by first | exact kRf_r _ | exact kRf_q _ | exact kRf_n) ?_
          refine k_iconst B (v := 2) dL_ofLots_309 (by decide) ?_
          refine k_iload B dL_ofLots_310 rfl ?_
          refine k_iload_n B dL_ofLots_312 rfl ?_
          refine k_iconst B (v := 3) dL_ofLots_313 (by decide) ?_
          refine k_irem B dL_ofLots_314 (by decide) ?_
          refine kK.rei (y := nI w) (by rw [hw]; exact nI_rem (b := 3) (by omega) (by decide) (by decide)) ?_
          refine cl_L_90 B (c_L_asks2 hl hs h) dL_ofLots_315 (by first | exact Nat.le_of_ble_eq_true rfl | omega | (simp only [kR, Value.category, kCat_q, List.map, List.sum_cons, List.sum_nil]; omega)) (by first | exact Nat.le_of_ble_eq_true rfl | omega | (simp only [kR, Value.category, kCat_q, List.map, List.sum_cons, List.sum_nil]; omega)) (by first | exact Nat.le_of_ble_eq_true rfl | omega | (simp only [kR, Value.category, kCat_q, List.map, List.sum_cons, List.sum_nil]; omega)) (by first | exact Nat.le_of_ble_eq_true rfl | omega | (simp only [kR, Value.category, kCat_q, List.map, List.sum_cons, List.sum_nil]; omega)) (by first | exact Nat.le_of_ble_eq_true rfl | omega | (simp only [kR, Value.category, kCat_q, List.map, List.sum_cons, List.sum_nil]; omega)) (fun _ hx => hx.elim) (fun v315 s315 hp315 => ?_)
          rcases hp315 with ⟨g, -⟩ | ⟨E, hE, rfl, e15⟩
          · rw [g0] at g; cases g
          · rw [g0] at hE
            cases hE
            rw [e15]
            refine kK.rev (y := .int (-70008)) (by rw [aCd_S]) ?_
            refine k_istore B dL_ofLots_318 (by decide) ?_
            try refine kK.set1 (by first | exact True.intro | rfl | exact kCat_q _) ?_
            refine k_aload B dL_ofLots_320 rfl (by first | exact kRf_r _ | exact kRf_q _ | exact kRf_n) ?_
            refine k_iload B dL_ofLots_322 rfl ?_
            refine k_dup2 B dL_ofLots_324 rfl rfl ?_
            refine k_ald B i dL_ofLots_325 ha.2.2.2 (by rfl) (by first | omega | decide) (by decide) (ef) ?_
            refine k_iload B dL_ofLots_326 rfl ?_
            refine k_if_eq B 335 dL_ofLots_328 (by decide) (fun c9 => absurd c9 (by decide)) (fun _ => ?_)
            refine k_iconst B (v := 0) dL_ofLots_331 (by decide) ?_
            refine k_goto B 352 dL_ofLots_332 (by decide) ?_
            refine k_iadd B dL_ofLots_352 ?_
            refine kK.rei (y := hV (sLo z i)) (Int32.add_zero _) ?_
            refine k_aupG B i dL_ofLots_353 ha.2.2.2 (by rfl) (by first | omega | decide) (by decide) (fun s353 ha353 ho353 => ?_)
            refine k_iload B dL_ofLots_354 rfl ?_
            refine k_iload B dL_ofLots_356 rfl ?_
            refine k_if_eq B 366 dL_ofLots_358 (by decide) (fun c9 => absurd c9 (by decide)) (fun _ => ?_)
            refine k_ldc B qw628 dL_ofLots_361 ?_
            refine k_goto B 376 dL_ofLots_363 (by decide) ?_
            refine k_icmp_ne B 383 dL_ofLots_376 (by decide) (fun c9 => (c9 (rfl)).elim) (fun _ => ?_)
            refine k_iconst B (v := 1) dL_ofLots_379 (by decide) ?_
            refine k_goto B 384 dL_ofLots_380 (by decide) ?_
            refine k_zret B hr dL_ofLots_384 (by rfl) ?_ (by first | exact Nat.le_of_ble_eq_true rfl | omega | (simp only [kR, Value.category, kCat_q, List.map, List.sum_cons, List.sum_nil]; omega)) (by first | exact Nat.le_of_ble_eq_true rfl | omega | (simp only [kR, Value.category, kCat_q, List.map, List.sum_cons, List.sum_nil]; omega))
            refine ⟨rfl, z, J, hs, hz, hJ, by omega, h.outI ha.2.2.2 ho353, fc, fp, fw, _, ha.h ho353 ha353, hcA, hpA, hwA, fun k hk => ?_⟩
            by_cases q : k = i
            · rw [q, upN_eq, if_pos hil]
            · rw [upN_ne q, hhA k hk]
end OfLots
