theorem cmpN {i N : Nat} (hi : i < 2 ^ 30) (hN : N < 2 ^ 30) : (nI N - 4 < nI i) ↔ N < i + 4 := by
  have e : (nI N - 4).toInt = (N : Int) - 4 := by
    rw [Int32.toInt_sub, nI_toInt (by omega), show (4 : Int32).toInt = 4 from rfl]
    exact Int.bmod_eq_of_le (by omega) (by omega)
  rw [Int32.lt_iff_toInt_lt, e, nI_toInt (by omega)]
  omega
theorem tab_j {x : Int32} (h0 : ¬ x.toInt < 0) (h : ¬ 23 < x.toInt) : ∃ j, j < 24 ∧ x = nI j := by
  refine ⟨x.toInt.toNat, by omega, Int32.toInt_inj.mp ?_⟩
  rw [nI_toInt (by omega)]
  omega
section LawL
variable {p : Program} {l : Launch} {e : Env} {s : State} {m : MethodId} {args : Array Value} {below : List Frame} {meth : Method} {c : Code} {D : va_G} {A : Nat → Prop} {Q : State → Prop} {aO aM aL aD b N : Nat} {ma : Nat → Nat} {xs : Nat → Int32}
set_option maxHeartbeats 1000000 in
set_option maxRecDepth 100000 in
theorem law_loop (B : kB p l s m args meth c D A 9 cL_law RL) (hl : l.stackTraces = false) (hX : va_X b N xs s s.heap) (hbl : b < s.heap.size) (hbA : ¬ A b) (hrc : 20000 ≤ room_1.cells) (hrs : 200000 ≤ room_1.slots) (hN : N ≤ 2048) (fin : ∀ (σ2 : kS) (k2 n2 : Nat) (L2 : List (Option Value)), k2 ≤ 20000 → n2 ≤ 200000 → kK p l e room_1 s m args below meth c D A 9 Q σ2 k2 n2 1703 L2 []) : ∀ (d9 st k n : Nat) (σ : kS), N ≤ 4 * st + 4 * d9 + 3 → st ≤ 512 → lI D aO aM aL aD ma st k n σ → kK p l e room_1 s m args below meth c D A 9 Q σ k n 28 [some (.ref b), some (.ref aO), some (.ref aM), some (.ref aL), some (.ref aD), some (.int (nI (4 * st))), none, none, none] [] := by
  have out : ∀ (st k n : Nat) (σ : kS) (L2 : List (Option Value)), st ≤ 512 → lI D aO aM aL aD ma st k n σ → kK p l e room_1 s m args below meth c D A 9 Q σ k n 1703 L2 [] := by
    intro st k n σ L2 hst hI
    obtain ⟨z, J, F, t, hs, hj, h9, h10, hL, hD, hc, hk, hn⟩ := hI
    have hn3 := hs.1.1
    exact fin σ k n L2 (by omega) (by omega)
  intro d9
  induction d9 with
  | zero =>
    intro st k n σ hd hst hI
    refine k_iload B dL_law_28 rfl ?_
    refine k_aload_n B dL_law_30 rfl (by first | exact kRf_r _ | exact kRf_q _ | exact kRf_n) ?_
    refine k_slen B hX hbl hbA dL_law_31 ?_
    refine k_iconst B (v := 4) dL_law_32 (by decide) ?_
    refine k_isub B dL_law_33 ?_
    refine k_icmp_gt B 1703 dL_law_34 (by decide) (fun c34 => ?_) (fun c34 => ?_)
    · exact out st k n σ _ hst hI
    · exact absurd ((cmpN (by omega) (by omega)).mpr (by omega)) c34
  | succ d9 ih =>
    intro st k n σ hd hst hI
    refine k_iload B dL_law_28 rfl ?_
    refine k_aload_n B dL_law_30 rfl (by first | exact kRf_r _ | exact kRf_q _ | exact kRf_n) ?_
    refine k_slen B hX hbl hbA dL_law_31 ?_
    refine k_iconst B (v := 4) dL_law_32 (by decide) ?_
    refine k_isub B dL_law_33 ?_
    refine k_icmp_gt B 1703 dL_law_34 (by decide) (fun c34 => ?_) (fun c34 => ?_)
    · exact out st k n σ _ hst hI
    · have hi : 4 * st + 4 ≤ N := by
        have : ¬ N < 4 * st + 4 := fun q => c34 ((cmpN (by omega) (by omega)).mpr q)
        omega
      have nxt : ∀ (σ2 : kS) (k2 n2 : Nat), lI D aO aM aL aD ma (st + 1) k2 n2 σ2 → kK p l e room_1 s m args below meth c D A 9 Q σ2 k2 n2 1697 [some (.ref b), some (.ref aO), some (.ref aM), some (.ref aL), some (.ref aD), some (.int (nI (4 * st))), none, none, none] [] := by
        intro σ2 k2 n2 h2
        refine k_iinc4 B dL_law_1697 rfl (by decide) ?_
        try refine kK.set1 (by first | exact True.intro | rfl | exact kCat_q _) ?_
        refine k_goto B 28 dL_law_1700 (by decide) ?_
        rw [show nI (4 * st) + 4 = nI (4 * (st + 1)) from nI_add (4 * st) 4]
        exact ih (st + 1) k2 n2 σ2 (by omega) (by omega) h2
      refine k_aload_n B dL_law_37 rfl (by first | exact kRf_r _ | exact kRf_q _ | exact kRf_n) ?_
      refine k_iload B dL_law_38 rfl ?_
      refine k_sld B hX hbl hbA (vp_in_nI (show 4 * st < N by omega) (by omega)) dL_law_40 ?_
      refine k_bipush B (v := 31) dL_law_41 (by decide) ?_
      refine k_iand B dL_law_43 ?_
      generalize xs (nI (4 * st)).toNatClampNeg &&& 31 = x
      by_cases h0 : x.toInt < 0
      · refine k_tabOut B 1697 dL_law_44 (Or.inl h0) (by decide) ?_
        obtain ⟨z, J, F, t, hs, hj, h9, h10, hL, hD, hc, hk, hn⟩ := hI
        exact nxt σ k n ⟨z, J, F, t, hs, hj, h9, h10, hL, hD, hc, by omega, by omega⟩
      · by_cases h23 : 23 < x.toInt
        · refine k_tabOut B 1697 dL_law_44 (Or.inr h23) (by decide) ?_
          obtain ⟨z, J, F, t, hs, hj, h9, h10, hL, hD, hc, hk, hn⟩ := hI
          exact nxt σ k n ⟨z, J, F, t, hs, hj, h9, h10, hL, hD, hc, by omega, by omega⟩
        · obtain ⟨j, hj, rfl⟩ := tab_j h0 h23
          rcases (show j = 0 ∨ j = 1 ∨ j = 2 ∨ j = 3 ∨ j = 4 ∨ j = 5 ∨ j = 6 ∨ j = 7 ∨ j = 8 ∨ j = 9 ∨ j = 10 ∨ j = 11 ∨ j = 12 ∨ j = 13 ∨ j = 14 ∨ j = 15 ∨ j = 16 ∨ j = 17 ∨ j = 18 ∨ j = 19 ∨ j = 20 ∨ j = 21 ∨ j = 22 ∨ j = 23 by omega) with q | q | q | q | q | q | q | q | q | q | q | q | q | q | q | q | q | q | q | q | q | q | q | q
          · subst q
            refine k_tabIn B 156 dL_law_44 (by decide) (by decide) (off := 112) (by decide) (by decide) ?_
            exact law_rock B hl hX hbl hbA hrc hrs hN hi hst hI nxt
          · subst q
            refine k_tabIn B 224 dL_law_44 (by decide) (by decide) (off := 180) (by decide) (by decide) ?_
            exact law_land B hl hX hbl hbA hrc hrs hN hi hst hI nxt
          · subst q
            refine k_tabIn B 292 dL_law_44 (by decide) (by decide) (off := 248) (by decide) (by decide) ?_
            exact law_lead B hl hX hbl hbA hrc hrs hN hi hst hI nxt
          · subst q
            refine k_tabIn B 360 dL_law_44 (by decide) (by decide) (off := 316) (by decide) (by decide) ?_
            exact law_spill B hl hX hbl hbA hrc hrs hN hi hst hI nxt
          · subst q
            refine k_tabIn B 428 dL_law_44 (by decide) (by decide) (off := 384) (by decide) (by decide) ?_
            exact law_contract B hl hX hbl hbA hrc hrs hN hi hst hI nxt
          · subst q
            refine k_tabIn B 488 dL_law_44 (by decide) (by decide) (off := 444) (by decide) (by decide) ?_
            exact law_pass B hl hX hbl hbA hrc hrs hN hi hst hI nxt
          · subst q
            refine k_tabIn B 556 dL_law_44 (by decide) (by decide) (off := 512) (by decide) (by decide) ?_
            exact law_well B hl hX hbl hbA hrc hrs hN hi hst hI nxt
          · subst q
            refine k_tabIn B 624 dL_law_44 (by decide) (by decide) (off := 580) (by decide) (by decide) ?_
            exact law_drought B hl hX hbl hbA hrc hrs hN hi hst hI nxt
          · subst q
            refine k_tabIn B 684 dL_law_44 (by decide) (by decide) (off := 640) (by decide) (by decide) ?_
            exact law_share B hl hX hbl hbA hrc hrs hN hi hst hI nxt
          · subst q
            refine k_tabIn B 740 dL_law_44 (by decide) (by decide) (off := 696) (by decide) (by decide) ?_
            exact law_bottle B hl hX hbl hbA hrc hrs hN hi hst hI nxt
          · subst q
            refine k_tabIn B 808 dL_law_44 (by decide) (by decide) (off := 764) (by decide) (by decide) ?_
            exact law_treat B hl hX hbl hbA hrc hrs hN hi hst hI nxt
          · subst q
            refine k_tabIn B 876 dL_law_44 (by decide) (by decide) (off := 832) (by decide) (by decide) ?_
            exact law_label B hl hX hbl hbA hrc hrs hN hi hst hI nxt
          · subst q
            refine k_tabIn B 951 dL_law_44 (by decide) (by decide) (off := 907) (by decide) (by decide) ?_
            exact law_forbid B hl hX hbl hbA hrc hrs hN hi hst hI nxt
          · subst q
            refine k_tabIn B 1007 dL_law_44 (by decide) (by decide) (off := 963) (by decide) (by decide) ?_
            exact law_year B hl hX hbl hbA hrc hrs hN hi hst hI nxt
          · subst q
            refine k_tabIn B 1020 dL_law_44 (by decide) (by decide) (off := 976) (by decide) (by decide) ?_
            exact law_cellOf B hl hX hbl hbA hrc hrs hN hi hst hI nxt
          · subst q
            refine k_tabIn B 1088 dL_law_44 (by decide) (by decide) (off := 1044) (by decide) (by decide) ?_
            exact law_flow B hl hX hbl hbA hrc hrs hN hi hst hI nxt
          · subst q
            refine k_tabIn B 1144 dL_law_44 (by decide) (by decide) (off := 1100) (by decide) (by decide) ?_
            exact law_wellOf B hl hX hbl hbA hrc hrs hN hi hst hI nxt
          · subst q
            refine k_tabIn B 1212 dL_law_44 (by decide) (by decide) (off := 1168) (by decide) (by decide) ?_
            exact law_lotOf B hl hX hbl hbA hrc hrs hN hi hst hI nxt
          · subst q
            refine k_tabIn B 1280 dL_law_44 (by decide) (by decide) (off := 1236) (by decide) (by decide) ?_
            exact law_age B hl hX hbl hbA hrc hrs hN hi hst hI nxt
          · subst q
            refine k_tabIn B 1358 dL_law_44 (by decide) (by decide) (off := 1314) (by decide) (by decide) ?_
            exact law_best B hl hX hbl hbA hrc hrs hN hi hst hI nxt
          · subst q
            refine k_tabIn B 1414 dL_law_44 (by decide) (by decide) (off := 1370) (by decide) (by decide) ?_
            exact law_from B hl hX hbl hbA hrc hrs hN hi hst hI nxt
          · subst q
            refine k_tabIn B 1494 dL_law_44 (by decide) (by decide) (off := 1450) (by decide) (by decide) ?_
            exact law_fromAnew B hl hX hbl hbA hrc hrs hN hi hst hI nxt
          · subst q
            refine k_tabIn B 1574 dL_law_44 (by decide) (by decide) (off := 1530) (by decide) (by decide) ?_
            exact law_whence B hl hX hbl hbA hrc hrs hN hi hst hI nxt
          · subst q
            refine k_tabIn B 1642 dL_law_44 (by decide) (by decide) (off := 1598) (by decide) (by decide) ?_
            exact law_sum B hl hX hbl hbA hrc hrs hN hi hst hI nxt
end LawL
