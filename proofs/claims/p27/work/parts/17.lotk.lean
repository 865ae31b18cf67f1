section LotK
variable {l : Launch} {D : va_G} {σ : kS} {a w b ρ u : Nat} {tr lb tru rc : Int32} {L : kPs} {z : Option Nat}
theorem i32_nlt {x y : Int32} (h : ¬ x < y) : y ≤ x := by
  rw [Int32.le_iff_toInt_le]
  rw [Int32.lt_iff_toInt_lt] at h
  omega
theorem i32_lt_nle {x y : Int32} (h : x < y) : ¬ y ≤ x := by
  rw [Int32.le_iff_toInt_le]
  rw [Int32.lt_iff_toInt_lt] at h
  omega
set_option maxRecDepth 100000 in
theorem c_X2_isOfKind (hl : l.stackTraces = false) {kind fb : Int32} (hk : kind = 0 ∨ kind = 1 ∨ kind = 2) (ha : σ a = some (lotE w b ρ tr lb tru rc)) (hρ : σ ρ = some (rowE (nI u) (hdA L) z)) (hc : pCh σ L) (hu : u = unS (kCon L)) (h1 : niS (kCon L) < 2 ^ 31) (h2 : 8 * u < 2 ^ 31) (hy : ∀ q ∈ L, q.2.2.1 < 2 ^ 31) : kMh hX2_isOfKind l D yX2_isOfKind 4 0 0 [.ref a, .int kind, .int fb] σ (fun v s2 => v = some (.int (bI (okB kind fb tr b (kCon L)))) ∧ s2 = σ) (fun _ => False) := by
  refine kM_of (L := [some (.ref a), some (.int kind), some (.int fb)]) (by decide +kernel) hl (List.forall_mem_cons.mpr ⟨rfl, (List.forall_mem_cons.mpr ⟨rfl, (List.forall_mem_cons.mpr ⟨rfl, (fun _ h => absurd h List.not_mem_nil)⟩)⟩)⟩) (Nat.le_of_ble_eq_true rfl) rfl ?_
  intro p e s m args below meth c B hr hex hnm
  have B : kB p l s m args meth c D (kA σ s.heap.size) 3 cX2_isOfKind RX2 := B
  rcases hk with rfl | rfl | rfl
  · have no : okB 0 fb tr b (kCon L) = false → ∀ Lc, kK p l e (kR 4 0 0) s m args below meth c D (kA σ s.heap.size) 3 (kQ below args s D σ (fun v s2 => v = some (.int (bI (okB 0 fb tr b (kCon L)))) ∧ s2 = σ) (fun _ => False) 0 0) σ 0 0 64 Lc [] := by
      intro h0 Lc
      refine k_iconst B (v := 0) dX2_isOfKind_64 (by decide) ?_
      refine k_zret B hr dX2_isOfKind_65 (by rfl) ?_ (by first | exact Nat.le_of_ble_eq_true rfl | omega | (simp only [kR, Value.category, kCat_q, List.map, List.sum_cons, List.sum_nil]; omega)) (by first | exact Nat.le_of_ble_eq_true rfl | omega | (simp only [kR, Value.category, kCat_q, List.map, List.sum_cons, List.sum_nil]; omega))
      exact ⟨by rw [h0]; rfl, rfl⟩
    refine k_iload_n B dX2_isOfKind_0 rfl ?_
    refine k_lookup B 28 dX2_isOfKind_1 (by decide) (off := 27) (by decide) (by decide) ?_
    refine k_aload_n B dX2_isOfKind_28 rfl (by first | exact kRf_r _ | exact kRf_q _ | exact kRf_n) ?_
    refine k_iconst B (v := 1) dX2_isOfKind_29 (by decide) ?_
    refine k_iload_n B dX2_isOfKind_30 rfl ?_
    refine k_iconst B (v := (-1)) dX2_isOfKind_31 (by decide) ?_
    refine k_ixor B dX2_isOfKind_32 ?_
    refine k_iand B dX2_isOfKind_33 ?_
    refine k_iconst B (v := 5) dX2_isOfKind_34 (by decide) ?_
    refine cl_X2_50 B (c_X2_hasAtMost hl (nf := 5) ha hρ hc hu h1 (by omega)) ha dX2_isOfKind_35 (by first | exact Nat.le_of_ble_eq_true rfl | omega | (simp only [kR, Value.category, kCat_q, List.map, List.sum_cons, List.sum_nil]; omega)) (by first | exact Nat.le_of_ble_eq_true rfl | omega | (simp only [kR, Value.category, kCat_q, List.map, List.sum_cons, List.sum_nil]; omega)) (by first | exact Nat.le_of_ble_eq_true rfl | omega | (simp only [kR, Value.category, kCat_q, List.map, List.sum_cons, List.sum_nil]; omega)) (by first | exact Nat.le_of_ble_eq_true rfl | omega | (simp only [kR, Value.category, kCat_q, List.map, List.sum_cons, List.sum_nil]; omega)) (by first | exact Nat.le_of_ble_eq_true rfl | omega | (simp only [kR, Value.category, kCat_q, List.map, List.sum_cons, List.sum_nil]; omega)) (fun _ hx => hx.elim) (fun v35 s35 hp35 => ?_)
    obtain ⟨rfl, rfl⟩ := hp35
    refine kK.rev (y := .int (bI (hamB tr (1 &&& (fb ^^^ (-1))) 5 (kCon L)))) rfl ?_
    refine k_if_eq B 64 dX2_isOfKind_38 (by decide) (fun c38 => ?_) (fun c38 => ?_)
    · refine no ?_ _
      have n1 : hamB tr (1 &&& (fb ^^^ (-1))) 5 (kCon L) = false := by
        cases hh : hamB tr (1 &&& (fb ^^^ (-1))) 5 (kCon L)
        · rfl
        · rw [hh] at c38; exact absurd c38 (by decide)
      rw [okB, if_pos rfl, n1]; simp
    · have n1 : hamB tr (1 &&& (fb ^^^ (-1))) 5 (kCon L) = true := by
        cases hh : hamB tr (1 &&& (fb ^^^ (-1))) 5 (kCon L)
        · rw [hh] at c38; exact absurd rfl c38
        · rfl
      refine k_aload_n B dX2_isOfKind_41 rfl (by first | exact kRf_r _ | exact kRf_q _ | exact kRf_n) ?_
      refine gf_X2_12 B dX2_isOfKind_42 ha rfl ?_
      refine cl_X2_54 B (c_X6_compounds hl hρ hc) hρ dX2_isOfKind_45 (by first | exact Nat.le_of_ble_eq_true rfl | omega | (simp only [kR, Value.category, kCat_q, List.map, List.sum_cons, List.sum_nil]; omega)) (by first | exact Nat.le_of_ble_eq_true rfl | omega | (simp only [kR, Value.category, kCat_q, List.map, List.sum_cons, List.sum_nil]; omega)) (by first | exact Nat.le_of_ble_eq_true rfl | omega | (simp only [kR, Value.category, kCat_q, List.map, List.sum_cons, List.sum_nil]; omega)) (by first | exact Nat.le_of_ble_eq_true rfl | omega | (simp only [kR, Value.category, kCat_q, List.map, List.sum_cons, List.sum_nil]; omega)) (by first | exact Nat.le_of_ble_eq_true rfl | omega | (simp only [kR, Value.category, kCat_q, List.map, List.sum_cons, List.sum_nil]; omega)) (fun _ hx => hx.elim) (fun v45 s45 hp45 => ?_)
      obtain ⟨rfl, rfl⟩ := hp45
      refine kK.rev (y := .int (coS (kCon L) 0)) rfl ?_
      refine k_if_ne B 64 dX2_isOfKind_48 (by decide) (fun c48 => ?_) (fun c48 => ?_)
      · refine no ?_ _
        rw [okB, if_pos rfl, n1, decide_eq_false c48]; simp
      · refine k_aload_n B dX2_isOfKind_51 rfl (by first | exact kRf_r _ | exact kRf_q _ | exact kRf_n) ?_
        refine cl_X2_57 B (c_X2_leastAge hl ha hρ hc hy) ha dX2_isOfKind_52 (by first | exact Nat.le_of_ble_eq_true rfl | omega | (simp only [kR, Value.category, kCat_q, List.map, List.sum_cons, List.sum_nil]; omega)) (by first | exact Nat.le_of_ble_eq_true rfl | omega | (simp only [kR, Value.category, kCat_q, List.map, List.sum_cons, List.sum_nil]; omega)) (by first | exact Nat.le_of_ble_eq_true rfl | omega | (simp only [kR, Value.category, kCat_q, List.map, List.sum_cons, List.sum_nil]; omega)) (by first | exact Nat.le_of_ble_eq_true rfl | omega | (simp only [kR, Value.category, kCat_q, List.map, List.sum_cons, List.sum_nil]; omega)) (by first | exact Nat.le_of_ble_eq_true rfl | omega | (simp only [kR, Value.category, kCat_q, List.map, List.sum_cons, List.sum_nil]; omega)) (fun _ hx => hx.elim) (fun v52 s52 hp52 => ?_)
        obtain ⟨rfl, rfl⟩ := hp52
        refine kK.rev (y := .int (nI b - yoI (kCon L))) rfl ?_
        refine k_bipush B (v := 10) dX2_isOfKind_55 (by decide) ?_
        refine k_icmp_lt B 64 dX2_isOfKind_57 (by decide) (fun c57 => ?_) (fun c57 => ?_)
        · refine no ?_ _
          rw [okB, if_pos rfl, n1, decide_eq_true c48, decide_eq_false (i32_lt_nle c57)]; simp
        · refine k_iconst B (v := 1) dX2_isOfKind_60 (by decide) ?_
          refine k_goto B 65 dX2_isOfKind_61 (by decide) ?_
          refine k_zret B hr dX2_isOfKind_65 (by rfl) ?_ (by first | exact Nat.le_of_ble_eq_true rfl | omega | (simp only [kR, Value.category, kCat_q, List.map, List.sum_cons, List.sum_nil]; omega)) (by first | exact Nat.le_of_ble_eq_true rfl | omega | (simp only [kR, Value.category, kCat_q, List.map, List.sum_cons, List.sum_nil]; omega))
          exact ⟨by rw [okB, if_pos rfl, n1, decide_eq_true c48, decide_eq_true (i32_nlt c57)]; rfl, rfl⟩
  · refine k_iload_n B dX2_isOfKind_0 rfl ?_
    refine k_lookup B 66 dX2_isOfKind_1 (by decide) (off := 65) (by decide) (by decide) ?_
    refine k_aload_n B dX2_isOfKind_66 rfl (by first | exact kRf_r _ | exact kRf_q _ | exact kRf_n) ?_
    refine k_iconst B (v := 3) dX2_isOfKind_67 (by decide) ?_
    refine k_iload_n B dX2_isOfKind_68 rfl ?_
    refine k_iconst B (v := (-1)) dX2_isOfKind_69 (by decide) ?_
    refine k_ixor B dX2_isOfKind_70 ?_
    refine k_iand B dX2_isOfKind_71 ?_
    refine k_bipush B (v := 8) dX2_isOfKind_72 (by decide) ?_
    refine cl_X2_50 B (c_X2_hasAtMost hl (nf := 8) ha hρ hc hu h1 h2) ha dX2_isOfKind_74 (by first | exact Nat.le_of_ble_eq_true rfl | omega | (simp only [kR, Value.category, kCat_q, List.map, List.sum_cons, List.sum_nil]; omega)) (by first | exact Nat.le_of_ble_eq_true rfl | omega | (simp only [kR, Value.category, kCat_q, List.map, List.sum_cons, List.sum_nil]; omega)) (by first | exact Nat.le_of_ble_eq_true rfl | omega | (simp only [kR, Value.category, kCat_q, List.map, List.sum_cons, List.sum_nil]; omega)) (by first | exact Nat.le_of_ble_eq_true rfl | omega | (simp only [kR, Value.category, kCat_q, List.map, List.sum_cons, List.sum_nil]; omega)) (by first | exact Nat.le_of_ble_eq_true rfl | omega | (simp only [kR, Value.category, kCat_q, List.map, List.sum_cons, List.sum_nil]; omega)) (fun _ hx => hx.elim) (fun v74 s74 hp74 => ?_)
    obtain ⟨rfl, rfl⟩ := hp74
    refine kK.rev (y := .int (bI (hamB tr (3 &&& (fb ^^^ (-1))) 8 (kCon L)))) rfl ?_
    refine k_zret B hr dX2_isOfKind_77 (bI_n _) ?_ (by first | exact Nat.le_of_ble_eq_true rfl | omega | (simp only [kR, Value.category, kCat_q, List.map, List.sum_cons, List.sum_nil]; omega)) (by first | exact Nat.le_of_ble_eq_true rfl | omega | (simp only [kR, Value.category, kCat_q, List.map, List.sum_cons, List.sum_nil]; omega))
    exact ⟨by rw [okB, if_neg (by decide), if_pos rfl], rfl⟩
  · refine k_iload_n B dX2_isOfKind_0 rfl ?_
    refine k_lookup B 78 dX2_isOfKind_1 (by decide) (off := 77) (by decide) (by decide) ?_
    refine k_iconst B (v := 1) dX2_isOfKind_78 (by decide) ?_
    refine k_zret B hr dX2_isOfKind_79 (by rfl) ?_ (by first | exact Nat.le_of_ble_eq_true rfl | omega | (simp only [kR, Value.category, kCat_q, List.map, List.sum_cons, List.sum_nil]; omega)) (by first | exact Nat.le_of_ble_eq_true rfl | omega | (simp only [kR, Value.category, kCat_q, List.map, List.sum_cons, List.sum_nil]; omega))
    exact ⟨by rw [okB, if_neg (by decide), if_neg (by decide)]; rfl, rfl⟩
set_option maxRecDepth 100000 in
theorem c_X2_meanAge (hl : l.stackTraces = false) (ha : σ a = some (lotE w b ρ tr lb tru rc)) (hρ : σ ρ = some (rowE (nI u) (hdA L) z)) (hc : pCh σ L) (hu1 : 1 ≤ u) (hu2 : u < 2 ^ 31) (hy : ∀ q ∈ L, q.2.2.1 ≤ b) (hnn : vf_n32 (FP.fdiv (FP.i2f (nI (agS b (kCon L)))) (FP.i2f (nI u)))) : kMh hX2_meanAge l D yX2_meanAge 2 0 0 [.ref a] σ (fun v s2 => v = some (.float (FP.fdiv (FP.i2f (nI (agS b (kCon L)))) (FP.i2f (nI u)))) ∧ s2 = σ) (fun _ => False) := by
  refine kM_of (L := [some (.ref a)]) (by decide +kernel) hl (List.forall_mem_cons.mpr ⟨rfl, (fun _ h => absurd h List.not_mem_nil)⟩) (Nat.le_of_ble_eq_true rfl) rfl ?_
  intro p e s m args below meth c B hr hex hnm
  have B : kB p l s m args meth c D (kA σ s.heap.size) 1 cX2_meanAge RX2 := B
  refine k_aload_n B dX2_meanAge_0 rfl (by first | exact kRf_r _ | exact kRf_q _ | exact kRf_n) ?_
  refine gf_X2_12 B dX2_meanAge_1 ha rfl ?_
  refine gf_X2_39 B dX2_meanAge_4 hρ rfl ?_
  refine k_iconst B (v := 1) dX2_meanAge_7 (by decide) ?_
  refine k_icmp_ge B 13 dX2_meanAge_8 (by decide) (fun c8 => ?_) (fun c8 => ?_)
  · refine k_aload_n B dX2_meanAge_13 rfl (by first | exact kRf_r _ | exact kRf_q _ | exact kRf_n) ?_
    refine gf_X2_12 B dX2_meanAge_14 ha rfl ?_
    refine k_aload_n B dX2_meanAge_17 rfl (by first | exact kRf_r _ | exact kRf_q _ | exact kRf_n) ?_
    refine gf_X2_25 B dX2_meanAge_18 ha rfl ?_
    refine cl_X2_42 B (c_X6_agesIn hl hρ hc hy) hρ dX2_meanAge_21 (by first | exact Nat.le_of_ble_eq_true rfl | omega | (simp only [kR, Value.category, kCat_q, List.map, List.sum_cons, List.sum_nil]; omega)) (by first | exact Nat.le_of_ble_eq_true rfl | omega | (simp only [kR, Value.category, kCat_q, List.map, List.sum_cons, List.sum_nil]; omega)) (by first | exact Nat.le_of_ble_eq_true rfl | omega | (simp only [kR, Value.category, kCat_q, List.map, List.sum_cons, List.sum_nil]; omega)) (by first | exact Nat.le_of_ble_eq_true rfl | omega | (simp only [kR, Value.category, kCat_q, List.map, List.sum_cons, List.sum_nil]; omega)) (by first | exact Nat.le_of_ble_eq_true rfl | omega | (simp only [kR, Value.category, kCat_q, List.map, List.sum_cons, List.sum_nil]; omega)) (fun _ hx => hx.elim) (fun v21 s21 hp21 => ?_)
    obtain ⟨rfl, rfl⟩ := hp21
    refine kK.rev (y := .int (nI (agS b (kCon L)))) rfl ?_
    refine k_i2f B dX2_meanAge_24 ?_
    refine k_aload_n B dX2_meanAge_25 rfl (by first | exact kRf_r _ | exact kRf_q _ | exact kRf_n) ?_
    refine gf_X2_12 B dX2_meanAge_26 ha rfl ?_
    refine gf_X2_39 B dX2_meanAge_29 hρ rfl ?_
    refine k_i2f B dX2_meanAge_32 ?_
    refine k_fdiv B dX2_meanAge_33 hnn ?_
    refine k_fret B hr dX2_meanAge_34 ?_ (by first | exact Nat.le_of_ble_eq_true rfl | omega | (simp only [kR, Value.category, kCat_q, List.map, List.sum_cons, List.sum_nil]; omega)) (by first | exact Nat.le_of_ble_eq_true rfl | omega | (simp only [kR, Value.category, kCat_q, List.map, List.sum_cons, List.sum_nil]; omega))
    exact ⟨rfl, rfl⟩
  · exact absurd (show nI 1 ≤ nI u from (nI_leI (by omega) hu2).mpr hu1) c8
end LotK
