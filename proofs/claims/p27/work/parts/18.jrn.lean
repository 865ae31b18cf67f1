/-! ===== chains of any kind ===== -/
def ad {α : Type} (L : List (Nat × α)) : List Nat := L.map (·.1)
def hdG {α : Type} (T : List (Nat × α)) (nx : Option Nat) : Option Nat := match T with
  | [] => nx
  | (a, _) :: _ => some a
def gSeg {α : Type} (enc : α → Option Nat → va_E) (σ : kS) : List (Nat × α) → Option Nat → Prop
  | [], _ => True
  | (a, p) :: t, nx => σ a = some (enc p (hdG t nx)) ∧ gSeg enc σ t nx
section GSeg
variable {α : Type} {enc : α → Option Nat → va_E} {σ s2 : kS}
theorem hdG_n (T : List (Nat × α)) : hdG T none = hdA T := by cases T <;> rfl
theorem hdG_app (A T : List (Nat × α)) (nx : Option Nat) : hdG (A ++ T) nx = hdG A (hdG T nx) := by cases A <;> rfl
theorem gSeg_app {A T : List (Nat × α)} {nx : Option Nat} : gSeg enc σ (A ++ T) nx ↔ gSeg enc σ A (hdG T nx) ∧ gSeg enc σ T nx := by
  induction A with
  | nil => simp [gSeg]
  | cons q t ih => simp only [List.cons_append, gSeg, hdG_app, ih, and_assoc]
theorem gSeg_mem {L : List (Nat × α)} {nx : Option Nat} (h : gSeg enc σ L nx) {a : Nat} {p : α} (hm : (a, p) ∈ L) : ∃ y, σ a = some (enc p y) := by
  induction L with
  | nil => cases hm
  | cons q t ih =>
    rcases List.mem_cons.mp hm with e | e
    · subst e; exact ⟨_, h.1⟩
    · exact ih h.2 e
theorem ad_mem {L : List (Nat × α)} {a : Nat} : a ∈ ad L ↔ ∃ p, (a, p) ∈ L := by simp [ad]
theorem ad_app (A T : List (Nat × α)) : ad (A ++ T) = ad A ++ ad T := by simp [ad]
theorem gSeg_adr {L : List (Nat × α)} {nx : Option Nat} (h : gSeg enc σ L nx) {a : Nat} (ha : a ∈ ad L) : ∃ p y, σ a = some (enc p y) := by
  obtain ⟨p, hp⟩ := ad_mem.mp ha
  obtain ⟨y, hy⟩ := gSeg_mem h hp
  exact ⟨p, y, hy⟩
theorem gSeg_keep {L : List (Nat × α)} {nx : Option Nat} (h : gSeg enc σ L nx) (hk : ∀ a ∈ ad L, ∀ e, σ a = some e → s2 a = some e) : gSeg enc s2 L nx := by
  induction L with
  | nil => trivial
  | cons q t ih => exact ⟨hk _ (by simp [ad]) _ h.1, ih h.2 (fun a ha => hk a (by simp only [ad, List.map_cons, List.mem_cons] at ha ⊢; exact Or.inr ha))⟩
theorem gSeg_up {L : List (Nat × α)} {nx : Option Nat} {a : Nat} {x : va_E} (h : gSeg enc σ L nx) (ha : a ∉ ad L) : gSeg enc (kUp σ a x) L nx := gSeg_keep h (fun b hb e he => kUp_o (fun q => ha (q ▸ hb)) he)
theorem gSeg_out {X : Nat → Prop} {L : List (Nat × α)} {nx : Option Nat} (h : gSeg enc σ L nx) (ho : kOut X σ s2) (hx : ∀ a ∈ ad L, ¬ X a) : gSeg enc s2 L nx := gSeg_keep h (fun a ha e he => ho a e he (hx a ha))
end GSeg
/-- appending one cell to a chain whose first and last are held elsewhere: the store behind it -/
theorem gSeg_snoc {α : Type} {enc : α → Option Nat → va_E} {σ : kS} {L : List (Nat × α)} {a : Nat} {p : α} (h : gSeg enc σ L (some a)) (ha : σ a = some (enc p none)) : gSeg enc σ (L ++ [(a, p)]) none := gSeg_app.mpr ⟨h, ha, trivial⟩
/-! ===== the journal ===== -/
abbrev kMv : Type := Int32 × Int32 × Nat
abbrev kMs : Type := List (Nat × kMv)
def mE (q : kMv) (nx : Option Nat) : va_E := .inr (3, [.int q.1, .int q.2.1, .int (nI q.2.2), va_rf nx])
def jE (tk : Nat) (f z sp : Option Nat) : va_E := .inr (1, [.ref tk, va_rf f, va_rf z, va_rf sp])
def pcE (q : Int32 × Int32) (nx : Option Nat) : va_E := .inr (4, [.int q.1, .int q.2, va_rf nx])
def tpE (q : Nat × Nat) (nx : Option Nat) : va_E := .inr (4, [.int (nI q.1), .int (nI q.2), va_rf nx])
def tE (came went : Nat) (f z : Option Nat) : va_E := .inr (7, [.int (nI came), .int (nI went), va_rf f, va_rf z])
abbrev kQs : Type := List (Nat × (Int32 × Int32))
abbrev kTs : Type := List (Nat × (Nat × Nat))
def k13 (k : Nat) : Prop := k = 1 ∨ k = 3
def k14 (k : Nat) : Prop := k = 1 ∨ k = 4
def k47 (k : Nat) : Prop := k = 4 ∨ k = 7
def k147 (k : Nat) : Prop := k = 1 ∨ k = 4 ∨ k = 7
section Jrn
variable {l : Launch} {D : va_G} {σ : kS} {aJ tk : Nat}
set_option maxRecDepth 100000 in
theorem c_X1_note (hl : l.stackTraces = false) {J : kMs} {sp : Option Nat} {f t : Int32} {u : Nat} (hJ : σ aJ = some (jE tk (hdA J) (lsA J) sp)) (hc : gSeg mE σ J none) (hn : (ad J).Nodup) (hu : 0 < u) (hub : u < 2 ^ 31) : kMh hX1_note l D yX1_note 2 1 4 [.ref aJ, .int f, .int t, .int (nI u)] σ (fun v s2 => ∃ q, v = none ∧ σ q = none ∧ s2 aJ = some (jE tk (hdA (J ++ [(q, (f, t, u))])) (lsA (J ++ [(q, (f, t, u))])) sp) ∧ gSeg mE s2 (J ++ [(q, (f, t, u))]) none ∧ kFr k13 σ s2) (fun _ => False) := by
  refine kM_of (L := [some (.ref aJ), some (.int f), some (.int t), some (.int (nI u)), none]) (by decide +kernel) hl (List.forall_mem_cons.mpr ⟨rfl, (List.forall_mem_cons.mpr ⟨rfl, (List.forall_mem_cons.mpr ⟨rfl, (List.forall_mem_cons.mpr ⟨rfl, (fun _ h => absurd h List.not_mem_nil)⟩)⟩)⟩)⟩) (Nat.le_of_ble_eq_true rfl) rfl ?_
  intro p e s m args below meth c B hr hex hnm
  have B : kB p l s m args meth c D (kA σ s.heap.size) 5 cX1_note RX1 := B
  refine k_iload_n B dX1_note_0 rfl ?_
  refine k_iconst B (v := 1) dX1_note_1 (by decide) ?_
  refine k_icmp_ge B 6 dX1_note_2 (by decide) (fun c2 => ?_) (fun c2 => ?_)
  · refine nw_X1_18 B dX1_note_6 (by first | exact Nat.le_of_ble_eq_true rfl | omega | (simp only [kR, Value.category, kCat_q, List.map, List.sum_cons, List.sum_nil]; omega)) (by first | exact Nat.le_of_ble_eq_true rfl | omega | (simp only [kR, Value.category, kCat_q, List.map, List.sum_cons, List.sum_nil]; omega)) (fun q6 hq6 => ?_)
    refine k_dup B dX1_note_9 rfl ?_
    refine k_iload_n B dX1_note_10 rfl ?_
    refine k_iload_n B dX1_note_11 rfl ?_
    refine k_iload_n B dX1_note_12 rfl ?_
    refine cl_X1_20 B (c_X3_init hl kUp_eq) dX1_note_13 (by first | exact Nat.le_of_ble_eq_true rfl | omega | (simp only [kR, Value.category, kCat_q, List.map, List.sum_cons, List.sum_nil]; omega)) (by first | exact Nat.le_of_ble_eq_true rfl | omega | (simp only [kR, Value.category, kCat_q, List.map, List.sum_cons, List.sum_nil]; omega)) (by first | exact Nat.le_of_ble_eq_true rfl | omega | (simp only [kR, Value.category, kCat_q, List.map, List.sum_cons, List.sum_nil]; omega)) (by first | exact Nat.le_of_ble_eq_true rfl | omega | (simp only [kR, Value.category, kCat_q, List.map, List.sum_cons, List.sum_nil]; omega)) (by first | exact Nat.le_of_ble_eq_true rfl | omega | (simp only [kR, Value.category, kCat_q, List.map, List.sum_cons, List.sum_nil]; omega)) (fun _ hx => hx.elim) (fun v13 s13 hp13 => ?_)
    obtain ⟨rfl, rfl⟩ := hp13
    refine kK.eq (σ2 := kUp σ q6 (mE (f, t, u) none)) (by rw [kUp_uu]; rfl) ?_
    have hJ2 := kUp_o (e := mE (f, t, u) none) (kNeN hJ hq6) hJ
    have hJq : aJ ≠ q6 := kNeN hJ hq6
    have hc2 : gSeg mE (kUp σ q6 (mE (f, t, u) none)) J none := gSeg_keep hc (fun a _ x hx => kUp_o (kNeN hx hq6) hx)
    rcases List.eq_nil_or_concat J with e0 | ⟨J0, b, e0⟩
    · subst e0
      refine k_astore B dX1_note_16 (by decide) (by first | exact kRf_r _ | exact kRf_q _ | exact kRf_n) ?_
      try refine kK.set1 (by first | exact True.intro | rfl | exact kCat_q _) ?_
      refine k_aload_n B dX1_note_18 rfl (by first | exact kRf_r _ | exact kRf_q _ | exact kRf_n) ?_
      refine gf_X1_23 B dX1_note_19 hJ2 rfl ?_
      refine k_ifnonnullN B 34 dX1_note_22 (by decide) ?_
      refine k_aload_n B dX1_note_25 rfl (by first | exact kRf_r _ | exact kRf_q _ | exact kRf_n) ?_
      refine k_aload B dX1_note_26 rfl (by first | exact kRf_r _ | exact kRf_q _ | exact kRf_n) ?_
      refine pf_X1_27 B dX1_note_28 hJ2 rfl (by first | exact kRf_r _ | exact kRf_q _ | exact kRf_n) ?_
      refine k_goto B 43 dX1_note_31 (by decide) ?_
      refine k_aload_n B dX1_note_43 rfl (by first | exact kRf_r _ | exact kRf_q _ | exact kRf_n) ?_
      refine k_aload B dX1_note_44 rfl (by first | exact kRf_r _ | exact kRf_q _ | exact kRf_n) ?_
      refine pf_X1_23 B dX1_note_46 kUp_eq rfl (by first | exact kRf_r _ | exact kRf_q _ | exact kRf_n) ?_
      refine k_vret B hr dX1_note_49 ?_ (by first | exact Nat.le_of_ble_eq_true rfl | omega | (simp only [kR, Value.category, kCat_q, List.map, List.sum_cons, List.sum_nil]; omega)) (by first | exact Nat.le_of_ble_eq_true rfl | omega | (simp only [kR, Value.category, kCat_q, List.map, List.sum_cons, List.sum_nil]; omega))
      exact ⟨q6, rfl, hq6, kUp_eq, ⟨by rw [kUp_uu]; exact kUp_o (Ne.symm hJq) kUp_eq, trivial⟩, (kFr.new hq6).tr ((kFr.up hJ2 (Or.inl rfl)).tr (kFr.up kUp_eq (Or.inl rfl)))⟩
    · obtain ⟨b, pb⟩ := b
      rw [List.concat_eq_append] at e0
      have hls : lsA J = some b := by rw [e0]; exact lsA_snoc _ _ _
      rw [hls] at hJ2
      rw [e0] at hc2
      obtain ⟨g1, g2⟩ := gSeg_app.mp hc2
      have hb2 := g2.1
      have hbJ : b ≠ aJ := kNe hb2 hJ2 (by decide)
      have hbq : b ≠ q6 := by
        intro h
        have : b ∈ ad J := by rw [e0, ad_app]; simp [ad]
        obtain ⟨p1, y1, h1⟩ := gSeg_adr hc this
        rw [h, hq6] at h1
        cases h1
      have hnb : b ∉ ad J0 := by
        rw [e0, ad_app] at hn
        exact fun h => (List.nodup_append.mp hn).2.2 b h b (by simp [ad]) rfl
      refine k_astore B dX1_note_16 (by decide) (by first | exact kRf_r _ | exact kRf_q _ | exact kRf_n) ?_
      try refine kK.set1 (by first | exact True.intro | rfl | exact kCat_q _) ?_
      refine k_aload_n B dX1_note_18 rfl (by first | exact kRf_r _ | exact kRf_q _ | exact kRf_n) ?_
      refine gf_X1_23 B dX1_note_19 hJ2 rfl ?_
      refine k_ifnonnullR B 34 dX1_note_22 (by decide) ?_
      refine k_aload_n B dX1_note_34 rfl (by first | exact kRf_r _ | exact kRf_q _ | exact kRf_n) ?_
      refine gf_X1_23 B dX1_note_35 hJ2 rfl ?_
      refine k_aload B dX1_note_38 rfl (by first | exact kRf_r _ | exact kRf_q _ | exact kRf_n) ?_
      refine pf_X1_30 B dX1_note_40 hb2 rfl (by first | exact kRf_r _ | exact kRf_q _ | exact kRf_n) ?_
      refine k_aload_n B dX1_note_43 rfl (by first | exact kRf_r _ | exact kRf_q _ | exact kRf_n) ?_
      refine k_aload B dX1_note_44 rfl (by first | exact kRf_r _ | exact kRf_q _ | exact kRf_n) ?_
      refine pf_X1_23 B dX1_note_46 (kUp_o (Ne.symm hbJ) hJ2) rfl (by first | exact kRf_r _ | exact kRf_q _ | exact kRf_n) ?_
      refine k_vret B hr dX1_note_49 ?_ (by first | exact Nat.le_of_ble_eq_true rfl | omega | (simp only [kR, Value.category, kCat_q, List.map, List.sum_cons, List.sum_nil]; omega)) (by first | exact Nat.le_of_ble_eq_true rfl | omega | (simp only [kR, Value.category, kCat_q, List.map, List.sum_cons, List.sum_nil]; omega))
      refine ⟨q6, rfl, hq6, ?_, ?_, (kFr.new hq6).tr ((kFr.up hb2 (Or.inr rfl)).tr (kFr.up (kUp_o (Ne.symm hbJ) hJ2) (Or.inl rfl)))⟩
      · rw [kUp_eq, lsA_snoc, e0]
        cases J0 <;> rfl
      · refine gSeg_keep (σ := kUp (kUp σ q6 (mE (f, t, u) none)) b (mE pb (some q6))) (gSeg_snoc ?_ (kUp_o (Ne.symm hbq) kUp_eq)) (fun a ha x hx => kUp_o (fun h => ?_) hx)
        · rw [e0]
          exact gSeg_app.mpr ⟨gSeg_up g1 hnb, kUp_eq, trivial⟩
        · subst h
          have hs : gSeg mE (kUp (kUp σ q6 (mE (f, t, u) none)) b (mE pb (some q6))) (J ++ [(q6, (f, t, u))]) none := gSeg_snoc (by
            rw [e0]
            exact gSeg_app.mpr ⟨gSeg_up g1 hnb, kUp_eq, trivial⟩) (kUp_o (Ne.symm hbq) kUp_eq)
          obtain ⟨p1, y1, h1⟩ := gSeg_adr hs ha
          rw [kUp_o (Ne.symm hbJ) hJ2] at h1
          cases h1
  · exact absurd (show nI 1 ≤ nI u from (nI_leI (by omega) hub).mpr hu) c2
set_option maxRecDepth 100000 in
theorem c_X1_note0 (hl : l.stackTraces = false) {f t : Int32} : kMh hX1_note l D yX1_note 2 1 4 [.ref aJ, .int f, .int t, .int (nI 0)] σ (fun v s2 => v = none ∧ s2 = σ) (fun _ => False) := by
  refine kM_of (L := [some (.ref aJ), some (.int f), some (.int t), some (.int (nI 0)), none]) (by decide +kernel) hl (List.forall_mem_cons.mpr ⟨rfl, (List.forall_mem_cons.mpr ⟨rfl, (List.forall_mem_cons.mpr ⟨rfl, (List.forall_mem_cons.mpr ⟨rfl, (fun _ h => absurd h List.not_mem_nil)⟩)⟩)⟩)⟩) (Nat.le_of_ble_eq_true rfl) rfl ?_
  intro p e s m args below meth c B hr hex hnm
  have B : kB p l s m args meth c D (kA σ s.heap.size) 5 cX1_note RX1 := B
  refine k_iload_n B dX1_note_0 rfl ?_
  refine k_iconst B (v := 1) dX1_note_1 (by decide) ?_
  refine k_icmp_ge B 6 dX1_note_2 (by decide) (fun c2 => ?_) (fun c2 => ?_)
  · exact absurd c2 (by decide)
  · refine k_vret B hr dX1_note_5 ?_ (by first | exact Nat.le_of_ble_eq_true rfl | omega | (simp only [kR, Value.category, kCat_q, List.map, List.sum_cons, List.sum_nil]; omega)) (by first | exact Nat.le_of_ble_eq_true rfl | omega | (simp only [kR, Value.category, kCat_q, List.map, List.sum_cons, List.sum_nil]; omega))
    exact ⟨rfl, rfl⟩
set_option maxRecDepth 100000 in
theorem c_X1_putAway (hl : l.stackTraces = false) {a : Nat} {q : Int32 × Int32} {nx f z sp : Option Nat} (hJ : σ aJ = some (jE tk f z sp)) (ha : σ a = some (pcE q nx)) : kMh hX1_putAway l D yX1_putAway 1 0 0 [.ref aJ, .ref a] σ (fun v s2 => v = none ∧ s2 = kUp (kUp σ a (pcE q sp)) aJ (jE tk f z (some a))) (fun _ => False) := by
  refine kM_of (L := [some (.ref aJ), some (.ref a)]) (by decide +kernel) hl (List.forall_mem_cons.mpr ⟨rfl, (List.forall_mem_cons.mpr ⟨rfl, (fun _ h => absurd h List.not_mem_nil)⟩)⟩) (Nat.le_of_ble_eq_true rfl) rfl ?_
  intro p e s m args below meth c B hr hex hnm
  have B : kB p l s m args meth c D (kA σ s.heap.size) 2 cX1_putAway RX1 := B
  have hne : aJ ≠ a := kNe hJ ha (by decide)
  refine k_aload_n B dX1_putAway_0 rfl (by first | exact kRf_r _ | exact kRf_q _ | exact kRf_n) ?_
  refine k_aload_n B dX1_putAway_1 rfl (by first | exact kRf_r _ | exact kRf_q _ | exact kRf_n) ?_
  refine gf_X1_93 B dX1_putAway_2 hJ rfl ?_
  refine pf_X1_57 B dX1_putAway_5 ha rfl (by first | exact kRf_r _ | exact kRf_q _ | exact kRf_n) ?_
  refine k_aload_n B dX1_putAway_8 rfl (by first | exact kRf_r _ | exact kRf_q _ | exact kRf_n) ?_
  refine k_aload_n B dX1_putAway_9 rfl (by first | exact kRf_r _ | exact kRf_q _ | exact kRf_n) ?_
  refine pf_X1_93 B dX1_putAway_10 (kUp_o hne hJ) rfl (by first | exact kRf_r _ | exact kRf_q _ | exact kRf_n) ?_
  refine k_vret B hr dX1_putAway_13 ?_ (by first | exact Nat.le_of_ble_eq_true rfl | omega | (simp only [kR, Value.category, kCat_q, List.map, List.sum_cons, List.sum_nil]; omega)) (by first | exact Nat.le_of_ble_eq_true rfl | omega | (simp only [kR, Value.category, kCat_q, List.map, List.sum_cons, List.sum_nil]; omega))
  exact ⟨rfl, rfl⟩
def spN (SP : kQs) : Nat := match SP with
  | [] => 1
  | _ :: _ => 0
/-- newPiece: from the spare ones, or made -/
def npP (σ : kS) (aJ tk : Nat) (f z : Option Nat) (SP : kQs) (x y : Int32) (v : Option Value) (s2 : kS) : Prop := ∃ (b : Nat) (SP2 : kQs) (nx : Option Nat), v = some (.ref b) ∧ s2 aJ = some (jE tk f z (hdA SP2)) ∧ gSeg pcE s2 SP2 none ∧ s2 b = some (pcE (x, y) nx) ∧ kOut (fun a => a = aJ ∨ a ∈ ad SP) σ s2 ∧ ((SP = [] ∧ SP2 = [] ∧ σ b = none) ∨ ∃ q, SP = (b, q) :: SP2) ∧ kFr k14 σ s2
set_option maxRecDepth 100000 in
theorem c_X1_newPiece (hl : l.stackTraces = false) {x y : Int32} {f z : Option Nat} {SP : kQs} (hJ : σ aJ = some (jE tk f z (hdA SP))) (hs : gSeg pcE σ SP none) (hn : (ad SP).Nodup) : kMh hX1_newPiece l D yX1_newPiece 2 (spN SP) (3 * spN SP) [.ref aJ, .int x, .int y] σ (npP σ aJ tk f z SP x y) (fun _ => False) := by
  refine kM_of (L := [some (.ref aJ), some (.int x), some (.int y), none]) (by decide +kernel) hl (List.forall_mem_cons.mpr ⟨rfl, (List.forall_mem_cons.mpr ⟨rfl, (List.forall_mem_cons.mpr ⟨rfl, (fun _ h => absurd h List.not_mem_nil)⟩)⟩)⟩) (Nat.le_of_ble_eq_true rfl) rfl ?_
  intro p e s m args below meth c B hr hex hnm
  have B : kB p l s m args meth c D (kA σ s.heap.size) 4 cX1_newPiece RX1 := B
  cases SP with
  | nil =>
    have hJ0 : σ aJ = some (jE tk f z none) := hJ
    refine k_aload_n B dX1_newPiece_0 rfl (by first | exact kRf_r _ | exact kRf_q _ | exact kRf_n) ?_
    refine gf_X1_93 B dX1_newPiece_1 hJ0 rfl ?_
    refine k_astore_n B dX1_newPiece_4 (by decide) (by first | exact kRf_r _ | exact kRf_q _ | exact kRf_n) ?_
    try refine kK.set1 (by first | exact True.intro | rfl | exact kCat_q _) ?_
    refine k_aload_n B dX1_newPiece_5 rfl (by first | exact kRf_r _ | exact kRf_q _ | exact kRf_n) ?_
    refine k_ifnonnullN B 20 dX1_newPiece_6 (by decide) ?_
    refine nw_X1_58 B dX1_newPiece_9 (by first | exact Nat.le_of_ble_eq_true rfl | omega | (simp only [kR, Value.category, kCat_q, List.map, List.sum_cons, List.sum_nil]; omega)) (by first | exact Nat.le_of_ble_eq_true rfl | omega | (simp only [kR, Value.category, kCat_q, List.map, List.sum_cons, List.sum_nil]; omega)) (fun q9 hq9 => ?_)
    refine k_dup B dX1_newPiece_12 rfl ?_
    refine cl_X1_96 B (c_X4_init hl) dX1_newPiece_13 (by first | exact Nat.le_of_ble_eq_true rfl | omega | (simp only [kR, Value.category, kCat_q, List.map, List.sum_cons, List.sum_nil]; omega)) (by first | exact Nat.le_of_ble_eq_true rfl | omega | (simp only [kR, Value.category, kCat_q, List.map, List.sum_cons, List.sum_nil]; omega)) (by first | exact Nat.le_of_ble_eq_true rfl | omega | (simp only [kR, Value.category, kCat_q, List.map, List.sum_cons, List.sum_nil]; omega)) (by first | exact Nat.le_of_ble_eq_true rfl | omega | (simp only [kR, Value.category, kCat_q, List.map, List.sum_cons, List.sum_nil]; omega)) (by first | exact Nat.le_of_ble_eq_true rfl | omega | (simp only [kR, Value.category, kCat_q, List.map, List.sum_cons, List.sum_nil]; omega)) (fun _ hx => hx.elim) (fun v13 s13 hp13 => ?_)
    obtain ⟨rfl, rfl⟩ := hp13
    refine k_astore_n B dX1_newPiece_16 (by decide) (by first | exact kRf_r _ | exact kRf_q _ | exact kRf_n) ?_
    try refine kK.set1 (by first | exact True.intro | rfl | exact kCat_q _) ?_
    refine k_goto B 28 dX1_newPiece_17 (by decide) ?_
    refine k_aload_n B dX1_newPiece_28 rfl (by first | exact kRf_r _ | exact kRf_q _ | exact kRf_n) ?_
    refine k_iload_n B dX1_newPiece_29 rfl ?_
    refine pf_X1_85 B dX1_newPiece_30 kUp_eq rfl ?_
    refine k_aload_n B dX1_newPiece_33 rfl (by first | exact kRf_r _ | exact kRf_q _ | exact kRf_n) ?_
    refine k_iload_n B dX1_newPiece_34 rfl ?_
    refine pf_X1_92 B dX1_newPiece_35 kUp_eq rfl ?_
    refine k_aload_n B dX1_newPiece_38 rfl (by first | exact kRf_r _ | exact kRf_q _ | exact kRf_n) ?_
    refine k_aret B hr ⟨_, rfl⟩ dX1_newPiece_39 (by first | exact kRf_r _ | exact kRf_q _ | exact kRf_n) ?_ (by first | exact Nat.le_of_ble_eq_true rfl | omega | (simp only [kR, Value.category, kCat_q, List.map, List.sum_cons, List.sum_nil]; omega)) (by first | exact Nat.le_of_ble_eq_true rfl | omega | (simp only [kR, Value.category, kCat_q, List.map, List.sum_cons, List.sum_nil]; omega))
    have hJ9 : aJ ≠ q9 := kNeN hJ0 hq9
    refine ⟨q9, [], none, rfl, ?_, trivial, ?_, ?_, Or.inl ⟨rfl, rfl, hq9⟩, ?_⟩
    · exact kUp_o hJ9 (kUp_o hJ9 (kUp_o hJ9 hJ0))
    · exact kUp_eq
    · exact fun a e ha _ => kUp_o (kNeN ha hq9) (kUp_o (kNeN ha hq9) (kUp_o (kNeN ha hq9) ha))
    · exact (kFr.new hq9).tr ((kFr.up kUp_eq (Or.inr rfl)).tr (kFr.up kUp_eq (Or.inr rfl)))
  | cons q t =>
    obtain ⟨b, q⟩ := q
    have hJ0 : σ aJ = some (jE tk f z (some b)) := hJ
    have hbJ : b ≠ aJ := kNe hs.1 hJ0 (by decide)
    have hb2 : ∀ e, kUp σ aJ e b = some (pcE q (hdG t none)) := fun e => kUp_o hbJ hs.1
    refine k_aload_n B dX1_newPiece_0 rfl (by first | exact kRf_r _ | exact kRf_q _ | exact kRf_n) ?_
    refine gf_X1_93 B dX1_newPiece_1 hJ0 rfl ?_
    refine k_astore_n B dX1_newPiece_4 (by decide) (by first | exact kRf_r _ | exact kRf_q _ | exact kRf_n) ?_
    try refine kK.set1 (by first | exact True.intro | rfl | exact kCat_q _) ?_
    refine k_aload_n B dX1_newPiece_5 rfl (by first | exact kRf_r _ | exact kRf_q _ | exact kRf_n) ?_
    refine k_ifnonnullR B 20 dX1_newPiece_6 (by decide) ?_
    refine k_aload_n B dX1_newPiece_20 rfl (by first | exact kRf_r _ | exact kRf_q _ | exact kRf_n) ?_
    refine k_aload_n B dX1_newPiece_21 rfl (by first | exact kRf_r _ | exact kRf_q _ | exact kRf_n) ?_
    refine gf_X1_57 B dX1_newPiece_22 hs.1 rfl ?_
    refine pf_X1_93 B dX1_newPiece_25 hJ0 rfl (by first | exact kRf_r _ | exact kRf_q _ | exact kRf_n) ?_
    refine k_aload_n B dX1_newPiece_28 rfl (by first | exact kRf_r _ | exact kRf_q _ | exact kRf_n) ?_
    refine k_iload_n B dX1_newPiece_29 rfl ?_
    refine pf_X1_85 B dX1_newPiece_30 (hb2 _) rfl ?_
    refine k_aload_n B dX1_newPiece_33 rfl (by first | exact kRf_r _ | exact kRf_q _ | exact kRf_n) ?_
    refine k_iload_n B dX1_newPiece_34 rfl ?_
    refine pf_X1_92 B dX1_newPiece_35 kUp_eq rfl ?_
    refine k_aload_n B dX1_newPiece_38 rfl (by first | exact kRf_r _ | exact kRf_q _ | exact kRf_n) ?_
    refine k_aret B hr ⟨_, rfl⟩ dX1_newPiece_39 (by first | exact kRf_r _ | exact kRf_q _ | exact kRf_n) ?_ (by first | exact Nat.le_of_ble_eq_true rfl | omega | (simp only [kR, Value.category, kCat_q, List.map, List.sum_cons, List.sum_nil]; omega)) (by first | exact Nat.le_of_ble_eq_true rfl | omega | (simp only [kR, Value.category, kCat_q, List.map, List.sum_cons, List.sum_nil]; omega))
    refine ⟨b, t, hdG t none, rfl, ?_, ?_, kUp_eq, ?_, Or.inr ⟨q, rfl⟩, ?_⟩
    · rw [kUp_uu]
      exact kUp_o (Ne.symm hbJ) (by rw [kUp_eq, ← hdG_n]; rfl)
    · rw [kUp_uu]
      refine gSeg_keep hs.2 (fun a ha e he => kUp_o (fun h => ?_) (kUp_o (fun h => ?_) he))
      · exact (List.nodup_cons.mp hn).1 (h ▸ ha)
      · subst h
        rw [hJ0] at he
        obtain ⟨p1, y1, h1⟩ := gSeg_adr hs.2 ha
        rw [hJ0] at h1
        cases h1
    · exact (kOut.up (Or.inl rfl)).tr ((kOut.up (Or.inr (by simp [ad]))).tr (kOut.up (Or.inr (by simp [ad]))))
    · exact (kFr.up hJ0 (Or.inl rfl)).tr ((kFr.up (hb2 _) (Or.inr rfl)).tr (kFr.up kUp_eq (Or.inr rfl)))
end Jrn
