/-- an int and the long of the same number become the same float -/
theorem l2f_i2f {a : Nat} (h : a < 2 ^ 31) : FP.l2f (nL a) = FP.i2f (nI a) := by
  show UInt32.ofNat (FP.Core.fromInt FP.Core.b32 (nL a).toInt) = UInt32.ofNat (FP.Core.fromInt FP.Core.b32 (nI a).toInt)
  rw [nI_toInt h, show (nL a).toInt = (a : Int) from lN_toInt h]
theorem agS_le {P : List kP} {y b : Nat} (hb : b ≤ 300) : agS b P ≤ 300 * unS P := by
  induction P with
  | nil => exact Nat.le_refl _
  | cons p t ih =>
    have h3 : kUn p * (b - p.2.1) ≤ kUn p * 300 := Nat.mul_le_mul_left _ (by omega)
    simp only [agS, unS]
    omega
theorem sOk.ag {z : kSt} (hs : sOk z) {i : Nat} (hi : i < sLn z) : agS (sLo z i).2.1 (sR z (11 + i)) ≤ 300000 := by
  have h := hs.2.2.2.1.2 i hi
  have h1 := h.2.1
  have h2 := hs.1.1
  have h3 := agS_le (P := sR z (11 + i)) (y := 0) (b := (sLo z i).2.1) (by omega)
  have h4 := h.2.2.2.2.2.2.2
  omega
