/-! numbers -/
def zI (z : Int) : Int32 := Int32.ofInt z
theorem zI_add (a b : Int) : zI a + zI b = zI (a + b) := (Int32.ofInt_add a b).symm
theorem zI_sub (a b : Int) : zI a - zI b = zI (a - b) := (Int32.ofInt_sub a b).symm
theorem zI_mul (a b : Int) : zI a * zI b = zI (a * b) := (Int32.ofInt_mul a b).symm
theorem zI_n (k : Nat) : nI k = zI k := (Int32.ofInt_eq_ofNat (n := k)).symm
theorem zI_toInt {z : Int} (h1 : -2147483648 ≤ z) (h2 : z < 2147483648) : (zI z).toInt = z := Int32.toInt_ofInt_of_le h1 h2
theorem zI_lt {a b : Int} (a1 : -2147483648 ≤ a) (a2 : a < 2147483648) (b1 : -2147483648 ≤ b) (b2 : b < 2147483648) : zI a < zI b ↔ a < b := by
  rw [Int32.lt_iff_toInt_lt, zI_toInt a1 a2, zI_toInt b1 b2]
theorem zI_le {a b : Int} (a1 : -2147483648 ≤ a) (a2 : a < 2147483648) (b1 : -2147483648 ≤ b) (b2 : b < 2147483648) : zI a ≤ zI b ↔ a ≤ b := by
  rw [Int32.le_iff_toInt_le, zI_toInt a1 a2, zI_toInt b1 b2]
theorem zI_eq {a b : Int} (a1 : -2147483648 ≤ a) (a2 : a < 2147483648) (b1 : -2147483648 ≤ b) (b2 : b < 2147483648) : zI a = zI b ↔ a = b := by
  rw [← Int32.toInt_inj, zI_toInt a1 a2, zI_toInt b1 b2]
theorem lit_nI (k : Nat) : (OfNat.ofNat k : Int32) = nI k := rfl
theorem lit_m1 : (-1 : Int32) = zI (-1) := by decide +kernel
theorem zI_cast (a : Nat) : zI (a : Int) = nI a := (zI_n a).symm
theorem am_inK {k N : Nat} (h : k < N) (hN : N ≤ 100000) : am_in (nI k) N = true := by
  unfold am_in
  rw [nI_clamp (by omega)]
  simp [nI_pos (show k < 2 ^ 31 by omega), h]
theorem nK {k : Nat} (h : k ≤ 100000) : (nI k).toNatClampNeg = k := nI_clamp (by omega)
theorem nI_sub {a b : Nat} (h : b ≤ a) : nI a - nI b = nI (a - b) := by
  rw [zI_n, zI_n, zI_sub, zI_n]
  congr 1
  omega
theorem nI_mul (a b : Nat) : nI a * nI b = nI (a * b) := by
  rw [zI_n, zI_n, zI_mul, zI_n]
  congr 1
theorem bmod_small {x : Int} {q : Nat} (hq : q < 2147483648) (h : x = (q : Int)) : x.bmod (2 ^ 32) = (q : Int) := by
  rw [h]
  exact Int.bmod_eq_of_le (by omega) (by omega)
theorem nI_div {a b : Nat} (ha : a < 2 ^ 31) (hb : b < 2 ^ 31) : nI a / nI b = nI (a / b) := by
  apply Int32.toInt_inj.mp
  have hq : a / b < 2 ^ 31 := Nat.lt_of_le_of_lt (Nat.div_le_self a b) ha
  rw [nI_toInt hq, Int32.toInt_div, nI_toInt ha, nI_toInt hb]
  exact bmod_small hq (Int.ofNat_tdiv a b).symm
