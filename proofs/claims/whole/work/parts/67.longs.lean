/-! longs of few bits; counting bits -/
def nL (a : Nat) : Int64 := Int64.ofNat a
theorem nL_toInt {a : Nat} (h : a < 2 ^ 63) : (nL a).toInt = a := Int64.toInt_ofNat_of_lt h
theorem toL {a : Nat} (h : a < 2 ^ 31) : Int32.toInt64 (nI a) = nL a := by
  apply Int64.toInt_inj.mp
  rw [Int32.toInt_toInt64, nI_toInt h, nL_toInt (by omega)]
theorem ofL {a : Nat} (h : a < 2 ^ 31) : Int64.toInt32 (nL a) = nI a := by
  apply Int32.toInt_inj.mp
  rw [Int64.toInt_toInt32, nL_toInt (by omega), nI_toInt h]
  exact Int.bmod_eq_of_le (by omega) (by omega)
theorem nL_or (a b : Nat) (ha : a < 2 ^ 64) (hb : b < 2 ^ 64) : nL a ||| nL b = nL (a ||| b) := by
  apply Int64.toBitVec_inj.mp
  apply BitVec.eq_of_toNat_eq
  show (BitVec.ofNat 64 a ||| BitVec.ofNat 64 b).toNat = (BitVec.ofNat 64 (a ||| b)).toNat
  rw [BitVec.toNat_or, BitVec.toNat_ofNat, BitVec.toNat_ofNat, BitVec.toNat_ofNat, Nat.mod_eq_of_lt ha, Nat.mod_eq_of_lt hb, Nat.mod_eq_of_lt (Nat.or_lt_two_pow ha hb)]
theorem nL_and (a b : Nat) (ha : a < 2 ^ 64) (hb : b < 2 ^ 64) : nL a &&& nL b = nL (a &&& b) := by
  apply Int64.toBitVec_inj.mp
  apply BitVec.eq_of_toNat_eq
  show (BitVec.ofNat 64 a &&& BitVec.ofNat 64 b).toNat = (BitVec.ofNat 64 (a &&& b)).toNat
  rw [BitVec.toNat_and, BitVec.toNat_ofNat, BitVec.toNat_ofNat, BitVec.toNat_ofNat, Nat.mod_eq_of_lt ha, Nat.mod_eq_of_lt hb, Nat.mod_eq_of_lt (Nat.and_lt_two_pow a hb)]
theorem smod64 : ∀ k : Fin 64, ((Int32.toInt64 (nI k.val) &&& 63).toBitVec.smod 64).toNat = k.val := by decide +kernel
theorem nL_shr {a k : Nat} (ha : a < 2 ^ 63) (hk : k < 64) : nL a >>> (Int32.toInt64 (nI k) &&& 63) = nL (a >>> k) := by
  apply Int64.toInt_inj.mp
  have hk2 := smod64 ⟨k, hk⟩
  have hle := Nat.shiftRight_le a k
  rw [nL_toInt (by omega), ← Int64.toInt_toBitVec, Int64.toBitVec_shiftRight, BitVec.sshiftRight_eq', BitVec.toInt_sshiftRight, hk2, Int64.toInt_toBitVec, nL_toInt ha]
  rfl
theorem nL_shl {a k : Nat} (ha : a * 2 ^ k < 2 ^ 64) (hk : k < 64) : nL a <<< (Int32.toInt64 (nI k) &&& 63) = nL (a * 2 ^ k) := by
  apply Int64.toBitVec_inj.mp
  apply BitVec.eq_of_toNat_eq
  have hk2 := smod64 ⟨k, hk⟩
  have ha2 : a < 2 ^ 64 := Nat.lt_of_le_of_lt (Nat.le_mul_of_pos_right a (Nat.two_pow_pos k)) ha
  rw [Int64.toBitVec_shiftLeft, BitVec.shiftLeft_eq', BitVec.toNat_shiftLeft, hk2]
  show (BitVec.ofNat 64 a).toNat <<< k % 2 ^ 64 = (BitVec.ofNat 64 (a * 2 ^ k)).toNat
  rw [BitVec.toNat_ofNat, BitVec.toNat_ofNat, Nat.mod_eq_of_lt ha2, Nat.shiftLeft_eq]
def pkN (a b c d : Nat) : Nat := 281474976710656 + a * 1099511627776 + b * 4294967296 + c * 16777216 + d
theorem pk_nL {a b c d : Nat} (ha : a < 256) (hb : b < 256) (hc : c < 256) (hd : d < 16777216) : pk (nI a) (nI b) (nI c) (nI d) = nL (pkN a b c d) := by
  unfold pk pkN
  rw [toL (by omega), toL (by omega), toL (by omega), toL (by omega), show (40 : Int32) = nI 40 from rfl, show (32 : Int32) = nI 32 from rfl, show (24 : Int32) = nI 24 from rfl, nL_shl (by omega) (by omega), nL_shl (by omega) (by omega), nL_shl (by omega) (by omega), show (281474976710656 : Int64) = nL 281474976710656 from rfl]
  have e1 : 281474976710656 ||| a * 2 ^ 40 = 281474976710656 + a * 1099511627776 := by
    have := Nat.two_pow_add_eq_or_of_lt (i := 48) (b := a * 2 ^ 40) (by omega) 1
    rw [show 281474976710656 = 2 ^ 48 * 1 by decide, ← this]
  have e2 : (281474976710656 + a * 1099511627776) ||| b * 2 ^ 32 = 281474976710656 + a * 1099511627776 + b * 4294967296 := by
    have := Nat.two_pow_add_eq_or_of_lt (i := 40) (b := b * 2 ^ 32) (by omega) (256 + a)
    rw [show 281474976710656 + a * 1099511627776 = 2 ^ 40 * (256 + a) by omega, ← this]
  have e3 : (281474976710656 + a * 1099511627776 + b * 4294967296) ||| c * 2 ^ 24 = 281474976710656 + a * 1099511627776 + b * 4294967296 + c * 16777216 := by
    have := Nat.two_pow_add_eq_or_of_lt (i := 32) (b := c * 2 ^ 24) (by omega) (65536 + a * 256 + b)
    rw [show 281474976710656 + a * 1099511627776 + b * 4294967296 = 2 ^ 32 * (65536 + a * 256 + b) by omega, ← this]
  have e4 : (281474976710656 + a * 1099511627776 + b * 4294967296 + c * 16777216) ||| d = 281474976710656 + a * 1099511627776 + b * 4294967296 + c * 16777216 + d := by
    have := Nat.two_pow_add_eq_or_of_lt (i := 24) (b := d) (by omega) (16777216 + a * 65536 + b * 256 + c)
    rw [show 281474976710656 + a * 1099511627776 + b * 4294967296 + c * 16777216 = 2 ^ 24 * (16777216 + a * 65536 + b * 256 + c) by omega, ← this]
  rw [nL_or _ _ (by omega) (by omega), e1, nL_or _ _ (by omega) (by omega), e2, nL_or _ _ (by omega) (by omega), e3, nL_or _ _ (by omega) (by omega), e4]
theorem and255 (x : Nat) : x &&& 255 = x % 256 := Nat.and_two_pow_sub_one_eq_mod x 8
theorem and24 (x : Nat) : x &&& 16777215 = x % 16777216 := Nat.and_two_pow_sub_one_eq_mod x 24
theorem unpk {a b c d : Nat} (ha : a < 256) (hb : b < 256) (hc : c < 256) (hd : d < 16777216) : M_X7_glassesIn (pk (nI a) (nI b) (nI c) (nI d)) = nI a ∧ M_X7_goneIn (pk (nI a) (nI b) (nI c) (nI d)) = nI b ∧ M_X7_contentIn (pk (nI a) (nI b) (nI c) (nI d)) = nI c ∧ M_X7_boiledIn (pk (nI a) (nI b) (nI c) (nI d)) = nI d ∧ ¬ pk (nI a) (nI b) (nI c) (nI d) = 0 := by
  have hN : pkN a b c d < 2 ^ 50 := by unfold pkN; omega
  rw [pk_nL ha hb hc hd]
  unfold M_X7_glassesIn M_X7_goneIn M_X7_contentIn M_X7_boiledIn
  refine ⟨?_, ?_, ?_, ?_, ?_⟩
  · rw [show (40 : Int32) = nI 40 from rfl, nL_shr (by omega) (by omega), show (255 : Int64) = nL 255 from rfl, nL_and _ _ (by have := Nat.shiftRight_le (pkN a b c d) 40; omega) (by omega), and255, ofL (by omega), Nat.shiftRight_eq_div_pow]
    congr 1
    unfold pkN
    omega
  · rw [show (32 : Int32) = nI 32 from rfl, nL_shr (by omega) (by omega), show (255 : Int64) = nL 255 from rfl, nL_and _ _ (by have := Nat.shiftRight_le (pkN a b c d) 32; omega) (by omega), and255, ofL (by omega), Nat.shiftRight_eq_div_pow]
    congr 1
    unfold pkN
    omega
  · rw [show (24 : Int32) = nI 24 from rfl, nL_shr (by omega) (by omega), show (255 : Int64) = nL 255 from rfl, nL_and _ _ (by have := Nat.shiftRight_le (pkN a b c d) 24; omega) (by omega), and255, ofL (by omega), Nat.shiftRight_eq_div_pow]
    congr 1
    unfold pkN
    omega
  · rw [show (16777215 : Int64) = nL 16777215 from rfl, nL_and _ _ (by omega) (by omega), and24, ofL (by omega)]
    congr 1
    unfold pkN
    omega
  · intro z
    have z2 := congrArg Int64.toInt z
    rw [nL_toInt (by omega), show (0 : Int64).toInt = 0 from rfl] at z2
    have : pkN a b c d = 0 := by omega
    unfold pkN at this
    omega
/-! Integer.bitCount -/
theorem ushr {a : Nat} {k : Nat} (ha : a < 2 ^ 31) (hk : k < 32) : (Int32.toUInt32 (nI a) >>> (Int32.toUInt32 (nI k) &&& Int32.toUInt32 31)).toInt32 = nI (a >>> k) := by
  have hk2 : ∀ k : Fin 32, ((Int32.toUInt32 (nI k.val) &&& Int32.toUInt32 31) % 32).toNat = k.val := by decide +kernel
  have hk2 := hk2 ⟨k, hk⟩
  apply Int32.toBitVec_inj.mp
  apply BitVec.eq_of_toNat_eq
  show (Int32.toUInt32 (nI a) >>> (Int32.toUInt32 (nI k) &&& Int32.toUInt32 31)).toNat = (BitVec.ofNat 32 (a >>> k)).toNat
  have hle := Nat.shiftRight_le a k
  have ea : (Int32.toUInt32 (nI a)).toNat = a := by
    show (BitVec.ofNat 32 a).toNat = a
    rw [BitVec.toNat_ofNat, Nat.mod_eq_of_lt (by omega)]
  rw [BitVec.toNat_ofNat, Nat.mod_eq_of_lt (by omega), UInt32.toNat_shiftRight, ea]
  have hk3 : (Int32.toUInt32 (nI k) &&& Int32.toUInt32 31).toNat % 32 = k := by
    have := hk2
    rw [UInt32.toNat_mod] at this
    exact this
  rw [hk3]
theorem and_split {b r m q : Nat} (hb : b < 256) (hm : m < 256) : (b + 256 * r) &&& (m + 256 * q) = (b &&& m) + 256 * (r &&& q) := by
  have h1 : ((b + 256 * r) &&& (m + 256 * q)) % 2 ^ 8 = b &&& m := by
    rw [Nat.and_mod_two_pow, show (b + 256 * r) % 2 ^ 8 = b by omega, show (m + 256 * q) % 2 ^ 8 = m by omega]
  have h2 : ((b + 256 * r) &&& (m + 256 * q)) / 2 ^ 8 = r &&& q := by
    rw [Nat.and_div_two_pow, show (b + 256 * r) / 2 ^ 8 = r by omega, show (m + 256 * q) / 2 ^ 8 = q by omega]
  omega
def w4 (a b c d : Nat) : Nat := a + 256 * (b + 256 * (c + 256 * d))
theorem and4 {a b c d m0 m1 m2 m3 : Nat} (ha : a < 256) (hb : b < 256) (hc : c < 256) (h0 : m0 < 256) (h1 : m1 < 256) (h2 : m2 < 256) : w4 a b c d &&& w4 m0 m1 m2 m3 = w4 (a &&& m0) (b &&& m1) (c &&& m2) (d &&& m3) := by
  unfold w4
  rw [and_split ha h0, and_split hb h1, and_split hc h2]
def q1 (b : Nat) : Nat := b - ((b / 2) &&& 85)
def q2 (c : Nat) : Nat := (c &&& 51) + ((c / 4) &&& 51)
def q3 (d : Nat) : Nat := (d + d / 16) &&& 15
theorem k1 : ∀ (b : Fin 256) (c : Fin 2), ((b.val / 2 + 128 * c.val) &&& 85) = (b.val / 2 &&& 85) ∧ (b.val / 2 &&& 85) ≤ b.val := by decide +kernel
theorem k2 : ∀ (b : Fin 256) (c : Fin 4), ((b.val / 4 + 64 * c.val) &&& 51) = (b.val / 4 &&& 51) := by decide +kernel
theorem k2b : ∀ b : Fin 256, q2 (q1 b.val) ≤ 68 ∧ q2 (q1 b.val) % 16 ≤ 4 ∧ q2 b.val < 256 := by decide +kernel
theorem k3 : ∀ (b : Fin 69) (c : Fin 5), ((b.val + b.val / 16 + 16 * c.val) &&& 15) = q3 b.val := by decide +kernel
theorem k4 : ∀ b : Fin 256, q3 (q2 (q1 b.val)) = cN (fun j => b.val.testBit j) 8 ∧ q3 (q2 (q1 b.val)) ≤ 8 := by decide +kernel
theorem cN_congr {f g : Nat → Bool} : ∀ n, (∀ j, j < n → f j = g j) → cN f n = cN g n
  | 0, _ => rfl
  | n + 1, h => by rw [cN, cN, cN_congr n (fun j hj => h j (by omega)), h n (by omega)]
theorem cN_add (f : Nat → Bool) (a : Nat) : ∀ b, cN f (a + b) = cN f a + cN (fun j => f (a + j)) b
  | 0 => rfl
  | b + 1 => by
    show cN f (a + b + 1) = _
    rw [cN, cN, cN_add f a b]
    omega
theorem w4_bits {a b c d : Nat} (ha : a < 256) (hb : b < 256) (hc : c < 256) (hd : d < 256) : cN (fun j => (w4 a b c d).testBit j) 32 = cN (fun j => a.testBit j) 8 + cN (fun j => b.testBit j) 8 + cN (fun j => c.testBit j) 8 + cN (fun j => d.testBit j) 8 := by
  have tb : ∀ (x i j : Nat), x.testBit (i + j) = (x / 2 ^ i).testBit j := fun x i j => by rw [Nat.testBit_div_two_pow, Nat.add_comm]
  have tl : ∀ (x y j : Nat), x < 256 → j < 8 → (x + 256 * y).testBit j = x.testBit j := fun x y j hx hj => by
    have : ((x + 256 * y) % 2 ^ 8).testBit j = (x + 256 * y).testBit j := by
      rw [Nat.testBit_mod_two_pow]
      simp [hj]
    rw [← this, show (x + 256 * y) % 2 ^ 8 = x by omega]
  rw [show (32 : Nat) = 8 + (8 + (8 + 8)) from rfl, cN_add, cN_add, cN_add]
  have e1 : cN (fun j => (w4 a b c d).testBit j) 8 = cN (fun j => a.testBit j) 8 := cN_congr 8 (fun j hj => by unfold w4; exact tl _ _ _ ha hj)
  have e2 : cN (fun j => (w4 a b c d).testBit (8 + j)) 8 = cN (fun j => b.testBit j) 8 := cN_congr 8 (fun j hj => by
    rw [tb, show w4 a b c d / 2 ^ 8 = b + 256 * (c + 256 * d) by unfold w4; omega]
    exact tl _ _ _ hb hj)
  have e3 : cN (fun j => (w4 a b c d).testBit (8 + (8 + j))) 8 = cN (fun j => c.testBit j) 8 := cN_congr 8 (fun j hj => by
    rw [← Nat.add_assoc, tb, show w4 a b c d / 2 ^ (8 + 8) = c + 256 * d by unfold w4; omega]
    exact tl _ _ _ hc hj)
  have e4 : cN (fun j => (w4 a b c d).testBit (8 + (8 + (8 + j)))) 8 = cN (fun j => d.testBit j) 8 := cN_congr 8 (fun j hj => by
    rw [← Nat.add_assoc, ← Nat.add_assoc, tb, show w4 a b c d / 2 ^ (8 + 8 + 8) = d by unfold w4; omega])
  rw [e1, e2, e3, e4]
  omega
