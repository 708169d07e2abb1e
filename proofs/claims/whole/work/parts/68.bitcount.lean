theorem bc_nat {a b c d : Nat} (ha : a < 256) (hb : b < 256) (hc : c < 256) (hd : d < 128) :
    w4 a b c d - ((w4 a b c d >>> 1) &&& 1431655765) = w4 (q1 a) (q1 b) (q1 c) (q1 d) ∧ ((w4 a b c d >>> 1) &&& 1431655765) ≤ w4 a b c d ∧
    (w4 (q1 a) (q1 b) (q1 c) (q1 d) &&& 858993459) + ((w4 (q1 a) (q1 b) (q1 c) (q1 d) >>> 2) &&& 858993459) = w4 (q2 (q1 a)) (q2 (q1 b)) (q2 (q1 c)) (q2 (q1 d)) ∧
    (w4 (q2 (q1 a)) (q2 (q1 b)) (q2 (q1 c)) (q2 (q1 d)) + (w4 (q2 (q1 a)) (q2 (q1 b)) (q2 (q1 c)) (q2 (q1 d)) >>> 4)) &&& 252645135 = w4 (q3 (q2 (q1 a))) (q3 (q2 (q1 b))) (q3 (q2 (q1 c))) (q3 (q2 (q1 d))) := by
  have hl1 : ∀ x, q1 x ≤ x := fun x => Nat.sub_le _ _
  have ua := hl1 a
  have ub := hl1 b
  have uc := hl1 c
  have ud := hl1 d
  have va := k2b ⟨a, ha⟩
  have vb := k2b ⟨b, hb⟩
  have vc := k2b ⟨c, hc⟩
  have vd := k2b ⟨d, by omega⟩
  dsimp only at va vb vc vd
  have f1 : (w4 a b c d >>> 1) &&& 1431655765 = w4 (a / 2 &&& 85) (b / 2 &&& 85) (c / 2 &&& 85) (d / 2 &&& 85) := by
    rw [Nat.shiftRight_eq_div_pow, show w4 a b c d / 2 ^ 1 = w4 (a / 2 + 128 * (b % 2)) (b / 2 + 128 * (c % 2)) (c / 2 + 128 * (d % 2)) (d / 2) by unfold w4; omega, show 1431655765 = w4 85 85 85 85 from rfl, and4 (by omega) (by omega) (by omega) (by omega) (by omega) (by omega), (k1 ⟨a, ha⟩ ⟨b % 2, by omega⟩).1, (k1 ⟨b, hb⟩ ⟨c % 2, by omega⟩).1, (k1 ⟨c, hc⟩ ⟨d % 2, by omega⟩).1]
  have g1 := (k1 ⟨a, ha⟩ ⟨0, by omega⟩).2
  have g2 := (k1 ⟨b, hb⟩ ⟨0, by omega⟩).2
  have g3 := (k1 ⟨c, hc⟩ ⟨0, by omega⟩).2
  have g4 := (k1 ⟨d, by omega⟩ ⟨0, by omega⟩).2
  dsimp only at g1 g2 g3 g4
  refine ⟨?_, ?_, ?_, ?_⟩
  · rw [f1]
    unfold w4 q1
    omega
  · rw [f1]
    unfold w4
    omega
  · generalize q1 a = a1 at *
    generalize q1 b = b1 at *
    generalize q1 c = c1 at *
    generalize q1 d = d1 at *
    rw [Nat.shiftRight_eq_div_pow, show w4 a1 b1 c1 d1 / 2 ^ 2 = w4 (a1 / 4 + 64 * (b1 % 4)) (b1 / 4 + 64 * (c1 % 4)) (c1 / 4 + 64 * (d1 % 4)) (d1 / 4) by unfold w4; omega, show 858993459 = w4 51 51 51 51 from rfl, and4 (by omega) (by omega) (by omega) (by omega) (by omega) (by omega), and4 (by omega) (by omega) (by omega) (by omega) (by omega) (by omega), k2 ⟨a1, by omega⟩ ⟨b1 % 4, by omega⟩, k2 ⟨b1, by omega⟩ ⟨c1 % 4, by omega⟩, k2 ⟨c1, by omega⟩ ⟨d1 % 4, by omega⟩]
    dsimp only
    unfold w4 q2
    omega
  · generalize q2 (q1 a) = a1 at *
    generalize q2 (q1 b) = b1 at *
    generalize q2 (q1 c) = c1 at *
    generalize q2 (q1 d) = d1 at *
    have e0 := k3 ⟨a1, by omega⟩ ⟨b1 % 16, by omega⟩
    have e1 := k3 ⟨b1, by omega⟩ ⟨c1 % 16, by omega⟩
    have e2 := k3 ⟨c1, by omega⟩ ⟨d1 % 16, by omega⟩
    have e3 := k3 ⟨d1, by omega⟩ ⟨0, by omega⟩
    dsimp only at e0 e1 e2 e3
    rw [Nat.mul_zero, Nat.add_zero] at e3
    rw [Nat.shiftRight_eq_div_pow, show w4 a1 b1 c1 d1 + w4 a1 b1 c1 d1 / 2 ^ 4 = w4 (a1 + a1 / 16 + 16 * (b1 % 16)) (b1 + b1 / 16 + 16 * (c1 % 16)) (c1 + c1 / 16 + 16 * (d1 % 16)) (d1 + d1 / 16) by unfold w4; omega, show 252645135 = w4 15 15 15 15 from rfl, and4 (by omega) (by omega) (by omega) (by omega) (by omega) (by omega), e0, e1, e2, e3]
theorem fin6 {a b c d : Nat} (ha : a ≤ 8) (hb : b ≤ 8) (hc : c ≤ 8) (hd : d ≤ 8) : (w4 (a + b) (b + c) (c + d) d + (c + d + 256 * d)) % 2 ^ 6 = a + b + c + d := by
  rw [show w4 (a + b) (b + c) (c + d) d + (c + d + 256 * d) = (a + b + c + d) + 64 * (4 * (b + c) + 1024 * (c + d) + 262144 * d + 4 * d) by unfold w4; omega, Nat.add_mul_mod_self_left]
  omega
set_option maxHeartbeats 4000000 in
theorem bitC {x : Nat} (hx : x < 2 ^ 31) : M_J13_bitCount (nI x) = nI (cN (fun j => x.testBit j) 32) := by
  obtain ⟨a, b, c, d, ha, hb, hc, hd, rfl⟩ : ∃ a b c d, a < 256 ∧ b < 256 ∧ c < 256 ∧ d < 128 ∧ x = w4 a b c d := ⟨x % 256, x / 256 % 256, x / 65536 % 256, x / 16777216, by omega, by omega, by omega, by omega, by unfold w4; omega⟩
  obtain ⟨f1, f1b, f2, f3⟩ := bc_nat ha hb hc hd
  have hl1 : ∀ x, q1 x ≤ x := fun x => Nat.sub_le _ _
  have ua := hl1 a
  have ub := hl1 b
  have uc := hl1 c
  have ud := hl1 d
  have va := k2b ⟨a, ha⟩
  have vb := k2b ⟨b, hb⟩
  have vc := k2b ⟨c, hc⟩
  have vd := k2b ⟨d, by omega⟩
  have wa := k4 ⟨a, ha⟩
  have wb := k4 ⟨b, hb⟩
  have wc := k4 ⟨c, hc⟩
  have wd := k4 ⟨d, by omega⟩
  dsimp only at va vb vc vd wa wb wc wd
  have b1 : w4 (q1 a) (q1 b) (q1 c) (q1 d) < 2 ^ 31 := by unfold w4; omega
  have b2 : w4 (q2 (q1 a)) (q2 (q1 b)) (q2 (q1 c)) (q2 (q1 d)) < 2000000000 := by unfold w4; omega
  have b3 : w4 (q3 (q2 (q1 a))) (q3 (q2 (q1 b))) (q3 (q2 (q1 c))) (q3 (q2 (q1 d))) < 200000000 := by unfold w4; omega
  have sh : ∀ y k, (y >>> k) ≤ y := fun y k => Nat.shiftRight_le y k
  have e1 : nI (w4 a b c d) - ((Int32.toUInt32 (nI (w4 a b c d)) >>> (Int32.toUInt32 1 &&& Int32.toUInt32 31)).toInt32 &&& 1431655765) = nI (w4 (q1 a) (q1 b) (q1 c) (q1 d)) := by
    rw [show (1 : Int32) = nI 1 from rfl, ushr hx (by omega), show (1431655765 : Int32) = nI 1431655765 from rfl, nI_and _ _ (by have := sh (w4 a b c d) 1; omega) (by omega), nI_sub f1b, f1]
  have e2 : (nI (w4 (q1 a) (q1 b) (q1 c) (q1 d)) &&& 858993459) + ((Int32.toUInt32 (nI (w4 (q1 a) (q1 b) (q1 c) (q1 d))) >>> (Int32.toUInt32 2 &&& Int32.toUInt32 31)).toInt32 &&& 858993459) = nI (w4 (q2 (q1 a)) (q2 (q1 b)) (q2 (q1 c)) (q2 (q1 d))) := by
    rw [show (2 : Int32) = nI 2 from rfl, ushr b1 (by omega), show (858993459 : Int32) = nI 858993459 from rfl, nI_and _ _ (by omega) (by omega), nI_and _ _ (by have := sh (w4 (q1 a) (q1 b) (q1 c) (q1 d)) 2; omega) (by omega), nI_add, f2]
  have e3 : (nI (w4 (q2 (q1 a)) (q2 (q1 b)) (q2 (q1 c)) (q2 (q1 d))) + (Int32.toUInt32 (nI (w4 (q2 (q1 a)) (q2 (q1 b)) (q2 (q1 c)) (q2 (q1 d)))) >>> (Int32.toUInt32 4 &&& Int32.toUInt32 31)).toInt32) &&& 252645135 = nI (w4 (q3 (q2 (q1 a))) (q3 (q2 (q1 b))) (q3 (q2 (q1 c))) (q3 (q2 (q1 d)))) := by
    rw [show (4 : Int32) = nI 4 from rfl, ushr (by omega) (by omega), show (252645135 : Int32) = nI 252645135 from rfl, nI_add, nI_and _ _ (by have := sh (w4 (q2 (q1 a)) (q2 (q1 b)) (q2 (q1 c)) (q2 (q1 d))) 4; omega) (by omega), f3]
  unfold M_J13_bitCount
  rw [e1, e2, e3, w4_bits ha hb hc (by omega), ← wa.1, ← wb.1, ← wc.1, ← wd.1]
  have wa := wa.2
  have wb := wb.2
  have wc := wc.2
  have wd := wd.2
  generalize q3 (q2 (q1 a)) = a1 at *
  generalize q3 (q2 (q1 b)) = b1 at *
  generalize q3 (q2 (q1 c)) = c1 at *
  generalize q3 (q2 (q1 d)) = d1 at *
  have e4 : nI (w4 a1 b1 c1 d1) + (Int32.toUInt32 (nI (w4 a1 b1 c1 d1)) >>> (Int32.toUInt32 8 &&& Int32.toUInt32 31)).toInt32 = nI (w4 (a1 + b1) (b1 + c1) (c1 + d1) d1) := by
    rw [show (8 : Int32) = nI 8 from rfl, ushr (by omega) (by omega), nI_add, Nat.shiftRight_eq_div_pow]
    congr 1
    unfold w4
    omega
  have b4 : w4 (a1 + b1) (b1 + c1) (c1 + d1) d1 < 200000000 := by unfold w4; omega
  rw [e4, show (16 : Int32) = nI 16 from rfl, ushr (by omega) (by omega), nI_add, show (63 : Int32) = nI 63 from rfl, nI_and _ _ (by have := sh (w4 (a1 + b1) (b1 + c1) (c1 + d1) d1) 16; omega) (by omega), Nat.shiftRight_eq_div_pow, show (63 : Nat) = 2 ^ 6 - 1 from rfl, Nat.and_two_pow_sub_one_eq_mod]
  congr 1
  have e5 : w4 (a1 + b1) (b1 + c1) (c1 + d1) d1 / 2 ^ 16 = c1 + d1 + 256 * d1 := by unfold w4; omega
  rw [e5]
  exact fin6 wa wb wc wd
theorem cN_0 {f : Nat → Bool} {n : Nat} (h : ∀ j, n ≤ j → f j = false) : ∀ d, cN f (n + d) = cN f n
  | 0 => rfl
  | d + 1 => by
    show cN f (n + d + 1) = _
    rw [cN, cN_0 h d, h (n + d) (by omega)]
    rfl
theorem bitN {f : Nat → Bool} {n : Nat} (hn : n ≤ 31) : M_J13_bitCount (nI (bN f n)) = nI (cN f n) := by
  have h1 := bN_lt f n
  have h2 : 2 ^ n ≤ 2 ^ 31 := Nat.pow_le_pow_right (by omega) hn
  rw [bitC (by omega)]
  congr 1
  have e : cN (fun j => (bN f n).testBit j) (n + (32 - n)) = cN (fun j => (bN f n).testBit j) n := cN_0 (fun j hj => by
    show (bN f n).testBit j = false
    rw [bN_bit]
    simp [show ¬ j < n by omega]) _
  rw [show 32 = n + (32 - n) by omega, e]
  apply cN_congr
  intro j hj
  rw [bN_bit]
  simp [hj]
