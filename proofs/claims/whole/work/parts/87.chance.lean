/-! chance: numbers -/
theorem nL_mul (a b : Nat) : nL a * nL b = nL (a * b) := (Int64.ofNat_mul a b).symm
theorem nL_sub {a b : Nat} (h : b ≤ a) : nL a - nL b = nL (a - b) := by
  have e : nL a = nL (a - b) + nL b := by rw [nL_add, Nat.sub_add_cancel h]
  rw [e, Int64.add_sub_cancel]
theorem bmod64 {x : Int} {q : Nat} (hq : q < 9223372036854775808) (h : x = (q : Int)) : x.bmod (2 ^ 64) = (q : Int) := by
  rw [h]
  exact Int.bmod_eq_of_le (by omega) (by omega)
theorem nL_div {a b : Nat} (h1 : a < 9223372036854775808) (hb : b < 9223372036854775808) : nL a / nL b = nL (a / b) := by
  apply Int64.toInt_inj.mp
  have hq : a / b < 9223372036854775808 := Nat.lt_of_le_of_lt (Nat.div_le_self a b) h1
  rw [nL_toInt (by omega), Int64.toInt_div, nL_toInt (by omega), nL_toInt (by omega)]
  exact bmod64 hq (Int.ofNat_tdiv a b).symm
theorem nL_mod {a b : Nat} (h1 : a < 9223372036854775808) (hb : b < 9223372036854775808) : nL a - nL a / nL b * nL b = nL (a % b) := by
  have := Nat.div_add_mod a b
  have h2 : a / b * b ≤ a := Nat.div_mul_le_self a b
  rw [nL_div h1 hb, nL_mul, nL_sub h2]
  congr 1
  rw [Nat.mul_comm] at this
  omega
theorem nL_eq {a b : Nat} (h1 : a < 9223372036854775808) (hb : b < 9223372036854775808) : nL a = nL b ↔ a = b := by
  rw [← Int64.toInt_inj, nL_toInt (by omega), nL_toInt (by omega)]
  omega
theorem lc0 {a : Nat} (h1 : a < 9223372036854775808) : lg_cmp (nL a) 0 = 0 ↔ a = 0 := by
  rw [lg_cmp_eq, show (0 : Int64) = nL 0 from rfl, nL_eq h1 (by omega)]
theorem lc_le {a b : Nat} (h1 : a < 9223372036854775808) (hb : b < 9223372036854775808) : lg_cmp (nL a) (nL b) ≤ 0 ↔ a ≤ b := by
  rw [lg_cmp_le, nL_le (by omega) (by omega)]
/-! powers, weights -/
theorem c_power {n b e : Nat} (hb : b ≤ 16) (he : e ≤ 8) (hn : 600 < n) : M_X8_power n (nI b) (nI e) = some (nL (b ^ e)) := by
  unfold M_X8_power
  obtain ⟨m', g⟩ := loopP (L := fun m (q : Int64 × Int32) => L_X8_power_5 n m (nI b) (nI e) q.1 q.2) (f := fun i => (nL (b ^ i), nI i)) (N := e) (by
    intro m i hi
    show L_X8_power_5 n (m + 1) (nI b) (nI e) (nL (b ^ i)) (nI i) = L_X8_power_5 n m (nI b) (nI e) (nL (b ^ (i + 1))) (nI (i + 1))
    rw [L_X8_power_5, if_neg (nI_ge hi (by omega)), show (8 : Int32) = nI 8 from rfl, if_neg (nI_ge (by omega) (by omega)), toL (by omega), nL_mul, nI_1, Nat.pow_succ]) e 0 n (by omega) (by omega)
  have g : L_X8_power_5 n n (nI b) (nI e) 1 0 = L_X8_power_5 n (m' + 1) (nI b) (nI e) (nL (b ^ e)) (nI e) := g
  rw [g, L_X8_power_5, if_pos (nI_le (Nat.le_refl _) (by omega))]
def pop (u N : Nat) : Nat := cN (fun j => u.testBit j) N
def wpS (c u : Nat) : Nat → Nat
  | 0 => 1
  | e + 1 => wpS c u e * (if u.testBit e = true then 16 - c else c)
theorem pop_le (u : Nat) : ∀ e, pop u e ≤ e := cN_le _
theorem wp_eq (c u : Nat) : ∀ e, wpS c u e = c ^ (e - pop u e) * (16 - c) ^ pop u e
  | 0 => rfl
  | e + 1 => by
    have h1 := pop_le u e
    have h2 : pop u (e + 1) = pop u e + (if u.testBit e = true then 1 else 0) := rfl
    rw [wpS, wp_eq c u e]
    by_cases q : u.testBit e = true
    · have h3 : pop u (e + 1) = pop u e + 1 := by rw [h2, if_pos q]
      rw [if_pos q, h3, show e + 1 - (pop u e + 1) = e - pop u e by omega, Nat.pow_succ, Nat.mul_assoc]
    · have h3 : pop u (e + 1) = pop u e := by rw [h2, if_neg q]; rfl
      rw [if_neg q, h3, show e + 1 - pop u e = e - pop u e + 1 by omega, Nat.pow_succ, Nat.mul_assoc, Nat.mul_comm ((16 - c) ^ pop u e) c, ← Nat.mul_assoc]
theorem bit_pop {u N : Nat} (hu : u < 2 ^ N) (hN : N ≤ 8) : M_J13_bitCount (nI u) = nI (pop u N) := by
  have h2 : (2 : Nat) ^ N ≤ 2 ^ 8 := Nat.pow_le_pow_right (by omega) hN
  rw [bitC (by omega)]
  unfold pop
  have h3 := cN_0 (f := fun j => u.testBit j) (n := N) (fun j hj => Nat.testBit_lt_two_pow (Nat.lt_of_lt_of_le hu (Nat.pow_le_pow_right (by omega) hj))) (32 - N)
  rw [show N + (32 - N) = 32 by omega] at h3
  rw [h3]
theorem wp_le (c u : Nat) (hc : c ≤ 16) : ∀ e, wpS c u e ≤ 16 ^ e
  | 0 => Nat.le_refl _
  | e + 1 => by
    have ih := wp_le c u hc e
    rw [wpS, Nat.pow_succ]
    exact Nat.mul_le_mul ih (by split <;> omega)
def chG (S : ST) (c k u : Nat) : Nat := if (stt (altP S u) 24).2.2.2.2.2.1 k = 3 then wpS c u S.2.2.1.length else 0
def chA (S : ST) (c k : Nat) : Nat := sN (chG S c k) (2 ^ S.2.2.1.length)
def chB (S : ST) : Nat := 2 ^ (4 * S.2.2.1.length)
def q_cha (S : ST) (c k w : Nat) : Int64 := if w = 0 then nL (chA S c k / Nat.gcd (chA S c k) (chB S)) else nL (chB S / Nat.gcd (chA S c k) (chB S))
theorem ch_b {S : ST} {c k : Nat} (hc : c ≤ 16) (h8 : S.2.2.1.length ≤ 8) : chA S c k ≤ 2 ^ 40 ∧ chB S ≤ 2 ^ 32 ∧ 0 < chB S := by
  refine ⟨?_, Nat.pow_le_pow_right (by omega) (by omega), Nat.two_pow_pos _⟩
  have h1 : ∀ u, chG S c k u ≤ 2 ^ 32 := by
    intro u
    unfold chG
    split
    · have := wp_le c u hc S.2.2.1.length
      have h3 : (16 : Nat) ^ S.2.2.1.length ≤ 16 ^ 8 := Nat.pow_le_pow_right (by omega) h8
      omega
    · omega
  have h2 := sN_le h1 (2 ^ S.2.2.1.length)
  have h3 : (2 : Nat) ^ S.2.2.1.length ≤ 2 ^ 8 := Nat.pow_le_pow_right (by omega) h8
  unfold chA
  calc sN (chG S c k) (2 ^ S.2.2.1.length) ≤ 2 ^ 32 * 2 ^ S.2.2.1.length := h2
    _ ≤ 2 ^ 32 * 2 ^ 8 := Nat.mul_le_mul_left _ h3
    _ = 2 ^ 40 := by decide
/-! halving, and Euclid -/
theorem odd_gcd {a e : Nat} (h : a % 2 = 1) : Nat.gcd a (2 ^ e) = 1 := by
  apply Nat.Coprime.pow_right
  show Nat.gcd a 2 = 1
  rw [Nat.gcd_comm, Nat.gcd_rec, h, Nat.gcd_one_left]
theorem c_halve {n w : Nat} {h : AH} (hw : w < 2) : ∀ (e i m a : Nat), i + e ≤ 32 → e < m → a < 9223372036854775808 → L_X8_chance_133 n m (nI w) (nL a) (nL (2 ^ e)) (nI i) h = some ((if w = 0 then nL (a / Nat.gcd a (2 ^ e)) else nL (2 ^ e / Nat.gcd a (2 ^ e))), h) := by
  have fin : ∀ x y : Int64, B_X8_chance_180 n (nI w) x y h = some ((if w = 0 then x else y), h) := by
    intro x y
    rcases (show w = 0 ∨ w = 1 by omega) with rfl | rfl <;> rfl
  intro e
  induction e with
  | zero =>
    intro i m a hi hm ha
    obtain ⟨m, rfl⟩ : ∃ q, m = q + 1 := ⟨m - 1, by omega⟩
    rw [L_X8_chance_133, show (1 : Int64) = nL 1 from rfl, if_pos (show lg_cmp (nL (2 ^ 0)) (nL 1) ≤ 0 from (lc_le (by omega) (by omega)).mpr (Nat.le_refl _)), fin, Nat.pow_zero, Nat.gcd_one_right, Nat.div_one]
    split <;> rfl
  | succ e ih =>
    intro i m a hi hm ha
    obtain ⟨m, rfl⟩ : ∃ q, m = q + 1 := ⟨m - 1, by omega⟩
    have l0 : (2 : Nat) ^ (e + 1) ≤ 2 ^ 32 := Nat.pow_le_pow_right (by omega) (by omega)
    have l1 : (2 : Nat) ^ 1 ≤ 2 ^ (e + 1) := Nat.pow_le_pow_right (by omega) (by omega)
    rw [L_X8_chance_133, show (32 : Int32) = nI 32 from rfl, if_neg (nI_ge (by omega) (by omega)), show (1 : Int64) = nL 1 from rfl, if_neg (fun z => by have := (lc_le (by omega) (by omega)).mp z; omega), show (2 : Int64) = nL 2 from rfl, nL_mod ha (by omega)]
    by_cases q : a % 2 = 0
    · rw [if_pos ((lc0 (by omega)).mpr q), nL_div ha (by omega), nL_div (by omega) (by omega), nI_1, Nat.pow_succ, Nat.mul_div_cancel _ (by omega), ih (i + 1) m (a / 2) (by omega) (by omega) (by omega)]
      have ea : a = 2 * (a / 2) := by omega
      obtain ⟨b, hb⟩ : ∃ b, b = a / 2 := ⟨_, rfl⟩
      rw [← hb] at ea ⊢
      rw [ea, Nat.mul_comm (2 ^ e) 2, Nat.gcd_mul_left, Nat.mul_div_mul_left _ _ (by omega), Nat.mul_div_mul_left _ _ (by omega)]
    · rw [if_neg (fun z => q ((lc0 (by omega)).mp z)), fin, odd_gcd (by omega), Nat.div_one, Nat.div_one]
theorem mod_half {x y : Nat} (hx : 0 < x) (hy : x ≤ y) : 2 * (y % x) < y := by
  have h1 := Nat.mod_lt y hx
  have h2 := Nat.div_add_mod y x
  have h3 : 1 ≤ y / x := (Nat.one_le_div_iff hx).mpr hy
  have h4 : x * 1 ≤ x * (y / x) := Nat.mul_le_mul_left x h3
  omega
theorem m_euclid {n : Nat} {A B : Int64} {w : Int32} : ∀ (d x y m : Nat), y < 2 ^ d → 2 * d < m → x < 9223372036854775808 → y < 9223372036854775808 → ∃ m', L_X9_lowest_6 n m A B w (nL x) (nL y) = L_X9_lowest_6 n (m' + 1) A B w (nL (Nat.gcd x y)) (nL 0) := by
  intro d
  induction d with
  | zero =>
    intro x y m hy hm hx hy2
    have e : y = 0 := by omega
    subst e
    exact ⟨m - 1, by rw [Nat.gcd_zero_right, show m - 1 + 1 = m by omega]⟩
  | succ d ih =>
    intro x y m hy hm hx hy2
    by_cases c : y = 0
    · subst c
      exact ⟨m - 1, by rw [Nat.gcd_zero_right, show m - 1 + 1 = m by omega]⟩
    · obtain ⟨m, rfl⟩ : ∃ q, m = q + 2 := ⟨m - 2, by omega⟩
      have step : ∀ (f a b : Nat), ¬ b = 0 → a < 9223372036854775808 → b < 9223372036854775808 → L_X9_lowest_6 n (f + 1) A B w (nL a) (nL b) = L_X9_lowest_6 n f A B w (nL b) (nL (a % b)) := by
        intro f a b hb h1 h2
        rw [L_X9_lowest_6, if_neg (fun z => hb ((lc0 h2).mp z)), show (0 : Int64) = nL 0 from rfl, if_neg (fun z => hb ((nL_eq h2 (by omega)).mp z)), nL_mod h1 h2]
      have hr := Nat.mod_lt x (show 0 < y by omega)
      have g1 : Nat.gcd x y = Nat.gcd y (x % y) := by rw [Nat.gcd_comm x y, Nat.gcd_rec y x, Nat.gcd_comm]
      rw [step _ _ _ c hx hy2, g1]
      by_cases c2 : x % y = 0
      · rw [c2, Nat.gcd_zero_right]
        exact ⟨m, rfl⟩
      · have hr2 := Nat.mod_lt y (show 0 < x % y by omega)
        have hh := mod_half (show 0 < x % y by omega) (show x % y ≤ y by omega)
        have g2 : Nat.gcd y (x % y) = Nat.gcd (x % y) (y % (x % y)) := by rw [Nat.gcd_comm y (x % y), Nat.gcd_rec (x % y) y, Nat.gcd_comm]
        rw [step _ _ _ c2 hy2 (by omega), g2]
        rw [Nat.pow_succ] at hy
        exact ih (x % y) (y % (x % y)) m (by omega) (by omega) (by omega) (by omega)
theorem m_lowest {n w a b : Nat} (ha : a ≤ 2 ^ 40) (hb : b ≤ 2 ^ 32) (hb0 : 0 < b) (hw : w < 2) (hn : 600 < n) : M_X9_lowest n (nL a) (nL b) (nI w) = some (if w = 0 then nL (a / Nat.gcd a b) else nL (b / Nat.gcd a b)) := by
  unfold M_X9_lowest
  obtain ⟨m', e⟩ := m_euclid (n := n) (A := nL a) (B := nL b) (w := nI w) 33 a b n (by omega) (by omega) (by omega) (by omega)
  have hg := Nat.gcd_pos_of_pos_right a hb0
  have hgle := Nat.gcd_le_right a hb0
  have hne : ¬ nL (Nat.gcd a b) = 0 := by
    rw [show (0 : Int64) = nL 0 from rfl, nL_eq (by omega) (by omega)]
    omega
  rw [e, L_X9_lowest_6, if_pos ((lc0 (by omega)).mpr rfl)]
  rcases (show w = 0 ∨ w = 1 by omega) with rfl | rfl
  · rw [if_pos (show nI 0 = (0 : Int32) from rfl), if_neg hne, nL_div (by omega) (by omega)]
    rfl
  · rw [if_neg (show ¬ nI 1 = (0 : Int32) by decide), if_neg hne, nL_div (by omega) (by omega)]
    rfl
