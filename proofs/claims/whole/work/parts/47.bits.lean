/-! loops; bits of a row of truths; sums -/
theorem loopU {σ α : Type} {L : Nat → σ → Option α} {I : Nat → σ → Prop} {N : Nat} (step : ∀ m k s, k < N → I k s → ∃ s', L (m + 1) s = L m s' ∧ I (k + 1) s') : ∀ (d k m : Nat) (s : σ), k + d = N → d ≤ m → I k s → ∃ s', L m s = L (m - d) s' ∧ I N s' := by
  intro d
  induction d with
  | zero =>
    intro k m s hk _ hi
    have e : k = N := by omega
    subst e
    exact ⟨s, rfl, hi⟩
  | succ d ih =>
    intro k m s hk hm hi
    obtain ⟨m, rfl⟩ : ∃ q, m = q + 1 := ⟨m - 1, by omega⟩
    obtain ⟨s1, e1, i1⟩ := step m k s (by omega) hi
    obtain ⟨s2, e2, i2⟩ := ih (k + 1) m s1 (by omega) (by omega) i1
    exact ⟨s2, by rw [e1, e2, show m + 1 - (d + 1) = m - d by omega], i2⟩
theorem loopE {σ α : Type} {L : Nat → σ → Option α} {I : Nat → σ → Prop} {Q : Option α → Prop} {N : Nat} (step : ∀ m k s, k < N → I k s → (∃ s', L (m + 1) s = L m s' ∧ I (k + 1) s') ∨ Q (L (m + 1) s)) (fin : ∀ m s, I N s → Q (L (m + 1) s)) : ∀ (d k m : Nat) (s : σ), k + d = N → d < m → I k s → Q (L m s) := by
  intro d
  induction d with
  | zero =>
    intro k m s hk hm hi
    have e : k = N := by omega
    subst e
    obtain ⟨m, rfl⟩ : ∃ q, m = q + 1 := ⟨m - 1, by omega⟩
    exact fin m s hi
  | succ d ih =>
    intro k m s hk hm hi
    obtain ⟨m, rfl⟩ : ∃ q, m = q + 1 := ⟨m - 1, by omega⟩
    rcases step m k s (by omega) hi with ⟨s1, e1, i1⟩ | q
    · rw [e1]
      exact ih (k + 1) m s1 (by omega) (by omega) i1
    · exact q
theorem loopV {ρ α : Type} {L : Nat → ρ → AH → Option α} {I : Nat → ρ → AH → Prop} {N : Nat} (step : ∀ m k r h, k < N → I k r h → ∃ r' h', L (m + 1) r h = L m r' h' ∧ I (k + 1) r' h') : ∀ (d k m : Nat) (r : ρ) (h : AH), k + d = N → d < m → I k r h → ∃ m' r' h', L m r h = L (m' + 1) r' h' ∧ I N r' h' := by
  intro d
  induction d with
  | zero =>
    intro k m r h hk hm hi
    have e : k = N := by omega
    subst e
    obtain ⟨m, rfl⟩ : ∃ q, m = q + 1 := ⟨m - 1, by omega⟩
    exact ⟨m, r, h, rfl, hi⟩
  | succ d ih =>
    intro k m r h hk hm hi
    obtain ⟨m, rfl⟩ : ∃ q, m = q + 1 := ⟨m - 1, by omega⟩
    obtain ⟨r1, h1, e1, i1⟩ := step m k r h (by omega) hi
    obtain ⟨m2, r2, h2, e2, i2⟩ := ih (k + 1) m r1 h1 (by omega) (by omega) i1
    exact ⟨m2, r2, h2, by rw [e1, e2], i2⟩
theorem loopW {ρ α : Type} {L : Nat → ρ → AH → Option α} {I : Nat → ρ → AH → Prop} {Q : Option α → Prop} {N : Nat} (step : ∀ m k r h, k < N → I k r h → (∃ r' h', L (m + 1) r h = L m r' h' ∧ I (k + 1) r' h') ∨ Q (L (m + 1) r h)) (fin : ∀ m r h, I N r h → Q (L (m + 1) r h)) : ∀ (d k m : Nat) (r : ρ) (h : AH), k + d = N → d < m → I k r h → Q (L m r h) := by
  intro d
  induction d with
  | zero =>
    intro k m r h hk hm hi
    have e : k = N := by omega
    subst e
    obtain ⟨m, rfl⟩ : ∃ q, m = q + 1 := ⟨m - 1, by omega⟩
    exact fin m r h hi
  | succ d ih =>
    intro k m r h hk hm hi
    obtain ⟨m, rfl⟩ : ∃ q, m = q + 1 := ⟨m - 1, by omega⟩
    rcases step m k r h (by omega) hi with ⟨r1, h1, e1, i1⟩ | q
    · rw [e1]
      exact ih (k + 1) m r1 h1 (by omega) (by omega) i1
    · exact q
def bN (f : Nat → Bool) : Nat → Nat
  | 0 => 0
  | n + 1 => bN f n + (if f n = true then 2 ^ n else 0)
theorem bN_lt (f : Nat → Bool) : ∀ n, bN f n < 2 ^ n
  | 0 => by simp [bN]
  | n + 1 => by
    have := bN_lt f n
    rw [bN, Nat.pow_succ]
    split <;> omega
theorem bN_bit (f : Nat → Bool) (j : Nat) : ∀ n, (bN f n).testBit j = (decide (j < n) && f j)
  | 0 => by simp [bN]
  | n + 1 => by
    have ih := bN_bit f j n
    have hl := bN_lt f n
    rw [bN]
    by_cases h : f n = true
    · rw [if_pos h, Nat.add_comm]
      by_cases hj : j < n
      · rw [Nat.testBit_two_pow_add_gt hj, ih]
        simp [hj, show j < n + 1 by omega]
      · by_cases hjn : j = n
        · subst hjn
          rw [Nat.testBit_two_pow_add_eq, ih]
          simp [h]
        · rw [Nat.testBit_lt_two_pow]
          · simp [show ¬ j < n + 1 by omega]
          · calc 2 ^ n + bN f n < 2 ^ n + 2 ^ n := by omega
              _ = 2 ^ (n + 1) := by rw [Nat.pow_succ]; omega
              _ ≤ 2 ^ j := Nat.pow_le_pow_right (by omega) (by omega)
    · rw [if_neg h, Nat.add_zero, ih]
      by_cases hjn : j = n
      · subst hjn
        simp [h]
      · simp [show (j < n + 1) = (j < n) by apply propext; omega]
theorem bN_congr {f g : Nat → Bool} : ∀ n, (∀ j, j < n → f j = g j) → bN f n = bN g n
  | 0, _ => rfl
  | n + 1, h => by
    rw [bN, bN, bN_congr n (fun j hj => h j (by omega)), h n (by omega)]
theorem bN_or {f g : Nat → Bool} {n k : Nat} (hk : k < n) (h1 : g k = true) (h2 : ∀ j, j < n → ¬ j = k → g j = f j) : bN f n ||| 2 ^ k = bN g n := by
  apply Nat.eq_of_testBit_eq
  intro j
  rw [Nat.testBit_or, bN_bit, bN_bit, Nat.testBit_two_pow]
  by_cases hj : j < n
  · by_cases hjk : j = k
    · subst hjk
      simp [h1, hj]
    · rw [h2 j hj hjk]
      simp [hj, show ¬ k = j from fun z => hjk z.symm]
  · simp [hj, show ¬ k = j by omega]
def sN (f : Nat → Nat) : Nat → Nat
  | 0 => 0
  | n + 1 => sN f n + f n
theorem sN_congr {f g : Nat → Nat} : ∀ n, (∀ j, j < n → f j = g j) → sN f n = sN g n
  | 0, _ => rfl
  | n + 1, h => by
    rw [sN, sN, sN_congr n (fun j hj => h j (by omega)), h n (by omega)]
theorem sN_up {f : Nat → Nat} {k x : Nat} : ∀ n, k < n → sN (up f k (f k + x)) n = sN f n + x
  | 0, h => by omega
  | n + 1, h => by
    rw [sN, sN]
    by_cases hk : k = n
    · subst hk
      rw [up_s, sN_congr (g := f) k (fun j hj => up_n _ _ (by omega))]
      omega
    · rw [sN_up n (by omega), up_n _ _ (by omega)]
      omega
theorem nI_or (a b : Nat) (ha : a < 2 ^ 32) (hb : b < 2 ^ 32) : nI a ||| nI b = nI (a ||| b) := by
  apply Int32.toBitVec_inj.mp
  apply BitVec.eq_of_toNat_eq
  show (BitVec.ofNat 32 a ||| BitVec.ofNat 32 b).toNat = (BitVec.ofNat 32 (a ||| b)).toNat
  rw [BitVec.toNat_or, BitVec.toNat_ofNat, BitVec.toNat_ofNat, BitVec.toNat_ofNat, Nat.mod_eq_of_lt ha, Nat.mod_eq_of_lt hb, Nat.mod_eq_of_lt (Nat.or_lt_two_pow ha hb)]
theorem nI_and (a b : Nat) (ha : a < 2 ^ 32) (hb : b < 2 ^ 32) : nI a &&& nI b = nI (a &&& b) := by
  apply Int32.toBitVec_inj.mp
  apply BitVec.eq_of_toNat_eq
  show (BitVec.ofNat 32 a &&& BitVec.ofNat 32 b).toNat = (BitVec.ofNat 32 (a &&& b)).toNat
  rw [BitVec.toNat_and, BitVec.toNat_ofNat, BitVec.toNat_ofNat, BitVec.toNat_ofNat, Nat.mod_eq_of_lt ha, Nat.mod_eq_of_lt hb, Nat.mod_eq_of_lt (Nat.and_lt_two_pow a hb)]
theorem am31 : ∀ k : Fin 32, nI k.val &&& 31 = nI k.val := by decide +kernel
theorem shl31 : ∀ k : Fin 32, (1 : Int32) <<< (nI k.val) = nI (2 ^ k.val) := by decide +kernel
theorem nI_bit {k : Nat} (hk : k < 32) : (1 : Int32) <<< (nI k &&& 31) = nI (2 ^ k) := by
  rw [am31 ⟨k, hk⟩]
  exact shl31 ⟨k, hk⟩
theorem smod32 : ∀ k : Fin 32, ((nI k.val).toBitVec.smod 32).toNat = k.val := by decide +kernel
theorem nI_shr {a k : Nat} (ha : a < 2 ^ 31) (hk : k < 32) : nI a >>> (nI k &&& 31) = nI (a >>> k) := by
  rw [am31 ⟨k, hk⟩]
  apply Int32.toInt_inj.mp
  have hk2 : ((nI k).toBitVec.smod 32).toNat = k := smod32 ⟨k, hk⟩
  have hle := Nat.shiftRight_le a k
  rw [nI_toInt (by omega), ← Int32.toInt_toBitVec, Int32.toBitVec_shiftRight, BitVec.sshiftRight_eq', BitVec.toInt_sshiftRight, hk2, Int32.toInt_toBitVec, nI_toInt ha]
  rfl
theorem bit1 {a j : Nat} (ha : a < 2 ^ 31) (hj : j < 32) : ((nI a >>> (nI j &&& 31)) &&& 1) = nI (if a.testBit j then 1 else 0) := by
  rw [nI_shr ha hj, show (1 : Int32) = nI 1 from rfl, nI_and _ _ (by have := Nat.shiftRight_le a j; omega) (by omega)]
  congr 1
  rw [Nat.testBit, Nat.and_comm]
  have h := Nat.mod_two_eq_zero_or_one (a >>> j)
  rw [Nat.one_and_eq_mod_two]
  rcases h with h | h <;> simp [h]
