/-! spare -/
def gz (S : ST) (t : Nat) : Bool := decide (goS (altP S t) = 0)
def rwF (S : ST) (i j : Nat) : Bool := decide (i < j) && gz S (2 ^ i ||| 2 ^ j)
def rwS (S : ST) (i : Nat) : Option Nat := sp_first (rwF S i) S.2.2.1.length
def f1S (S : ST) (i : Nat) : Bool := gz S (2 ^ i)
def f2S (S : ST) (i : Nat) : Bool := (rwS S i).isSome
def spB (S : ST) : Option (Nat × Nat × Nat) := if gz S 0 = true then some (0, 0, 0) else match sp_first (f1S S) S.2.2.1.length with
  | some i => some (1, i, 0)
  | none => match sp_first (f2S S) S.2.2.1.length with
    | some i => some (2, i, (rwS S i).getD 0)
    | none => none
def spI : Option (Nat × Nat × Nat) → Int32
  | none => -1
  | some (0, _, _) => 0
  | some (1, i, _) => nI (2 ^ i)
  | some (_, i, j) => nI (2 ^ i ||| 2 ^ j)
theorem first_no {f : Nat → Bool} : ∀ k, (∀ j, j < k → f j = false) → sp_first f k = none
  | 0, _ => rfl
  | k + 1, h => by
    rw [sp_first, first_no k (fun j hj => h j (by omega))]
    show (if f k = true then some k else none) = none
    rw [h k (by omega)]
    rfl
theorem first_s {f : Nat → Bool} {k : Nat} (h : sp_first f k = none) (hf : f k = false) : sp_first f (k + 1) = none := by
  rw [sp_first, h]
  show (if f k = true then some k else none) = none
  rw [hf]
  rfl
theorem first_y {f : Nat → Bool} {k N : Nat} (h : sp_first f k = none) (hf : f k = true) (hk : k < N) : sp_first f N = some k := by
  have e1 : sp_first f (k + 1) = some k := by
    rw [sp_first, h]
    show (if f k = true then some k else none) = some k
    rw [hf]
    rfl
  have e2 := first_mono e1 (N - (k + 1))
  rw [show k + 1 + (N - (k + 1)) = N by omega] at e2
  exact e2
theorem gone0 {P : PL} (hp : okP P) : (M_X7_goneIn (pkS P) = 0) ↔ goS P = 0 := by
  have b := pkS_b hp
  have hu : M_X7_goneIn (pkS P) = nI (goS P) := (unpk b.1 b.2.1 b.2.2.1 b.2.2.2).2.1
  rw [hu, show (0 : Int32) = nI 0 from rfl, nI_eq (by omega) (by omega)]
theorem or8 {i j : Nat} (hi : i < 8) (hj : j < 8) : 2 ^ i ||| 2 ^ j < 256 := Nat.or_lt_two_pow (n := 8) (pow8 hi) (pow8 hj)
theorem c_gone {n t : Nat} {S : ST} {h : AH} (hc : CR h S) (ht : t < 256) (hn : 600 < n) : ∃ v h', M_X7_outcome n (nI t) h = some (v, h') ∧ CR h' S ∧ (M_X7_goneIn v = 0 ↔ gz S t = true) := by
  obtain ⟨h1, a1, a2⟩ := c_outcome (n := n) (t := t) hc (by omega) (by omega)
  refine ⟨_, h1, a1, a2, ?_⟩
  rw [gone0 (altP_ok hc.1 (by omega))]
  unfold gz
  rw [decide_eq_true_iff]
set_option maxHeartbeats 1000000 in
theorem c_sp64 {n : Nat} {S : ST} {h : AH} (hc : CR h S) (h0 : gz S 0 = false) (h1 : sp_first (f1S S) S.2.2.1.length = none) (hn : 600 < n) : ∃ h', L_X8_sparedEvents_64 n n (nI S.2.2.1.length) 0 h = some (spI (spB S), h') ∧ CR h' S := by
  have h8 := hc.1.2.2.2.2.1.1
  have hsp : spB S = match sp_first (f2S S) S.2.2.1.length with
    | some i => some (2, i, (rwS S i).getD 0)
    | none => none := by
    unfold spB
    rw [h0, h1]
    rfl
  refine loopW (ρ := Int32) (L := fun m r h => L_X8_sparedEvents_64 n m (nI S.2.2.1.length) r h) (I := fun i r h => r = nI i ∧ CR h S ∧ sp_first (f2S S) i = none) (Q := fun o => ∃ h', o = some (spI (spB S), h') ∧ CR h' S) (N := S.2.2.1.length) (fun m i r h hi hI => ?_) (fun m r h hI => ?_) S.2.2.1.length 0 n 0 h (by omega) (by omega) ⟨rfl, hc, rfl⟩
  · obtain ⟨rfl, i2, i3⟩ := hI
    show (∃ r' h', L_X8_sparedEvents_64 n (m + 1) (nI S.2.2.1.length) (nI i) h = L_X8_sparedEvents_64 n m (nI S.2.2.1.length) r' h' ∧ _) ∨ ∃ h', L_X8_sparedEvents_64 n (m + 1) (nI S.2.2.1.length) (nI i) h = _ ∧ _
    rw [L_X8_sparedEvents_64, if_neg (nI_ge hi (by omega)), nI_1]
    refine loopW (ρ := Int32) (L := fun m2 r h => L_X8_sparedEvents_73 n (L_X8_sparedEvents_64 n m) m2 (nI S.2.2.1.length) (nI i) r h) (I := fun j r h => r = nI j ∧ CR h S ∧ sp_first (rwF S i) j = none ∧ i < j) (Q := fun o => (∃ r' h', o = L_X8_sparedEvents_64 n m (nI S.2.2.1.length) r' h' ∧ (r' = nI (i + 1) ∧ CR h' S ∧ sp_first (f2S S) (i + 1) = none)) ∨ ∃ h', o = some (spI (spB S), h') ∧ CR h' S) (N := S.2.2.1.length) (fun m2 j r h hj hJ => ?_) (fun m2 r h hJ => ?_) (S.2.2.1.length - (i + 1)) (i + 1) n (nI (i + 1)) h (by omega) (by omega) ⟨rfl, i2, first_no _ (fun j hj => by
      unfold rwF
      rw [decide_eq_false (by omega)]
      rfl), by omega⟩
    · obtain ⟨rfl, j2, j3, hij⟩ := hJ
      show (∃ r' h', L_X8_sparedEvents_73 n (L_X8_sparedEvents_64 n m) (m2 + 1) (nI S.2.2.1.length) (nI i) (nI j) h = L_X8_sparedEvents_73 n (L_X8_sparedEvents_64 n m) m2 (nI S.2.2.1.length) (nI i) r' h' ∧ _) ∨ _
      have hlt := or8 (show i < 8 by omega) (show j < 8 by omega)
      have l1 := pow8 (show i < 8 by omega)
      have l2 := pow8 (show j < 8 by omega)
      obtain ⟨v, h1, a1, a2, a3⟩ := c_gone (n := n) (t := 2 ^ i ||| 2 ^ j) j2 hlt hn
      have eu : L_X8_sparedEvents_73 n (L_X8_sparedEvents_64 n m) (m2 + 1) (nI S.2.2.1.length) (nI i) (nI j) h = if M_X7_goneIn v = 0 then some (nI (2 ^ i ||| 2 ^ j), h1) else L_X8_sparedEvents_73 n (L_X8_sparedEvents_64 n m) m2 (nI S.2.2.1.length) (nI i) (nI (j + 1)) h1 := by
        rw [L_X8_sparedEvents_73, if_neg (nI_ge hj (by omega)), nI_bit (by omega), nI_bit (by omega), nI_or _ _ (by omega) (by omega), a1, bS, nI_1]
      rw [eu]
      cases hg : gz S (2 ^ i ||| 2 ^ j)
      · left
        rw [if_neg (fun z => by rw [a3.mp z] at hg; cases hg)]
        exact ⟨nI (j + 1), h1, rfl, rfl, a2, first_s j3 (by unfold rwF; rw [hg, Bool.and_false]), by omega⟩
      · right
        right
        have er : rwS S i = some j := first_y j3 (by unfold rwF; rw [hg, decide_eq_true hij]; rfl) hj
        have e2 : sp_first (f2S S) S.2.2.1.length = some i := first_y i3 (by unfold f2S; rw [er]; rfl) hi
        rw [if_pos (a3.mpr hg), hsp, e2]
        refine ⟨h1, ?_, a2⟩
        show _ = some (nI (2 ^ i ||| 2 ^ ((rwS S i).getD 0)), h1)
        rw [er]
        rfl
    · obtain ⟨rfl, j2, j3, -⟩ := hJ
      left
      rw [L_X8_sparedEvents_73, if_pos (nI_le (Nat.le_refl _) (by omega)), nI_1]
      exact ⟨nI (i + 1), h, rfl, rfl, j2, first_s i3 (by unfold f2S; rw [show rwS S i = none from j3]; rfl)⟩
  · obtain ⟨rfl, i2, i3⟩ := hI
    rw [L_X8_sparedEvents_64, if_pos (nI_le (Nat.le_refl _) (by omega)), hsp, i3]
    exact ⟨h, rfl, i2⟩
theorem c_spE {n : Nat} {S : ST} {h : AH} (hc : CR h S) (hn : 600 < n) : ∃ h', M_X8_sparedEvents n h = some (spI (spB S), h') ∧ CR h' S := by
  have h8 := hc.1.2.2.2.2.1.1
  unfold M_X8_sparedEvents
  obtain ⟨v, h1, a1, a2, a3⟩ := c_gone (n := n) (t := 0) hc (by omega) hn
  have a1 : M_X7_outcome n 0 h = some (v, h1) := a1
  rw [a1, bS]
  cases hg : gz S 0
  · rw [if_neg (fun z => by rw [a3.mp z] at hg; cases hg), a2.2.1.2.2.1.1, show (8 : Int32) = nI 8 from rfl, minN (by omega) (by omega), Nat.min_eq_left h8]
    refine loopW (ρ := Int32) (L := fun m r h => L_X8_sparedEvents_31 n m (nI S.2.2.1.length) r h) (I := fun i r h => r = nI i ∧ CR h S ∧ sp_first (f1S S) i = none) (Q := fun o => ∃ h', o = some (spI (spB S), h') ∧ CR h' S) (N := S.2.2.1.length) (fun m i r h hi hI => ?_) (fun m r h hI => ?_) S.2.2.1.length 0 n 0 h1 (by omega) (by omega) ⟨rfl, a2, rfl⟩
    · obtain ⟨rfl, i2, i3⟩ := hI
      have l1 := pow8 (show i < 8 by omega)
      obtain ⟨v, h1, a1, a2, a3⟩ := c_gone (n := n) (t := 2 ^ i) i2 l1 hn
      rw [L_X8_sparedEvents_31, if_neg (nI_ge hi (by omega)), nI_bit (by omega), a1, bS, nI_1]
      cases hgi : gz S (2 ^ i)
      · left
        rw [if_neg (fun z => by rw [a3.mp z] at hgi; cases hgi)]
        exact ⟨nI (i + 1), h1, rfl, rfl, a2, first_s i3 hgi⟩
      · right
        have e1 : sp_first (f1S S) S.2.2.1.length = some i := first_y i3 hgi hi
        have hsp : spB S = some (1, i, 0) := by
          unfold spB
          rw [hg, e1]
          rfl
        rw [if_pos (a3.mpr hgi), hsp]
        exact ⟨h1, rfl, a2⟩
    · obtain ⟨rfl, i2, i3⟩ := hI
      rw [L_X8_sparedEvents_31, if_pos (nI_le (Nat.le_refl _) (by omega))]
      exact c_sp64 i2 hg i3 hn
  · have hsp : spB S = some (0, 0, 0) := by
      unfold spB
      rw [hg]
      rfl
    rw [if_pos (a3.mpr hg), hsp]
    exact ⟨h1, rfl, a2⟩
def ba (x0 x1 : Int32) : Nat → Int32 → Nat → Int32
  | 0, _, _ => -1
  | d + 1, x2, k => if ((x0 >>> (nI k &&& 31)) &&& 1) = 1 then (if x2 = x1 then nI k else ba x0 x1 d (x2 + 1) (k + 1)) else ba x0 x1 d x2 (k + 1)
theorem c_bitAt {n : Nat} {x0 x1 : Int32} : ∀ (d k m : Nat) (x2 : Int32), k + d = 8 → d < m → L_X8_bitAt_4 n m x0 x1 x2 (nI k) = some (ba x0 x1 d x2 k)
  | 0, k, m, x2, hk, hm => by
    obtain ⟨m, rfl⟩ : ∃ q, m = q + 1 := ⟨m - 1, by omega⟩
    rw [L_X8_bitAt_4, show (8 : Int32) = nI 8 from rfl, if_pos (nI_le (by omega) (by omega))]
    rfl
  | d + 1, k, m, x2, hk, hm => by
    obtain ⟨m, rfl⟩ : ∃ q, m = q + 1 := ⟨m - 1, by omega⟩
    rw [L_X8_bitAt_4, show (8 : Int32) = nI 8 from rfl, if_neg (nI_ge (by omega) (by omega)), nI_1, ba]
    by_cases c1 : ((x0 >>> (nI k &&& 31)) &&& 1) = 1
    · rw [if_pos c1, if_pos c1]
      by_cases c2 : x2 = x1
      · rw [if_pos c2, if_pos c2]
      · rw [if_neg c2, if_neg c2]
        exact c_bitAt d (k + 1) m (x2 + 1) (by omega) (by omega)
    · rw [if_neg c1, if_neg c1]
      exact c_bitAt d (k + 1) m x2 (by omega) (by omega)
theorem bk0 : M_J13_bitCount 0 = 0 ∧ ba 0 0 8 0 0 = -1 ∧ ba 0 1 8 0 0 = -1 := by decide +kernel
theorem bk1 : ∀ i : Fin 8, M_J13_bitCount (nI (2 ^ i.val)) = 1 ∧ ba (nI (2 ^ i.val)) 0 8 0 0 = nI i.val ∧ ba (nI (2 ^ i.val)) 1 8 0 0 = -1 ∧ ¬ nI (2 ^ i.val) = -1 := by decide +kernel
theorem bk2 : ∀ i j : Fin 8, i.val < j.val → M_J13_bitCount (nI (2 ^ i.val ||| 2 ^ j.val)) = 2 ∧ ba (nI (2 ^ i.val ||| 2 ^ j.val)) 0 8 0 0 = nI i.val ∧ ba (nI (2 ^ i.val ||| 2 ^ j.val)) 1 8 0 0 = nI j.val ∧ ¬ nI (2 ^ i.val ||| 2 ^ j.val) = -1 := by decide +kernel
/-- a = 0: how many; 1, 2: the first, the second -/
def q_spa (S : ST) (a : Nat) : Int32 := match spB S with
  | none => -1
  | some (c, i, j) => if a = 0 then nI c else if c < a then -1 else if a = 1 then nI i else nI j
theorem first_f {f : Nat → Bool} : ∀ t x, sp_first f t = some x → f x = true
  | 0, x, h => by cases h
  | t + 1, x, h => by
    rw [sp_first] at h
    cases h1 : sp_first f t with
    | some y =>
      rw [h1] at h
      cases h
      exact first_f t x h1
    | none =>
      rw [h1] at h
      have h : (if f t = true then some t else none) = some x := h
      by_cases c : f t = true
      · rw [if_pos c] at h
        cases h
        exact c
      · rw [if_neg c] at h
        cases h
/-- what spB may be -/
theorem spB_c (S : ST) (h8 : S.2.2.1.length ≤ 8) : spB S = none ∨ spB S = some (0, 0, 0) ∨ (∃ i, i < 8 ∧ spB S = some (1, i, 0)) ∨ ∃ i j, i < j ∧ j < 8 ∧ spB S = some (2, i, j) := by
  unfold spB
  cases gz S 0
  · rw [if_neg (by decide)]
    cases h1 : sp_first (f1S S) S.2.2.1.length with
    | some i =>
      have := sp_first_lt _ _ h1
      exact Or.inr (Or.inr (Or.inl ⟨i, by omega, rfl⟩))
    | none =>
      cases h2 : sp_first (f2S S) S.2.2.1.length with
      | none => exact Or.inl rfl
      | some i =>
        have h3 := first_f _ _ h2
        unfold f2S at h3
        cases h4 : rwS S i with
        | none =>
          rw [h4] at h3
          cases h3
        | some j =>
          have h5 := sp_first_lt _ _ h4
          have h6 := first_f _ _ h4
          unfold rwF at h6
          rw [Bool.and_eq_true, decide_eq_true_iff] at h6
          right
          right
          right
          refine ⟨i, j, h6.1, by omega, ?_⟩
          show some (2, i, (rwS S i).getD 0) = _
          rw [h4]
          rfl
  · exact Or.inr (Or.inl rfl)
