/-! ask -/
theorem bitM {f : Nat → Bool} {t N : Nat} (ht : t < N) (hN : N ≤ 31) : ((nI (bN f N) >>> (nI t &&& 31)) &&& 1) = bI (f t) := by
  have := bN_lt f N
  have h2 : (2 : Nat) ^ N ≤ 2 ^ 31 := Nat.pow_le_pow_right (by omega) hN
  rw [bit1 (by omega) (by omega), bN_bit]
  cases h : f t
  · simp [ht, bI]
    rfl
  · simp [ht, bI]
    rfl
def abS (S : ST) (t : Nat) : Nat := cN (fun v => wtS S v && wbS S t v) 31
def alS (S : ST) : Nat := cN (wtS S) 31
def agS (S : ST) (t : Nat) : Nat := max (abS S t) (alS S - abS S t)
theorem cN_split (f g : Nat → Bool) : ∀ n, cN (fun v => f v && g v) n + cN (fun v => f v && !g v) n = cN f n
  | 0 => rfl
  | n + 1 => by
    have := cN_split f g n
    rw [cN, cN, cN]
    cases f n <;> cases g n <;> simp <;> omega
theorem ab_le (S : ST) (t : Nat) : abS S t ≤ alS S := by
  have := cN_split (wtS S) (wbS S t) 31
  unfold abS alS
  omega
theorem al_le (S : ST) : alS S ≤ 31 := cN_le _ 31
theorem ag_le (S : ST) (t : Nat) : agS S t ≤ alS S := by
  have := ab_le S t
  unfold agS
  omega
def ha (g : Nat → Nat) : Nat → Nat
  | 0 => 0
  | k + 1 => if g (ha g k) ≤ g (k + 1) then ha g k else k + 1
theorem ha_le (g : Nat → Nat) : ∀ k, ha g k ≤ k
  | 0 => Nat.le_refl _
  | k + 1 => by
    have := ha_le g k
    rw [ha]
    split <;> omega
def q_ask (S : ST) : Int32 := nI (ha (agS S) 23)
theorem maxN {a b : Nat} (h1 : a ≤ 100000) (hb : b ≤ 100000) : am_max (nI a) (nI b) = nI (max a b) := by
  unfold am_max
  by_cases h : a < b
  · rw [if_pos (nI_lt h (by omega)), Nat.max_eq_right (by omega)]
  · rw [if_neg (nI_nlt (by omega) (by omega)), Nat.max_eq_left (by omega)]
theorem c_boilW {n t : Nat} {S : ST} {h : AH} (hc : CR h S) (ht : t < 24) (hn : 600 < n) : ∃ h', M_X8_boilingWaters n (q_wat S) (nI t) h = some (nI (abS S t), h') ∧ CR h' S := by
  unfold M_X8_boilingWaters q_wat
  obtain ⟨m', h1, e1, e2⟩ := loopH (L := fun m (q : Int32 × Int32) h => L_X8_boilingWaters_5 n m (nI (bN (wtS S) 31)) (nI t) q.1 q.2 h) (f := fun k => (nI (cN (fun v => wtS S v && wbS S t v) k), nI k)) (I := fun _ h => CR h S) (N := 31) (by
    intro m k h hk hI
    show ∃ h', L_X8_boilingWaters_5 n (m + 1) (nI (bN (wtS S) 31)) (nI t) (nI (cN (fun v => wtS S v && wbS S t v) k)) (nI k) h = L_X8_boilingWaters_5 n m (nI (bN (wtS S) 31)) (nI t) (nI (cN (fun v => wtS S v && wbS S t v) (k + 1))) (nI (k + 1)) h' ∧ CR h' S
    rw [L_X8_boilingWaters_5, show (31 : Int32) = nI 31 from rfl, if_neg (nI_ge hk (by omega))]
    have hb1 := bitM (f := wtS S) hk (show 31 ≤ 31 by omega)
    have hb1 : ((nI (bN (wtS S) 31) >>> (nI k &&& nI 31)) &&& 1) = bI (wtS S k) := hb1
    rw [hb1, nI_1, cN]
    cases hw : wtS S k
    · rw [if_neg (by decide)]
      exact ⟨h, rfl, hI⟩
    · obtain ⟨h1, a1, a2⟩ := c_outcome (n := n) (t := 256 + k) hI (by omega) (by omega)
      have b := pkS_b (altP_ok (t := 256 + k) hc.1 (by omega))
      have hu : M_X7_boiledIn (pkS (altP S (256 + k))) = nI (boS (altP S (256 + k))) := (unpk b.1 b.2.1 b.2.2.1 b.2.2.2).2.2.2.1
      have hbb : ((nI (boS (altP S (256 + k))) >>> (nI t &&& nI 31)) &&& 1) = bI (wbS S t k) := bitB (f := fun j => mn_b (altP S (256 + k)) j (stt (altP S (256 + k)) j)) ht
      rw [if_pos (by decide), show (256 : Int32) = nI 256 from rfl, nI_add, a1, bS, hu, hbb]
      refine ⟨h1, ?_, a2⟩
      cases hx : wbS S t k
      · rw [if_neg (by decide), show bI false = nI 0 from rfl, nI_add]
      · rw [if_pos (by decide), show bI true = nI 1 from rfl, nI_add]) 31 0 n h (by omega) (by omega) hc
  have e1 : L_X8_boilingWaters_5 n n (nI (bN (wtS S) 31)) (nI t) 0 0 h = L_X8_boilingWaters_5 n (m' + 1) (nI (bN (wtS S) 31)) (nI t) (nI (abS S t)) (nI 31) h1 := e1
  rw [e1, L_X8_boilingWaters_5, if_pos (by decide)]
  exact ⟨h1, rfl, e2⟩
def aw (S : ST) : Nat → Nat × Nat
  | 0 => (0, alS S)
  | k + 1 => (ha (agS S) k, agS S (ha (agS S) k))
theorem aw_y {S : ST} {k : Nat} (h : (aw S k).2 ≤ agS S k) : aw S (k + 1) = aw S k := by
  cases k with
  | zero =>
    have h1 := ag_le S 0
    have h : alS S ≤ agS S 0 := h
    show ((0 : Nat), agS S 0) = (0, alS S)
    rw [show agS S 0 = alS S by omega]
  | succ k =>
    have h : agS S (ha (agS S) k) ≤ agS S (k + 1) := h
    show (ha (agS S) (k + 1), agS S (ha (agS S) (k + 1))) = (ha (agS S) k, agS S (ha (agS S) k))
    rw [ha, if_pos h]
theorem aw_n {S : ST} {k : Nat} (h : ¬ (aw S k).2 ≤ agS S k) : aw S (k + 1) = (k, agS S k) := by
  cases k with
  | zero => rfl
  | succ k =>
    have h : ¬ agS S (ha (agS S) k) ≤ agS S (k + 1) := h
    show (ha (agS S) (k + 1), agS S (ha (agS S) (k + 1))) = _
    rw [ha, if_neg h]
theorem aw_le (S : ST) (k : Nat) : (aw S k).2 ≤ 31 := by
  have h1 := al_le S
  cases k with
  | zero => exact h1
  | succ k =>
    have := ag_le S (ha (agS S) k)
    show agS S (ha (agS S) k) ≤ 31
    omega
theorem c_ask {n : Nat} {S : ST} {h : AH} (hc : CR h S) (hn : 600 < n) : ∃ h', M_X8_ask n h = some (q_ask S, h') ∧ CR h' S := by
  have hal := al_le S
  unfold M_X8_ask q_ask
  obtain ⟨h1, a1, a2⟩ := c_waters (n := n) hc hn
  have hbc : M_J13_bitCount (q_wat S) = nI (alS S) := bitN (by omega)
  rw [a1, bS, hbc]
  obtain ⟨m', h2, e1, e2⟩ := loopH (L := fun m (q : (Int32 × Int32) × Int32) h => L_X8_ask_18 n m (q_wat S) (nI (alS S)) q.1.1 q.1.2 q.2 h) (f := fun k => ((nI (aw S k).1, nI (aw S k).2), nI k)) (I := fun _ h => CR h S) (N := 24) (by
    intro m k h hk hI
    show ∃ h', L_X8_ask_18 n (m + 1) (q_wat S) (nI (alS S)) (nI (aw S k).1) (nI (aw S k).2) (nI k) h = L_X8_ask_18 n m (q_wat S) (nI (alS S)) (nI (aw S (k + 1)).1) (nI (aw S (k + 1)).2) (nI (k + 1)) h' ∧ CR h' S
    obtain ⟨h1, b1, b2⟩ := c_boilW (n := n) (t := k) hI hk hn
    have g1 := ab_le S k
    have g2 := aw_le S k
    have g3 := ag_le S k
    have hmx : am_max (nI (abS S k)) (nI (alS S - abS S k)) = nI (agS S k) := maxN (by omega) (by omega)
    rw [L_X8_ask_18, show (24 : Int32) = nI 24 from rfl, if_neg (nI_ge hk (by omega)), b1, bS, nI_sub g1, hmx, nI_1]
    refine ⟨h1, ?_, b2⟩
    by_cases q : (aw S k).2 ≤ agS S k
    · rw [if_pos (nI_le q (by omega)), aw_y q]
    · rw [if_neg (nI_ge (by omega) (by omega)), aw_n q]) 24 0 n h1 (by omega) (by omega) a2
  have e1 : L_X8_ask_18 n n (q_wat S) (nI (alS S)) 0 (nI (alS S)) 0 h1 = L_X8_ask_18 n (m' + 1) (q_wat S) (nI (alS S)) (nI (aw S 24).1) (nI (aw S 24).2) (nI 24) h2 := e1
  rw [e1, L_X8_ask_18, if_pos (by decide)]
  exact ⟨h2, rfl, e2⟩
theorem bN_and (f g : Nat → Bool) (n : Nat) : bN f n &&& bN g n = bN (fun v => f v && g v) n := by
  apply Nat.eq_of_testBit_eq
  intro j
  rw [Nat.testBit_and, bN_bit, bN_bit, bN_bit]
  cases decide (j < n) <;> cases f j <;> cases g j <;> rfl
theorem m1_bv : (-1 : Int32).toBitVec = BitVec.allOnes 32 := by decide +kernel
theorem bN_andn (f g : Nat → Bool) : nI (bN f 31) &&& (nI (bN g 31) ^^^ (-1)) = nI (bN (fun v => f v && !g v) 31) := by
  apply Int32.toBitVec_inj.mp
  apply BitVec.eq_of_getLsbD_eq
  intro i hi
  rw [Int32.toBitVec_and, Int32.toBitVec_xor, m1_bv, BitVec.getLsbD_and, BitVec.getLsbD_xor, BitVec.getLsbD_allOnes]
  show ((BitVec.ofNat 32 (bN f 31)).getLsbD i && ((BitVec.ofNat 32 (bN g 31)).getLsbD i ^^ decide (i < 32))) = (BitVec.ofNat 32 (bN (fun v => f v && !g v) 31)).getLsbD i
  rw [BitVec.getLsbD_ofNat, BitVec.getLsbD_ofNat, BitVec.getLsbD_ofNat, bN_bit, bN_bit, bN_bit, decide_eq_true hi]
  cases decide (i < 31) <;> cases f i <;> cases g i <;> rfl
theorem m_manyB {n : Nat} {f : Nat → Bool} (hn : 600 < n) : M_X9_many n (nI (bN f 31)) = some (nI (cN f 31)) := by
  unfold M_X9_many
  obtain ⟨m', e⟩ := loopP (L := fun m (q : Int32 × Int32) => L_X9_many_4 n m (nI (bN f 31)) q.1 q.2) (f := fun k => (nI (cN f k), nI k)) (N := 31) (by
    intro m k hk
    show L_X9_many_4 n (m + 1) (nI (bN f 31)) (nI (cN f k)) (nI k) = L_X9_many_4 n m (nI (bN f 31)) (nI (cN f (k + 1))) (nI (k + 1))
    have hb1 := bitM (f := f) hk (show 31 ≤ 31 by omega)
    rw [L_X9_many_4, show (30 : Int32) = nI 30 from rfl, if_neg (nI_nlt (by omega) (by omega)), cN]
    unfold M_X9_isIn B_X9_many_24
    rw [hb1, nI_1]
    cases hfk : f k
    · rw [if_neg (show ¬ bI false = 1 by decide), if_pos rfl, if_neg (by decide), show (0 : Int32) = nI 0 from rfl, nI_add]
    · rw [if_pos (show bI true = 1 by decide), if_neg (by decide), if_pos rfl, nI_1]) 31 0 n (by omega) (by omega)
  have e : L_X9_many_4 n n (nI (bN f 31)) 0 0 = L_X9_many_4 n (m' + 1) (nI (bN f 31)) (nI (cN f 31)) (nI 31) := e
  rw [e, L_X9_many_4, if_pos (by decide)]
theorem m_and {n : Nat} (f g : Nat → Bool) (hn : 600 < n) : M_X9_many n (nI (bN f 31) &&& nI (bN g 31)) = some (nI (cN (fun v => f v && g v) 31)) := by
  have l1 := bN_lt f 31
  have l2 := bN_lt g 31
  rw [nI_and _ _ (by omega) (by omega), bN_and, m_manyB hn]
theorem m_andn {n : Nat} (f g : Nat → Bool) (hn : 600 < n) : M_X9_many n (nI (bN f 31) &&& (nI (bN g 31) ^^^ (-1))) = some (nI (cN f 31 - cN (fun v => f v && g v) 31)) := by
  have := cN_split f g 31
  rw [bN_andn, m_manyB hn, show cN f 31 - cN (fun v => f v && g v) 31 = cN (fun v => f v && !g v) 31 by omega]
def av (S : ST) : Nat → Int32 × Int32
  | 0 => (-1, 0)
  | k + 1 => (nI (ha (agS S) k), nI (agS S (ha (agS S) k)))
theorem av_s (S : ST) (k : Nat) : (av S (k + 1)).1 = nI (ha (agS S) k) := rfl
theorem m_ask63 {n k : Nat} {S : ST} {h : AH} {k12 : Int32 → Int32 → Int32 → Int32 → AH → Option (Int32 × AH)} {x1 : Int32} (hk : k < 24) : B_X9_askOf_63 n k12 x1 (av S k).1 (av S k).2 (nI k) (nI (agS S k)) h = k12 x1 (av S (k + 1)).1 (av S (k + 1)).2 (nI (k + 1)) h := by
  unfold B_X9_askOf_63 B_X9_askOf_76 B_X9_askOf_81 B_X9_askOf_94
  have g0 := al_le S
  cases k with
  | zero =>
    show (if (-1 : Int32) = -1 then _ else _) = _
    rw [if_pos rfl, if_neg (by decide), if_neg (by decide), nI_1]
    rfl
  | succ k =>
    have g1 := ag_le S (k + 1)
    have g2 := ag_le S (ha (agS S) k)
    have g3 := ha_le (agS S) k
    show (if nI (ha (agS S) k) = -1 then _ else _) = _
    rw [if_neg (by rw [lit_m1, zI_n, zI_eq (by omega) (by omega) (by omega) (by omega)]; omega), nI_1]
    show (if nI (agS S (ha (agS S) k)) ≤ nI (agS S (k + 1)) then _ else _) = k12 x1 (nI (ha (agS S) (k + 1))) (nI (agS S (ha (agS S) (k + 1)))) _ h
    rw [ha]
    by_cases q : agS S (ha (agS S) k) ≤ agS S (k + 1)
    · rw [if_pos (nI_le q (by omega)), if_pos q, if_pos rfl, if_pos rfl]
      rfl
    · rw [if_neg (nI_ge (by omega) (by omega)), if_neg q, if_neg (by decide), if_neg (by decide)]
theorem m_askY1 {n k : Nat} {S : ST} (hn : 600 < n) : M_X9_many n (q_wat S &&& nI (bN (wbS S k) 31)) = some (nI (abS S k)) := by
  unfold q_wat abS
  exact m_and (wtS S) (wbS S k) hn
theorem m_askY2 {n k : Nat} {S : ST} (hn : 600 < n) : M_X9_many n (q_wat S &&& (nI (bN (wbS S k) 31) ^^^ (-1))) = some (nI (alS S - abS S k)) := by
  unfold q_wat abS alS
  exact m_andn (wtS S) (wbS S k) hn
theorem m_askG0 {n m k : Nat} {x1 x2 x3 : Int32} {h1 : AH} (hk : k < 24) : L_X9_askOf_12 n (m + 1) x1 x2 x3 (nI k) h1 = am_o (M_X9_many n (x1 &&& h1.2.1 103 k)) fun v1 => am_o (M_X9_many n (x1 &&& (h1.2.1 103 k ^^^ (-1)))) fun v2 => if v1 ≤ v2 then B_X9_askOf_63 n (L_X9_askOf_12 n m) x1 x2 x3 (nI k) v2 h1 else B_X9_askOf_63 n (L_X9_askOf_12 n m) x1 x2 x3 (nI k) v1 h1 := by
  have e1 := am_inK hk (show 24 ≤ 100000 by omega)
  have e2 := nK (show k ≤ 100000 by omega)
  have e3 : ¬ (24 : Int32) ≤ nI k := by
    rw [show (24 : Int32) = nI 24 from rfl]
    exact nI_ge hk (by omega)
  rw [L_X9_askOf_12, if_neg e3, e1, e2]
  rfl
theorem m_askG {n m k b c : Nat} {x1 x2 x3 : Int32} {h1 : AH} {R : Option (Int32 × AH)} (hk : k < 24) (hb : b ≤ 100) (hc : c ≤ 100) (y1 : M_X9_many n (x1 &&& h1.2.1 103 k) = some (nI b)) (y2 : M_X9_many n (x1 &&& (h1.2.1 103 k ^^^ (-1))) = some (nI c)) (key : B_X9_askOf_63 n (L_X9_askOf_12 n m) x1 x2 x3 (nI k) (nI (max b c)) h1 = R) : L_X9_askOf_12 n (m + 1) x1 x2 x3 (nI k) h1 = R := by
  rw [m_askG0 hk, y1, y2, oS, oS]
  by_cases q : b ≤ c
  · rw [if_pos (nI_le q (by omega))]
    rw [Nat.max_eq_right q] at key
    exact key
  · rw [if_neg (nI_ge (by omega) (by omega))]
    rw [Nat.max_eq_left (by omega)] at key
    exact key
theorem ab_100 (S : ST) (k : Nat) : abS S k ≤ 100 := by
  have h1 := ab_le S k
  have h2 := al_le S
  generalize abS S k = x at *
  generalize alS S = y at *
  omega
theorem as_100 (S : ST) (k : Nat) : alS S - abS S k ≤ 100 := by
  have h2 := al_le S
  generalize abS S k = x at *
  generalize alS S = y at *
  omega
theorem m_askStep {n m k : Nat} {S : ST} {h1 : AH} (hn : 600 < n) (a3 : ∀ t, t < 24 → h1.2.1 103 t = nI (bN (wbS S t) 31)) (hk : k < 24) : L_X9_askOf_12 n (m + 1) (q_wat S) (av S k).1 (av S k).2 (nI k) h1 = L_X9_askOf_12 n m (q_wat S) (av S (k + 1)).1 (av S (k + 1)).2 (nI (k + 1)) h1 := by
  refine m_askG (b := abS S k) (c := alS S - abS S k) hk (ab_100 S k) (as_100 S k) (by rw [a3 k hk]; exact m_askY1 hn) (by rw [a3 k hk]; exact m_askY2 hn) ?_
  exact m_ask63 hk
theorem m_askLoop {n : Nat} {S : ST} {h1 : AH} (hn : 600 < n) (a3 : ∀ t, t < 24 → h1.2.1 103 t = nI (bN (wbS S t) 31)) : ∃ m', L_X9_askOf_12 n n (q_wat S) (av S 0).1 (av S 0).2 (nI 0) h1 = L_X9_askOf_12 n (m' + 1) (q_wat S) (av S 24).1 (av S 24).2 (nI 24) h1 := loopP (L := fun m (q : (Int32 × Int32) × Int32) => L_X9_askOf_12 n m (q_wat S) q.1.1 q.1.2 q.2 h1) (f := fun k => (av S k, nI k)) (N := 24) (fun m k hk => m_askStep hn a3 hk) 24 0 n (by omega) (by omega)
theorem av_0 (S : ST) : (av S 0).1 = -1 ∧ (av S 0).2 = 0 := ⟨rfl, rfl⟩
theorem m_askOf {n : Nat} {S : ST} {h : AH} (ho : okST S) (hm : MT h S) (hn : 600 < n) : ∃ h', M_X9_askOf n h = some (q_ask S, h') ∧ ME h' S := by
  obtain ⟨h1, a1, a2, a3⟩ := m_watersBy (n := n) ho hm hn
  obtain ⟨m', e⟩ := m_askLoop (n := n) (S := S) hn a3
  rw [(av_0 S).1, (av_0 S).2, show nI 0 = (0 : Int32) from rfl] at e
  refine ⟨h1, ?_, a2⟩
  unfold M_X9_askOf q_ask
  rw [a1, bS, e, L_X9_askOf_12, if_pos (by decide), av_s S 23]
theorem two_ask {n : Nat} (hn : 600 < n) : two (M_X8_ask n) (M_X9_ask n) := by
  intro S ho
  refine ⟨q_ask S, S, fun h hc => c_ask hc hn, fun h hm => ?_⟩
  obtain ⟨h1, a1, a2⟩ := m_askOf (n := n) ho hm hn
  unfold M_X9_ask
  rw [a1]
  exact ⟨h1, rfl, a2.1⟩
