/-! the reference reads a text -/
def mA (tx : Nat) : Nat := 78 + 3 * tx
def mF (tx : Nat) : Nat := 2 + 4 * tx
def arrM (h : AH) (tx : Nat) (l : List T3) : Prop := ∀ (j : Nat) (x : T3), l[j]? = some x → h.2.1 (mA tx) j = nI x.1 ∧ h.2.1 (mA tx + 1) j = nI x.2.1 ∧ h.2.1 (mA tx + 2) j = nI x.2.2
def entM (h : AH) (tx : Nat) (l : List T3) : Prop := h.1 75 (mF tx) = nI l.length ∧ arrM h tx l
def txM (h : AH) (tx : Nat) (bs : List Nat) : Prop := h.2.1 76 tx = nI bs.length ∧ ∀ j, j < bs.length → h.2.1 77 (31 * tx + j) = nI (bt bs j)
def bz (bs : List Nat) (k : Nat) : Int := if k < bs.length then (bt bs k : Int) else -1
def kz (tx : Nat) (bs : List Nat) (k : Nat) : Option Nat := if k < bs.length then kd tx (bt bs k) else none
theorem bz_b {bs : List Nat} (hb : ∀ b ∈ bs, b ≤ 255) (k : Nat) : -1 ≤ bz bs k ∧ bz bs k ≤ 255 := by
  have := bt_lt hb k
  unfold bz
  split <;> omega
theorem m_byteAt {tx k : Nat} {bs : List Nat} {h : AH} (ht : tx < 2) (hl : bs.length ≤ 31) (hx : txM h tx bs) (hk : k ≤ 1000) : M_X9_byteAt (nI tx) (nI k) h = some (zI (bz bs k)) := by
  unfold M_X9_byteAt bz
  rw [am_inK ht (by omega), nK (by omega), hx.1]
  simp only [cond_true]
  by_cases c : k < bs.length
  · rw [if_neg (nI_ge c (by omega)), if_pos c, show (31 : Int32) = nI 31 from rfl, nI_mul, nI_add, am_inK (show 31 * tx + k < 62 by omega) (by omega), nK (by omega), hx.2 k c, zI_n]
    rfl
  · rw [if_pos (nI_le (by omega) (by omega)), if_neg c, lit_m1]
theorem zk {z : Int} {k : Nat} (h1 : -1000 ≤ z) (h2 : z ≤ 1000) (hk : k ≤ 1000) : zI z = nI k ↔ z = k := by
  rw [zI_n, zI_eq (by omega) (by omega) (by omega) (by omega)]
set_option maxHeartbeats 4000000 in
theorem m_part85 {tx a : Nat} {x2 : Int32} {bs : List Nat} {h : AH} (ht : tx < 2) (hl : bs.length ≤ 31) (hb : ∀ b ∈ bs, b ≤ 255) (hx : txM h tx bs) (ha : a ≤ 40) : M_X9_readsPart (nI tx) x2 (nI a) h = B_X9_readsPart_85 (nI tx) x2 (nI a) (zI (bz bs a - 97)) (svI (kz tx bs (a + 1))) h := by
  unfold M_X9_readsPart
  rw [nI_1, m_byteAt ht hl hx (by omega), m_byteAt ht hl hx (by omega)]
  have hb1 := bz_b hb (a + 1)
  have e1 : zI (bz bs a) - 97 = zI (bz bs a - 97) := by
    rw [show (97 : Int32) = zI 97 from rfl, zI_sub]
  show (if nI tx = 0 then if zI (bz bs (a + 1)) = 107 then B_X9_readsPart_85 (nI tx) x2 (nI a) (zI (bz bs a) - 97) 0 h else if zI (bz bs (a + 1)) = 98 then B_X9_readsPart_85 (nI tx) x2 (nI a) (zI (bz bs a) - 97) 1 h else if zI (bz bs (a + 1)) = 99 then B_X9_readsPart_85 (nI tx) x2 (nI a) (zI (bz bs a) - 97) 2 h else B_X9_readsPart_85 (nI tx) x2 (nI a) (zI (bz bs a) - 97) (-1) h else if zI (bz bs (a + 1)) = 119 then B_X9_readsPart_85 (nI tx) x2 (nI a) (zI (bz bs a) - 97) 0 h else if zI (bz bs (a + 1)) = 100 then B_X9_readsPart_85 (nI tx) x2 (nI a) (zI (bz bs a) - 97) 1 h else B_X9_readsPart_85 (nI tx) x2 (nI a) (zI (bz bs a) - 97) (-1) h) = _
  rw [e1]
  have z1 := zk (z := bz bs (a + 1)) (k := 107) (by omega) (by omega) (by omega)
  have z2 := zk (z := bz bs (a + 1)) (k := 98) (by omega) (by omega) (by omega)
  have z3 := zk (z := bz bs (a + 1)) (k := 99) (by omega) (by omega) (by omega)
  have z4 := zk (z := bz bs (a + 1)) (k := 119) (by omega) (by omega) (by omega)
  have z5 := zk (z := bz bs (a + 1)) (k := 100) (by omega) (by omega) (by omega)
  rw [show nI 107 = (107 : Int32) from rfl] at z1
  rw [show nI 98 = (98 : Int32) from rfl] at z2
  rw [show nI 99 = (99 : Int32) from rfl] at z3
  rw [show nI 119 = (119 : Int32) from rfl] at z4
  rw [show nI 100 = (100 : Int32) from rfl] at z5
  have hz : bz bs (a + 1) = if a + 1 < bs.length then (bt bs (a + 1) : Int) else -1 := rfl
  unfold kz kd
  by_cases cl : a + 1 < bs.length
  · rw [if_pos cl] at hz
    rw [if_pos cl]
    by_cases c0 : tx = 0
    · rw [if_pos (by rw [c0]; rfl), if_pos c0]
      by_cases c1 : bt bs (a + 1) = 107
      · rw [if_pos (z1.mpr (by omega)), if_pos c1]
        rfl
      · rw [if_neg (fun w => c1 (by have := z1.mp w; omega)), if_neg c1]
        by_cases c2 : bt bs (a + 1) = 98
        · rw [if_pos (z2.mpr (by omega)), if_pos c2]
          rfl
        · rw [if_neg (fun w => c2 (by have := z2.mp w; omega)), if_neg c2]
          by_cases c3 : bt bs (a + 1) = 99
          · rw [if_pos (z3.mpr (by omega)), if_pos c3]
            rfl
          · rw [if_neg (fun w => c3 (by have := z3.mp w; omega)), if_neg c3]
            rfl
    · rw [if_neg (by rw [show (0 : Int32) = nI 0 from rfl]; exact kF c0 (by omega) (by omega)), if_neg c0]
      by_cases c1 : bt bs (a + 1) = 119
      · rw [if_pos (z4.mpr (by omega)), if_pos c1]
        rfl
      · rw [if_neg (fun w => c1 (by have := z4.mp w; omega)), if_neg c1]
        by_cases c2 : bt bs (a + 1) = 100
        · rw [if_pos (z5.mpr (by omega)), if_pos c2]
          rfl
        · rw [if_neg (fun w => c2 (by have := z5.mp w; omega)), if_neg c2]
          rfl
  · rw [if_neg cl] at hz
    by_cases c0 : nI tx = 0
    · rw [if_neg cl, if_pos c0, if_neg (fun w => by have := z1.mp w; omega), if_neg (fun w => by have := z2.mp w; omega), if_neg (fun w => by have := z3.mp w; omega)]
      rfl
    · rw [if_neg cl, if_neg c0, if_neg (fun w => by have := z4.mp w; omega), if_neg (fun w => by have := z5.mp w; omega)]
      rfl
theorem inZ1 {a lo hi : Int} (h : lo ≤ a ∧ a ≤ hi) (a1 : -100000 ≤ a) (a2 : a ≤ 100000) (b1 : -100000 ≤ lo) (b2 : lo ≤ 100000) (c1 : -100000 ≤ hi) (c2 : hi ≤ 100000) : M_X9_in (zI a) (zI lo) (zI hi) = 1 := by
  rw [inZ a1 a2 b1 b2 c1 c2, if_pos h]
theorem inZ0 {a lo hi : Int} (h : ¬ (lo ≤ a ∧ a ≤ hi)) (a1 : -100000 ≤ a) (a2 : a ≤ 100000) (b1 : -100000 ≤ lo) (b2 : lo ≤ 100000) (c1 : -100000 ≤ hi) (c2 : hi ≤ 100000) : M_X9_in (zI a) (zI lo) (zI hi) = 0 := by
  rw [inZ a1 a2 b1 b2 c1 c2, if_neg h]
theorem fit0 {tx cnt b : Nat} : fitS tx cnt 0 b = decide (cnt < 8 ∧ 97 ≤ b ∧ b ≤ 120) := rfl
theorem fit1 {tx cnt b : Nat} : fitS tx cnt 1 b = (kd tx b).isSome := rfl
theorem fit2 {tx cnt b : Nat} : fitS tx cnt 2 b = decide (49 ≤ b ∧ b ≤ 48 + mfg tx) := rfl
theorem fit3 {tx cnt b : Nat} : fitS tx cnt 3 b = decide (b = 59) := rfl
section MP
variable {tx n a : Nat} {bs : List Nat} {h : AH} (ht : tx < 2) (hl : bs.length ≤ 31) (hb : ∀ b ∈ bs, b ≤ 255) (hx : txM h tx bs) (ha : a ≤ 31) (hn : n < 8)
theorem m_p0 (ht : tx < 2) (hl : bs.length ≤ 31) (hb : ∀ b ∈ bs, b ≤ 255) (hx : txM h tx bs) (ha : a ≤ 31) (hn : n < 8) (h0 : ¬ (a < bs.length ∧ fitS tx n 0 (bt bs a) = true)) : M_X9_readsPart (nI tx) (nI n) (nI a) h = some (0, h) := by
  have hb0 := bz_b hb a
  rw [m_part85 ht hl hb hx (by omega)]
  unfold B_X9_readsPart_85 M_X9_isMinute
  rw [show (2 : Int32) = nI 2 from rfl, nI_add, m_byteAt ht hl hx (by omega)]
  show (if nI n = 8 then _ else _) = _
  rw [if_neg (by rw [show (8 : Int32) = nI 8 from rfl]; exact kF (by omega) (by omega) (by omega)), if_pos]
  rw [show (0 : Int32) = zI 0 from rfl, show (23 : Int32) = zI 23 from rfl]
  refine inZ0 (fun z => h0 ?_) (by omega) (by omega) (by omega) (by omega) (by omega) (by omega)
  unfold bz at z
  by_cases c : a < bs.length
  · rw [if_pos c] at z
    exact ⟨c, by rw [fit0]; exact decide_eq_true ⟨hn, by omega, by omega⟩⟩
  · rw [if_neg c] at z
    omega
theorem m_p0y (hb : ∀ b ∈ bs, b ≤ 255) (h0 : a < bs.length ∧ fitS tx n 0 (bt bs a) = true) : M_X9_isMinute (zI (bz bs a - 97)) = 1 := by
  obtain ⟨c, hf⟩ := h0
  rw [fit0] at hf
  have hf := of_decide_eq_true hf
  unfold M_X9_isMinute bz
  rw [if_pos c, show (0 : Int32) = zI 0 from rfl, show (23 : Int32) = zI 23 from rfl]
  exact inZ1 ⟨by omega, by omega⟩ (by omega) (by omega) (by omega) (by omega) (by omega) (by omega)
theorem m_p1 (ht : tx < 2) (hl : bs.length ≤ 31) (hb : ∀ b ∈ bs, b ≤ 255) (hx : txM h tx bs) (ha : a ≤ 31) (hn : n < 8) (h0 : a < bs.length ∧ fitS tx n 0 (bt bs a) = true) (h1 : ¬ (a + 1 < bs.length ∧ fitS tx n 1 (bt bs (a + 1)) = true)) : M_X9_readsPart (nI tx) (nI n) (nI a) h = some (1, h) := by
  rw [m_part85 ht hl hb hx (by omega)]
  unfold B_X9_readsPart_85
  rw [show (2 : Int32) = nI 2 from rfl, nI_add, m_byteAt ht hl hx (by omega), m_p0y hb h0]
  show (if nI n = 8 then _ else _) = _
  have hk : kz tx bs (a + 1) = none := by
    unfold kz
    by_cases c : a + 1 < bs.length
    · rw [if_pos c]
      rw [fit1] at h1
      cases hq : kd tx (bt bs (a + 1)) with
      | none => rfl
      | some k =>
        rw [hq] at h1
        exact absurd ⟨c, rfl⟩ h1
    · rw [if_neg c]
  rw [if_neg (by rw [show (8 : Int32) = nI 8 from rfl]; exact kF (by omega) (by omega) (by omega)), if_neg (by decide), hk, if_pos (show svI none = -1 from rfl)]
theorem m_p1y (h1 : a + 1 < bs.length ∧ fitS tx n 1 (bt bs (a + 1)) = true) : svI (kz tx bs (a + 1)) = nI ((kd tx (bt bs (a + 1))).getD 0) ∧ ¬ svI (kz tx bs (a + 1)) = -1 := by
  obtain ⟨c, hf⟩ := h1
  rw [fit1] at hf
  obtain ⟨k, hk⟩ := Option.isSome_iff_exists.mp hf
  unfold kz
  rw [if_pos c, hk]
  refine ⟨rfl, fun z => ?_⟩
  have := kd_lt hk
  have z : nI k = -1 := z
  have hk3 : k < 3 := by split at this <;> omega
  rw [lit_m1, zI_n, zI_eq (by omega) (by omega) (by omega) (by omega)] at z
  omega
theorem m_p136 {x2 x4 x6 x7 : Int32} (hb : ∀ b ∈ bs, b ≤ 255) : B_X9_readsPart_136 (nI tx) x2 x4 x6 x7 (if tx = 0 then 3 else 4) 1 (zI (bz bs (a + 2)) - 48) h = (if a + 2 < bs.length ∧ fitS tx n 2 (bt bs (a + 2)) = true then B_X9_readsPart_136 (nI tx) x2 x4 x6 x7 1 1 1 h else some (2, h)) := by
  have hb2 := bz_b hb (a + 2)
  have hm : (if tx = 0 then (3 : Int32) else 4) = zI (mfg tx) := by
    unfold mfg
    split <;> rfl
  have hm4 : mfg tx ≤ 4 := by unfold mfg; split <;> omega
  unfold B_X9_readsPart_136
  rw [hm, show (48 : Int32) = zI 48 from rfl, zI_sub, show M_X9_in 1 1 1 = 1 by decide, show (1 : Int32) = zI 1 from rfl]
  by_cases c : a + 2 < bs.length ∧ fitS tx n 2 (bt bs (a + 2)) = true
  · rw [if_pos c]
    have hf := c.2
    rw [fit2] at hf
    have hf := of_decide_eq_true hf
    have e : bz bs (a + 2) = (bt bs (a + 2) : Int) := if_pos c.1
    rw [inZ1 ⟨by omega, by omega⟩ (by omega) (by omega) (by omega) (by omega) (by omega) (by omega), show zI 1 = 1 from rfl]
  · rw [if_neg c]
    rw [inZ0 (fun z => c ?_) (by omega) (by omega) (by omega) (by omega) (by omega) (by omega), if_pos rfl]
    unfold bz at z
    by_cases c2 : a + 2 < bs.length
    · rw [if_pos c2] at z
      exact ⟨c2, by rw [fit2]; exact decide_eq_true ⟨by omega, by omega⟩⟩
    · rw [if_neg c2] at z
      omega
theorem m_p2 (ht : tx < 2) (hl : bs.length ≤ 31) (hb : ∀ b ∈ bs, b ≤ 255) (hx : txM h tx bs) (ha : a ≤ 31) (hn : n < 8) (h0 : a < bs.length ∧ fitS tx n 0 (bt bs a) = true) (h1 : a + 1 < bs.length ∧ fitS tx n 1 (bt bs (a + 1)) = true) : M_X9_readsPart (nI tx) (nI n) (nI a) h = (if a + 2 < bs.length ∧ fitS tx n 2 (bt bs (a + 2)) = true then B_X9_readsPart_136 (nI tx) (nI n) (zI (bz bs a - 97)) (svI (kz tx bs (a + 1))) (zI (bz bs (a + 2)) - 48) 1 1 1 h else some (2, h)) := by
  rw [m_part85 ht hl hb hx (by omega), ← m_p136 hb]
  unfold B_X9_readsPart_85
  rw [show (2 : Int32) = nI 2 from rfl, nI_add, m_byteAt ht hl hx (by omega), m_p0y hb h0]
  show (if nI n = 8 then _ else _) = _
  rw [if_neg (by rw [show (8 : Int32) = nI 8 from rfl]; exact kF (by omega) (by omega) (by omega)), if_neg (by decide), if_neg (m_p1y h1).2]
  by_cases c0 : tx = 0
  · rw [if_pos (by rw [c0]; rfl), if_pos c0]
  · rw [if_neg (by rw [show (0 : Int32) = nI 0 from rfl]; exact kF c0 (by omega) (by omega)), if_neg c0]
end MP
