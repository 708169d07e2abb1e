/-! texts, said plainly -/
def kd (tx b : Nat) : Option Nat := if tx = 0 then (if b = 107 then some 0 else if b = 98 then some 1 else if b = 99 then some 2 else none) else (if b = 119 then some 0 else if b = 100 then some 1 else none)
def mfg (tx : Nat) : Nat := if tx = 0 then 3 else 4
def bt (bs : List Nat) (i : Nat) : Nat := bs.getD i 0
def fitS (tx cnt place b : Nat) : Bool := if place = 0 then decide (cnt < 8 ∧ 97 ≤ b ∧ b ≤ 120) else if place = 1 then (kd tx b).isSome else if place = 2 then decide (49 ≤ b ∧ b ≤ 48 + mfg tx) else decide (b = 59)
def ent1 (tx : Nat) (bs : List Nat) (i : Nat) : T3 := (bt bs (i - 2) - 97, (kd tx (bt bs (i - 1))).getD 0, bt bs i - 48)
def ps (tx : Nat) (bs : List Nat) : Nat → Option Nat × List T3
  | 0 => (none, [])
  | i + 1 => match (ps tx bs i).1 with
    | some f => (some f, (ps tx bs i).2)
    | none => if fitS tx (ps tx bs i).2.length (i % 4) (bt bs i) = true then (none, if i % 4 = 2 then (ps tx bs i).2 ++ [ent1 tx bs i] else (ps tx bs i).2) else (some i, (ps tx bs i).2)
def fltS (tx : Nat) (bs : List Nat) : Option Nat := match (ps tx bs bs.length).1 with
  | some f => some f
  | none => if bs.length = 0 ∨ bs.length % 4 = 3 then none else some bs.length
def entS (tx : Nat) (bs : List Nat) : List T3 := if fltS tx bs = none then (ps tx bs bs.length).2 else []
theorem ps_yes {tx i : Nat} {bs : List Nat} (h1 : (ps tx bs i).1 = none) (h2 : fitS tx (ps tx bs i).2.length (i % 4) (bt bs i) = true) : ps tx bs (i + 1) = (none, if i % 4 = 2 then (ps tx bs i).2 ++ [ent1 tx bs i] else (ps tx bs i).2) := by
  rw [ps, h1]
  show (if fitS tx (ps tx bs i).2.length (i % 4) (bt bs i) = true then _ else _) = _
  rw [if_pos h2]
theorem ps_no {tx i : Nat} {bs : List Nat} (h1 : (ps tx bs i).1 = none) (h2 : fitS tx (ps tx bs i).2.length (i % 4) (bt bs i) = false) : ps tx bs (i + 1) = (some i, (ps tx bs i).2) := by
  rw [ps, h1]
  show (if fitS tx (ps tx bs i).2.length (i % 4) (bt bs i) = true then _ else _) = _
  rw [if_neg (by rw [h2]; decide)]
theorem ps_stop {tx i f : Nat} {bs : List Nat} (h1 : (ps tx bs i).1 = some f) : ∀ j, i ≤ j → (ps tx bs j).1 = some f := by
  intro j hj
  obtain ⟨d, rfl⟩ : ∃ d, j = i + d := ⟨j - i, by omega⟩
  clear hj
  induction d with
  | zero => exact h1
  | succ d ih =>
    show (ps tx bs (i + d + 1)).1 = some f
    rw [ps, ih]
theorem ps_prev {tx i : Nat} {bs : List Nat} (h : (ps tx bs (i + 1)).1 = none) : (ps tx bs i).1 = none ∧ fitS tx (ps tx bs i).2.length (i % 4) (bt bs i) = true := by
  cases h1 : (ps tx bs i).1 with
  | some f =>
    rw [ps_stop h1 (i + 1) (by omega)] at h
    cases h
  | none =>
    refine ⟨rfl, ?_⟩
    cases h2 : fitS tx (ps tx bs i).2.length (i % 4) (bt bs i) with
    | true => rfl
    | false =>
      rw [ps_no h1 h2] at h
      cases h
theorem ps_len {tx : Nat} {bs : List Nat} : ∀ i, (ps tx bs i).1 = none → (ps tx bs i).2.length = (i + 1) / 4
  | 0, _ => rfl
  | i + 1, h => by
    obtain ⟨h1, h2⟩ := ps_prev h
    have ih := ps_len i h1
    rw [ps_yes h1 h2]
    show (if i % 4 = 2 then _ else _ : List T3).length = _
    split
    · rw [List.length_append, ih]
      show (i + 1) / 4 + 1 = _
      omega
    · rw [ih]
      omega
theorem kd_lt {tx b k : Nat} (h : kd tx b = some k) : k < (if tx = 0 then 3 else 2) := by
  unfold kd at h
  by_cases c : tx = 0
  · rw [if_pos c] at h ⊢
    split at h
    · cases h
      omega
    · split at h
      · cases h
        omega
      · split at h
        · cases h
          omega
        · cases h
  · rw [if_neg c] at h ⊢
    split at h
    · cases h
      omega
    · split at h
      · cases h
        omega
      · cases h
theorem ps_ok {tx : Nat} {bs : List Nat} : ∀ i, (ps tx bs i).1 = none → ∀ x ∈ (ps tx bs i).2, x.1 < 24 ∧ x.2.1 < (if tx = 0 then 3 else 2) ∧ 1 ≤ x.2.2 ∧ x.2.2 ≤ mfg tx
  | 0, _ => fun x hx => by cases hx
  | i + 1, h => by
    obtain ⟨h1, h2⟩ := ps_prev h
    have ih := ps_ok i h1
    rw [ps_yes h1 h2]
    show ∀ x ∈ (if i % 4 = 2 then _ else _ : List T3), _
    by_cases c : i % 4 = 2
    · rw [if_pos c]
      intro x hx
      rcases List.mem_append.mp hx with z | z
      · exact ih x z
      · rw [List.mem_singleton] at z
        subst z
        obtain ⟨a, rfl⟩ : ∃ a, i = a + 2 := ⟨i - 2, by omega⟩
        obtain ⟨h3, h4⟩ := ps_prev h1
        obtain ⟨h5, h6⟩ := ps_prev h3
        unfold fitS at h2 h4 h6
        rw [if_neg (by omega), if_neg (by omega), if_pos (by omega)] at h2
        rw [if_neg (by omega), if_pos (by omega)] at h4
        rw [if_pos (by omega)] at h6
        have h2 := of_decide_eq_true h2
        have h6 := of_decide_eq_true h6
        obtain ⟨k, hk⟩ := Option.isSome_iff_exists.mp h4
        show bt bs (a + 2 - 2) - 97 < 24 ∧ (kd tx (bt bs (a + 2 - 1))).getD 0 < _ ∧ 1 ≤ bt bs (a + 2) - 48 ∧ bt bs (a + 2) - 48 ≤ mfg tx
        rw [show a + 2 - 2 = a by omega, show a + 2 - 1 = a + 1 by omega, hk]
        exact ⟨by omega, kd_lt hk, by omega, by omega⟩
    · rw [if_neg c]
      exact ih
theorem flt_none {tx : Nat} {bs : List Nat} (h : fltS tx bs = none) : (ps tx bs bs.length).1 = none := by
  unfold fltS at h
  cases h1 : (ps tx bs bs.length).1 with
  | none => rfl
  | some f =>
    rw [h1] at h
    cases h
theorem entS_ok {tx : Nat} {bs : List Nat} (hl : bs.length ≤ 31) : okE (entS tx bs) (if tx = 0 then 3 else 2) 1 (mfg tx) := by
  unfold entS
  by_cases c : fltS tx bs = none
  · rw [if_pos c]
    have h1 := flt_none c
    refine ⟨by rw [ps_len _ h1]; omega, ps_ok _ h1⟩
  · rw [if_neg c]
    exact ⟨Nat.zero_le _, fun x hx => by cases hx⟩
theorem kx0 : ∀ b : Fin 256, kx 200 ((Int32.toUInt32 (nI b.val) % 65536).toInt32) = svI (kd 0 b.val) := by decide +kernel
theorem kx1 : ∀ b : Fin 256, kx 201 ((Int32.toUInt32 (nI b.val) % 65536).toInt32) = svI (kd 1 b.val) := by decide +kernel
theorem kxS {tx b : Nat} (ht : tx < 2) (hb : b < 256) : kx (200 + tx) ((Int32.toUInt32 (nI b) % 65536).toInt32) = svI (kd tx b) := by
  by_cases c : tx = 0
  · subst c
    exact kx0 ⟨b, hb⟩
  · have c : tx = 1 := by omega
    subst c
    exact kx1 ⟨b, hb⟩
theorem bt_at {bs : List Nat} {i b : Nat} (h : bs[i]? = some b) : bt bs i = b := by
  unfold bt
  rw [List.getD_eq_getElem?_getD, h]
  rfl
theorem bt_lt {bs : List Nat} (hb : ∀ b ∈ bs, b ≤ 255) (i : Nat) : bt bs i < 256 := by
  unfold bt
  rw [List.getD_eq_getElem?_getD]
  cases h : bs[i]? with
  | none => exact (by decide : (0 : Nat) < 256)
  | some b =>
    have := hb b (List.mem_of_getElem? h)
    show b < 256
    omega
/-- a text's bytes in the class -/
def txC (h : AH) (r0 tx : Nat) (bs : List Nat) : Prop := h.1 r0 4 = nI bs.length ∧ (∀ j, j < bs.length → h.2.1 (r0 + 5) j = nI (bt bs j)) ∧ h.1 r0 3 = nI (mfg tx)
theorem mod4 {i : Nat} (hi : i ≤ 1000) : nI i - nI i / 4 * 4 = nI (i % 4) := by
  rw [show (4 : Int32) = nI 4 from rfl, nI_div (by omega) (by omega), nI_mul, nI_sub (by omega)]
  congr 1
  omega
theorem svI_neg {o : Option Nat} (h : ∀ x, o = some x → x ≤ 100) : (svI o < 0) ↔ o.isSome = false := by
  cases o with
  | none => exact ⟨fun _ => rfl, fun _ => m1neg⟩
  | some x =>
    have := h x rfl
    exact ⟨fun z => absurd z (nI_pos (by omega)), fun z => by cases z⟩
theorem c_fits {r0 tx b cnt p : Nat} {h : AH} (ht : tx < 2) (hs : tx_s r0 = 200 + tx) (hb : b < 256) (hp : p < 4) (e3 : h.1 r0 3 = nI (mfg tx)) (ec : h.1 (r0 + 1) 3 = nI cnt) (hc : cnt ≤ 100) : M_X6_fits r0 (nI p) (nI b) h = bI (fitS tx cnt p b) := by
  have hmf : mfg tx ≤ 4 := by unfold mfg; split <;> omega
  unfold M_X6_fits fitS
  rw [e3, ec, hs, kxS ht hb]
  by_cases p0 : p = 0
  · rw [if_pos (by rw [p0]; rfl), if_pos p0]
    by_cases c1 : cnt < 8
    · rw [if_neg (by rw [show (8 : Int32) = nI 8 from rfl]; exact nI_ge c1 (by omega))]
      by_cases c2 : 97 ≤ b
      · rw [if_neg (by rw [show (97 : Int32) = nI 97 from rfl]; exact nI_nlt c2 (by omega))]
        by_cases c3 : b ≤ 120
        · rw [if_neg (by rw [show (120 : Int32) = nI 120 from rfl]; exact nI_nlt c3 (by omega)), decide_eq_true (⟨c1, c2, c3⟩ : cnt < 8 ∧ 97 ≤ b ∧ b ≤ 120)]
          rfl
        · rw [if_pos (by rw [show (120 : Int32) = nI 120 from rfl]; exact nI_lt (by omega) (by omega)), decide_eq_false (fun z : cnt < 8 ∧ 97 ≤ b ∧ b ≤ 120 => c3 z.2.2)]
          rfl
      · rw [if_pos (by rw [show (97 : Int32) = nI 97 from rfl]; exact nI_lt (by omega) (by omega)), decide_eq_false (fun z : cnt < 8 ∧ 97 ≤ b ∧ b ≤ 120 => c2 z.2.1)]
        rfl
    · rw [if_pos (by rw [show (8 : Int32) = nI 8 from rfl]; exact nI_le (by omega) (by omega)), decide_eq_false (fun z : cnt < 8 ∧ 97 ≤ b ∧ b ≤ 120 => c1 z.1)]
      rfl
  · rw [if_neg (by rw [show (0 : Int32) = nI 0 from rfl]; exact kF p0 (by omega) (by omega)), if_neg p0]
    by_cases p1 : p = 1
    · rw [if_pos (by rw [p1]; rfl), if_pos p1]
      have hn := svI_neg (o := kd tx b) (fun x hx => by have := kd_lt hx; split at this <;> omega)
      cases hk : (kd tx b).isSome with
      | false =>
        rw [if_pos (hn.mpr hk)]
        rfl
      | true =>
        rw [if_neg (fun z => by rw [hn.mp z] at hk; cases hk)]
        rfl
    · rw [if_neg (by rw [show (1 : Int32) = nI 1 from rfl]; exact kF p1 (by omega) (by omega)), if_neg p1]
      by_cases p2 : p = 2
      · rw [if_pos (by rw [p2]; rfl), if_pos p2]
        by_cases c2 : 49 ≤ b
        · rw [if_neg (by rw [show (49 : Int32) = nI 49 from rfl]; exact nI_nlt c2 (by omega)), show (48 : Int32) = nI 48 from rfl, nI_add]
          by_cases c3 : b ≤ 48 + mfg tx
          · rw [if_neg (nI_nlt c3 (by omega)), decide_eq_true (⟨c2, c3⟩ : 49 ≤ b ∧ b ≤ 48 + mfg tx)]
            rfl
          · rw [if_pos (nI_lt (by omega) (by omega)), decide_eq_false (fun z : 49 ≤ b ∧ b ≤ 48 + mfg tx => c3 z.2)]
            rfl
        · rw [if_pos (by rw [show (49 : Int32) = nI 49 from rfl]; exact nI_lt (by omega) (by omega)), decide_eq_false (fun z : 49 ≤ b ∧ b ≤ 48 + mfg tx => c2 z.1)]
          rfl
      · rw [if_neg (by rw [show (2 : Int32) = nI 2 from rfl]; exact kF p2 (by omega) (by omega)), if_neg p2]
        by_cases c : b = 59
        · rw [if_pos (by rw [c]; rfl), decide_eq_true c]
          rfl
        · rw [if_neg (by rw [show (59 : Int32) = nI 59 from rfl]; exact kF c (by omega) (by omega)), decide_eq_false c]
          rfl
theorem entR_add {h : AH} {r a b c : Nat} {l : List T3} (he : entR h r l) (hl : l.length < 8) : ∃ h', M_X1_add r (nI a) (nI b) (nI c) h = some h' ∧ entR h' r (l ++ [(a, b, c)]) ∧ (∀ i k, ¬ (i = r ∧ k = 3) → h'.1 i k = h.1 i k) ∧ (∀ i, ¬ (r < i ∧ i ≤ r + 3) → h'.2.1 i = h.2.1 i) ∧ h'.2.2 = h.2.2 := by
  unfold M_X1_add
  rw [he.1, if_neg (nI_pos (by omega)), show (8 : Int32) = nI 8 from rfl, if_pos (nI_lt hl (by omega)), am_inK hl (by omega), nK (by omega)]
  simp only [cond_true]
  refine ⟨_, rfl, ⟨?_, fun j x hx => ?_⟩, fun i k z => ?_, fun i z => ?_, rfl⟩
  · rw [sf_same, nI_1, List.length_append]
    rfl
  · rw [sf_2, sa_n _ _ (by omega), sa_n _ _ (by omega), sa_s, sa_n _ _ (by omega), sa_s, sa_s]
    unfold upd
    by_cases hj : j = l.length
    · rw [if_pos hj, if_pos hj, if_pos hj]
      rw [hj, List.getElem?_append_right (Nat.le_refl _), Nat.sub_self] at hx
      cases hx
      exact ⟨rfl, rfl, rfl⟩
    · rw [if_neg hj, if_neg hj, if_neg hj]
      have hlt := (List.getElem?_eq_some_iff.mp hx).1
      rw [List.length_append] at hlt
      have hlt : j < l.length + 1 := hlt
      rw [List.getElem?_append_left (by omega)] at hx
      exact he.2 j x hx
  · rw [sf_n z]
    rfl
  · rw [sf_2, sa_n _ _ (by omega), sa_n _ _ (by omega), sa_n _ _ (by omega)]
