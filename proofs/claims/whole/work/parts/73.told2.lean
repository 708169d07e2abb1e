/-! fault, piece, guest; set, event, back, seen, forget -/
def ME (h : AH) (S : ST) : Prop := MT h S ∧ entM h 0 (entS 0 S.1.1) ∧ entM h 1 (entS 1 S.1.2)
theorem m_readsE {n : Nat} {S : ST} {h : AH} (ho : okST S) (hm : MT h S) (hn : 600 < n) : ∃ h', M_X9_reads n h = some h' ∧ ME h' S := by
  obtain ⟨h1, a1, a2, a3, a4⟩ := m_reads (n := n) ho hm (by omega)
  exact ⟨h1, a1, hm.fr a4.s, a2, a3⟩
theorem m_faultE {n : Nat} {S : ST} {h : AH} (a : Int32) (ho : okST S) (hm : MT h S) (hn : 600 < n) : ∃ h', M_X9_faultOf n a h = some ((if a = 0 then svI (fltS 0 S.1.1) else svI (fltS 1 S.1.2)), h') ∧ ME h' S := by
  obtain ⟨h1, a1, a2, a3, a4⟩ := m_faultOf (n := n) a ho hm (by omega)
  exact ⟨h1, a1, hm.fr a4.s, a2, a3⟩
theorem two_fault {n : Nat} (hn : 600 < n) (a : Int32) : two (fun h => some (M_X8_fault a h, h)) (M_X9_fault n a) := by
  intro S ho
  rcases arg (a := a) (N := 1) (by omega) with ⟨tx, htx, rfl, w1, w2⟩ | ⟨na, w1, w2⟩
  · have w2 : M_X9_isTwo (nI tx) = 1 := w2
    refine ⟨(if nI tx = 0 then svI (fltS 0 S.1.1) else svI (fltS 1 S.1.2)), S, fun h hc => ?_, fun h hm => ?_⟩
    · refine ⟨h, ?_, hc⟩
      unfold M_X8_fault B_X8_fault_6
      dsimp only
      rcases (show tx = 0 ∨ tx = 1 by omega) with rfl | rfl
      · rw [if_pos (show nI 0 = (0 : Int32) from rfl), if_pos (show nI 0 = (0 : Int32) from rfl), hc.2.1.1.2.2]
      · rw [if_neg (show ¬ nI 1 = (0 : Int32) by decide), if_pos (show nI 1 = (1 : Int32) from rfl), if_neg (show ¬ nI 1 = (0 : Int32) by decide), hc.2.1.2.1.2.2]
    · unfold M_X9_fault
      obtain ⟨h1, a1, a2⟩ := m_faultE (n := n) (nI tx) ho hm hn
      rw [if_neg (by rw [w2]; decide), a1]
      exact ⟨h1, rfl, a2.1⟩
  · refine ⟨-2, S, fun h hc => ?_, fun h hm => ?_⟩
    · unfold M_X8_fault
      dsimp only
      rw [if_neg (show ¬ a = 0 from na 0 (by omega)), if_neg (show ¬ a = 1 from na 1 (by omega))]
      exact ⟨h, rfl, hc⟩
    · unfold M_X9_fault
      rw [if_pos (show M_X9_isTwo a = 0 from w2)]
      exact ⟨h, rfl, hm⟩
theorem within0 {a : Int32} {N : Nat} (h : M_X8_within a (nI N) = 0) : a < 0 ∨ nI N < a := by
  unfold M_X8_within at h
  by_cases c : a < 0
  · exact Or.inl c
  · rw [if_neg c] at h
    by_cases d : nI N < a
    · exact Or.inr d
    · rw [if_neg d] at h
      exact absurd h (by decide)
/-- whether there is such an entry -/
theorem hasA {l : List T3} (hl : l.length ≤ 8) (a : Int32) : (∃ k, k < l.length ∧ a = nI k ∧ (∀ h r, entR h r l → M_X1_has r a h = 1) ∧ M_X9_in a 0 (nI l.length - 1) = 1) ∨ ((∀ h r, entR h r l → M_X1_has r a h = 0) ∧ M_X9_in a 0 (nI l.length - 1) = 0) := by
  have key : (a < 0 ∨ nI l.length ≤ a) → (∀ h r, entR h r l → M_X1_has r a h = 0) := by
    intro z h r he
    unfold M_X1_has
    by_cases c : a < 0
    · rw [if_pos c]
    · rw [if_neg c, he.1, if_pos (by rcases z with z | z; exact absurd z c; exact z)]
  by_cases h0 : l.length = 0
  · right
    have e0 : a < 0 ∨ (0 : Int32) ≤ a := by
      by_cases c : a < 0
      · exact Or.inl c
      · exact Or.inr (Int32.not_lt.mp c)
    refine ⟨key (by rw [h0]; exact e0), ?_⟩
    unfold M_X9_in
    rw [h0]
    rcases e0 with c | c
    · rw [if_pos c]
    · by_cases d : a < 0
      · rw [if_pos d]
      · rw [if_neg d, if_pos]
        rw [Int32.le_iff_toInt_le] at c
        rw [Int32.lt_iff_toInt_lt]
        have e1 : (nI 0 - 1 : Int32).toInt = -1 := by decide
        have e2 : (0 : Int32).toInt = 0 := by decide
        omega
  · rw [show (1 : Int32) = nI 1 from rfl, nI_sub (show 1 ≤ l.length by omega)]
    rcases arg (a := a) (N := l.length - 1) (by omega) with ⟨k, hk, rfl, w1, w2⟩ | ⟨na, w1, w2⟩
    · left
      refine ⟨k, by omega, rfl, fun h r he => ?_, w2⟩
      unfold M_X1_has
      rw [if_neg (nI_pos (by omega)), he.1, if_neg (nI_ge (by omega) (by omega)), show (8 : Int32) = nI 8 from rfl, if_neg (nI_ge (by omega) (by omega))]
      rfl
    · right
      refine ⟨key ?_, w2⟩
      rcases within0 w1 with z | z
      · exact Or.inl z
      · right
        rw [Int32.lt_iff_toInt_lt, nI_toInt (by omega)] at z
        rw [Int32.le_iff_toInt_le, nI_toInt (by omega)]
        omega
def qp (l : List T3) (k w : Nat) : Int32 := if w = 0 then nI (l.getD k (0, 0, 0)).1 else if w = 1 then nI (l.getD k (0, 0, 0)).2.1 else nI (l.getD k (0, 0, 0)).2.2
theorem getK {l : List T3} {k : Nat} (h : k < l.length) : l[k]? = some (l.getD k (0, 0, 0)) := by
  rw [List.getD_eq_getElem?_getD, List.getElem?_eq_getElem h]
  rfl
theorem c_part {h : AH} {r k w : Nat} {l : List T3} (hl : l.length ≤ 8) (he : entR h r l) (hk : k < l.length) (hw : w < 3) (hh : M_X1_has r (nI k) h = 1) : M_X1_part r (nI k) (nI w) h = some (qp l k w) := by
  obtain ⟨x1, x2, x3⟩ := he.2 k _ (getK hk)
  unfold M_X1_part qp
  rw [if_neg (by rw [hh]; decide), am_inK (show k < 8 by omega) (by omega), nK (by omega), x1, x2, x3]
  simp only [cond_true]
  rcases (show w = 0 ∨ w = 1 ∨ w = 2 by omega) with rfl | rfl | rfl
  · rw [if_pos (show nI 0 = (0 : Int32) from rfl), if_pos rfl]
  · rw [if_neg (show ¬ nI 1 = (0 : Int32) by decide), if_pos (show nI 1 = (1 : Int32) from rfl), if_neg (by omega), if_pos rfl]
  · rw [if_neg (show ¬ nI 2 = (0 : Int32) by decide), if_neg (show ¬ nI 2 = (1 : Int32) by decide), if_pos (show nI 2 = (2 : Int32) from rfl), if_neg (by omega), if_neg (by omega)]
theorem m_pieceOf {h : AH} {k w : Nat} {l : List T3} (hl : l.length ≤ 8) (he : entM h 0 l) (hk : k < l.length) (hw : w < 3) : M_X9_pieceOf (nI k) (nI w) h = some (qp l k w) := by
  obtain ⟨x1, x2, x3⟩ := he.2 k _ (getK hk)
  have x1 : h.2.1 78 k = _ := x1
  have x2 : h.2.1 79 k = _ := x2
  have x3 : h.2.1 80 k = _ := x3
  unfold M_X9_pieceOf qp
  rw [am_inK (show k < 9 by omega) (by omega), nK (by omega), x1, x2, x3]
  simp only [cond_true]
  rcases (show w = 0 ∨ w = 1 ∨ w = 2 by omega) with rfl | rfl | rfl
  · rw [if_pos (show nI 0 = (0 : Int32) from rfl), if_pos rfl]
  · rw [if_neg (show ¬ nI 1 = (0 : Int32) by decide), if_pos (show nI 1 = (1 : Int32) from rfl), if_neg (by omega), if_pos rfl]
  · rw [if_neg (show ¬ nI 2 = (0 : Int32) by decide), if_neg (show ¬ nI 2 = (1 : Int32) by decide), if_neg (by omega), if_neg (by omega)]
theorem m_guestOf {h : AH} {k w : Nat} {l : List T3} (hl : l.length ≤ 8) (he : entM h 1 l) (hk : k < l.length) (hw : w < 3) : M_X9_guestOf (nI k) (nI w) h = some (qp l k w) := by
  obtain ⟨x1, x2, x3⟩ := he.2 k _ (getK hk)
  have x1 : h.2.1 81 k = _ := x1
  have x2 : h.2.1 82 k = _ := x2
  have x3 : h.2.1 83 k = _ := x3
  unfold M_X9_guestOf qp
  rw [am_inK (show k < 9 by omega) (by omega), nK (by omega), x1, x2, x3]
  simp only [cond_true]
  rcases (show w = 0 ∨ w = 1 ∨ w = 2 by omega) with rfl | rfl | rfl
  · rw [if_pos (show nI 0 = (0 : Int32) from rfl), if_pos rfl]
  · rw [if_neg (show ¬ nI 1 = (0 : Int32) by decide), if_pos (show nI 1 = (1 : Int32) from rfl), if_neg (by omega), if_pos rfl]
  · rw [if_neg (show ¬ nI 2 = (0 : Int32) by decide), if_neg (show ¬ nI 2 = (1 : Int32) by decide), if_neg (by omega), if_neg (by omega)]
theorem in_b01 (a b c : Int32) : am_b01 (M_X9_in a b c) = true := by
  unfold M_X9_in
  split
  · rfl
  · split <;> rfl
theorem m_isPiece {n : Nat} {S : ST} {h : AH} (a : Int32) (ho : okST S) (hm : MT h S) (hn : 600 < n) : ∃ h', M_X9_isPiece n a h = some (M_X9_in a 0 (nI (entS 0 S.1.1).length - 1), h') ∧ ME h' S := by
  unfold M_X9_isPiece
  obtain ⟨h1, a1, a2⟩ := m_readsE (n := n) ho hm hn
  rw [a1, vS, in_b01, show h1.1 75 2 = nI (entS 0 S.1.1).length from a2.2.1.1]
  exact ⟨h1, rfl, a2⟩
theorem m_isGuest {n : Nat} {S : ST} {h : AH} (a : Int32) (ho : okST S) (hm : MT h S) (hn : 600 < n) : ∃ h', M_X9_isGuest n a h = some (M_X9_in a 0 (nI (entS 1 S.1.2).length - 1), h') ∧ ME h' S := by
  unfold M_X9_isGuest
  obtain ⟨h1, a1, a2⟩ := m_readsE (n := n) ho hm hn
  rw [a1, vS, in_b01, show h1.1 75 6 = nI (entS 1 S.1.2).length from a2.2.2.1]
  exact ⟨h1, rfl, a2⟩
theorem e8f {S : ST} (ho : okST S) : (entS 0 S.1.1).length ≤ 8 := (entS_ok (tx := 0) ho.1.1).1
theorem e8g {S : ST} (ho : okST S) : (entS 1 S.1.2).length ≤ 8 := (entS_ok (tx := 1) ho.2.1.1).1
theorem part_bad {r : Nat} {a b : Int32} {h : AH} (n0 : ∀ k, k ≤ 2 → ¬ b = nI k) : M_X1_part r a b h = some (-2) := by
  unfold M_X1_part
  rw [if_neg (show ¬ b = 0 from n0 0 (by omega)), if_neg (show ¬ b = 1 from n0 1 (by omega)), if_neg (show ¬ b = 2 from n0 2 (by omega))]
  split <;> rfl
theorem two_piece {n : Nat} (hn : 600 < n) (a b : Int32) : two (fun h => am_o (M_X8_piece a b h) fun v => some (v, h)) (M_X9_piece n a b) := by
  intro S ho
  have h8 := e8f ho
  unfold M_X8_piece M_X9_piece
  rcases hasA h8 a with ⟨k, hk, rfl, w1, w2⟩ | ⟨w1, w2⟩
  · rcases arg (a := b) (N := 2) (by omega) with ⟨w, hw, rfl, v1, v2⟩ | ⟨nb, v1, v2⟩
    · refine ⟨qp (entS 0 S.1.1) k w, S, fun h hc => ?_, fun h hm => ?_⟩
      · have he := hc.2.1.1.2.1
        dsimp only
        rw [c_part h8 he hk (by omega) (w1 h 2 he)]
        exact ⟨h, rfl, hc⟩
      · obtain ⟨h1, a1, a2⟩ := m_isPiece (n := n) (nI k) ho hm hn
        rw [a1, bS, w2, if_neg (by decide), if_neg (by rw [show M_X9_isThree (nI w) = 1 from v2]; decide), m_pieceOf h8 a2.2.1 hk (by omega)]
        exact ⟨h1, rfl, a2.1⟩
    · refine ⟨-2, S, fun h hc => ?_, fun h hm => ?_⟩
      · dsimp only
        rw [part_bad nb]
        exact ⟨h, rfl, hc⟩
      · obtain ⟨h1, a1, a2⟩ := m_isPiece (n := n) (nI k) ho hm hn
        rw [a1, bS, w2, if_neg (by decide), if_pos (show M_X9_isThree b = 0 from v2)]
        exact ⟨h1, rfl, a2.1⟩
  · refine ⟨-2, S, fun h hc => ?_, fun h hm => ?_⟩
    · unfold M_X1_part
      dsimp only
      rw [if_pos (w1 h 2 hc.2.1.1.2.1)]
      exact ⟨h, rfl, hc⟩
    · obtain ⟨h1, a1, a2⟩ := m_isPiece (n := n) a ho hm hn
      rw [a1, bS, w2, if_pos rfl]
      exact ⟨h1, rfl, a2.1⟩
theorem two_guest {n : Nat} (hn : 600 < n) (a b : Int32) : two (fun h => am_o (M_X8_guest a b h) fun v => some (v, h)) (M_X9_guest n a b) := by
  intro S ho
  have h8 := e8g ho
  unfold M_X8_guest M_X9_guest
  rcases hasA h8 a with ⟨k, hk, rfl, w1, w2⟩ | ⟨w1, w2⟩
  · rcases arg (a := b) (N := 2) (by omega) with ⟨w, hw, rfl, v1, v2⟩ | ⟨nb, v1, v2⟩
    · refine ⟨qp (entS 1 S.1.2) k w, S, fun h hc => ?_, fun h hm => ?_⟩
      · have he := hc.2.1.2.1.2.1
        dsimp only
        rw [c_part h8 he hk (by omega) (w1 h 8 he)]
        exact ⟨h, rfl, hc⟩
      · obtain ⟨h1, a1, a2⟩ := m_isGuest (n := n) (nI k) ho hm hn
        rw [a1, bS, w2, if_neg (by decide), if_neg (by rw [show M_X9_isThree (nI w) = 1 from v2]; decide), m_guestOf h8 a2.2.2 hk (by omega)]
        exact ⟨h1, rfl, a2.1⟩
    · refine ⟨-2, S, fun h hc => ?_, fun h hm => ?_⟩
      · dsimp only
        rw [part_bad nb]
        exact ⟨h, rfl, hc⟩
      · obtain ⟨h1, a1, a2⟩ := m_isGuest (n := n) (nI k) ho hm hn
        rw [a1, bS, w2, if_neg (by decide), if_pos (show M_X9_isThree b = 0 from v2)]
        exact ⟨h1, rfl, a2.1⟩
  · refine ⟨-2, S, fun h hc => ?_, fun h hm => ?_⟩
    · unfold M_X1_part
      dsimp only
      rw [if_pos (w1 h 8 hc.2.1.2.1.2.1)]
      exact ⟨h, rfl, hc⟩
    · obtain ⟨h1, a1, a2⟩ := m_isGuest (n := n) a ho hm hn
      rw [a1, bS, w2, if_pos rfl]
      exact ⟨h1, rfl, a2.1⟩
theorem setWB_ok {S : ST} {w b : Nat} (ho : okST S) (hw : w ≤ 30) (hb : b ≤ 40) : okST (setWB S w b) := ⟨ho.1, ho.2.1, hw, hb, ho.2.2.2.2⟩
theorem two_set {n : Nat} (hn : 600 < n) (a b : Int32) : two (M_X8_set n a b) (M_X9_set a b) := by
  intro S ho
  have bad : (∀ h, M_X8_set n a b h = some (-2, h)) → (∀ h, M_X9_set a b h = some (-2, h)) → ∃ (r : Int32) (S' : ST), (∀ h, CR h S → ∃ h1, M_X8_set n a b h = some (r, h1) ∧ CR h1 S') ∧ (∀ h, MT h S → ∃ h2, M_X9_set a b h = some (r, h2) ∧ MT h2 S') := fun p q => ⟨-2, S, fun h hc => ⟨h, p h, hc⟩, fun h hm => ⟨h, q h, hm⟩⟩
  rcases arg (a := a) (N := 1) (by omega) with ⟨tx, htx, rfl, w1, w2⟩ | ⟨na, w1, w2⟩
  · have w2 : M_X9_isTwo (nI tx) = 1 := w2
    rcases (show tx = 0 ∨ tx = 1 by omega) with rfl | rfl
    · rcases arg (a := b) (N := 30) (by omega) with ⟨v, hv, rfl, v1, v2⟩ | ⟨nb, v1, v2⟩
      · have v1 : M_X8_within (nI v) 30 = 1 := v1
        have v2 : M_X9_in (nI v) 0 30 = 1 := v2
        refine ⟨nI S.2.1.1, setWB S v S.2.1.2, fun h hc => ?_, fun h hm => ?_⟩
        · unfold M_X8_set B_X8_set_68
          rw [if_pos (show nI 0 = (0 : Int32) from rfl), if_neg (by rw [v1]; decide)]
          obtain ⟨hb, b1, b2, b3, b4⟩ := CR_changed (n := n) (by omega) (setWB_ok (w := v) (b := S.2.1.2) ho hv ho.2.2.2.1) (CT_wb (h1 := am_sf h 21 3 (nI v)) hc.2.1 (sf_same _ _ _ _) (by rw [sf_k _ _ (by omega)]; exact hc.2.1.2.2.2.2.1.2.1) (fun i k z => sf_n (by omega)) rfl) (CK_drop hc.2.2 (sf_n (by omega)) rfl)
          rw [b1, vS, hc.2.1.2.2.2.2.1.1]
          exact ⟨hb, rfl, b2⟩
        · unfold M_X9_set B_X9_set_20 B_X9_set_44 B_X9_set_58
          rw [if_neg (by rw [w2]; decide), if_pos (show nI 0 = (0 : Int32) from rfl), if_neg (by rw [v2]; decide), if_pos (show nI 0 = (0 : Int32) from rfl), if_pos (show nI 0 = (0 : Int32) from rfl), if_neg (show ¬ nI 0 = (1 : Int32) by decide), hm.2.2.2.1.1]
          exact ⟨_, rfl, MT_wb hm (by rw [sf_k _ _ (by omega), sf_same]) (by rw [sf_same]; exact hm.2.2.2.1.2) (fun k z y => by rw [sf_k _ _ y, sf_k _ _ z]) rfl⟩
      · apply bad
        · intro h
          unfold M_X8_set B_X8_set_32
          rw [if_pos (show nI 0 = (0 : Int32) from rfl), if_pos (show M_X8_within b 30 = 0 from v1), if_neg (show ¬ nI 0 = (1 : Int32) by decide)]
        · intro h
          unfold M_X9_set B_X9_set_20
          rw [if_neg (by rw [w2]; decide), if_pos (show nI 0 = (0 : Int32) from rfl), if_pos (show M_X9_in b 0 30 = 0 from v2)]
    · rcases arg (a := b) (N := 40) (by omega) with ⟨v, hv, rfl, v1, v2⟩ | ⟨nb, v1, v2⟩
      · have v1 : M_X8_within (nI v) 40 = 1 := v1
        have v2 : M_X9_in (nI v) 0 40 = 1 := v2
        refine ⟨nI S.2.1.2, setWB S S.2.1.1 v, fun h hc => ?_, fun h hm => ?_⟩
        · unfold M_X8_set B_X8_set_32 B_X8_set_68
          rw [if_neg (show ¬ nI 1 = (0 : Int32) by decide), if_pos (show nI 1 = (1 : Int32) from rfl), if_neg (by rw [v1]; decide)]
          obtain ⟨hb, b1, b2, b3, b4⟩ := CR_changed (n := n) (by omega) (setWB_ok (w := S.2.1.1) (b := v) ho ho.2.2.1 hv) (CT_wb (h1 := am_sf h 21 4 (nI v)) hc.2.1 (by rw [sf_k _ _ (by omega)]; exact hc.2.1.2.2.2.2.1.1) (sf_same _ _ _ _) (fun i k z => sf_n (by omega)) rfl) (CK_drop hc.2.2 (sf_n (by omega)) rfl)
          rw [b1, vS, hc.2.1.2.2.2.2.1.2.1]
          exact ⟨hb, rfl, b2⟩
        · unfold M_X9_set B_X9_set_20 B_X9_set_44 B_X9_set_58
          rw [if_neg (by rw [w2]; decide), if_neg (show ¬ nI 1 = (0 : Int32) by decide), if_neg (by rw [v2]; decide), if_neg (show ¬ nI 1 = (0 : Int32) by decide), if_neg (show ¬ nI 1 = (0 : Int32) by decide), if_pos (show nI 1 = (1 : Int32) from rfl), hm.2.2.2.1.2]
          exact ⟨_, rfl, MT_wb hm (by rw [sf_k _ _ (by omega), sf_same]; exact hm.2.2.2.1.1) (by rw [sf_same]) (fun k z y => by rw [sf_k _ _ y, sf_k _ _ z]) rfl⟩
      · apply bad
        · intro h
          unfold M_X8_set B_X8_set_32
          rw [if_neg (show ¬ nI 1 = (0 : Int32) by decide), if_pos (show nI 1 = (1 : Int32) from rfl), if_pos (show M_X8_within b 40 = 0 from v1)]
        · intro h
          unfold M_X9_set B_X9_set_20
          rw [if_neg (by rw [w2]; decide), if_neg (show ¬ nI 1 = (0 : Int32) by decide), if_pos (show M_X9_in b 0 40 = 0 from v2)]
  · apply bad
    · intro h
      unfold M_X8_set B_X8_set_32
      rw [if_neg (show ¬ a = 0 from na 0 (by omega)), if_neg (show ¬ a = 1 from na 1 (by omega))]
    · intro h
      unfold M_X9_set
      rw [if_pos (show M_X9_isTwo a = 0 from w2)]
