/-! type, wipe, undo -/
theorem bt_app1 {bs : List Nat} {b j : Nat} (hj : j < bs.length) : bt (bs ++ [b]) j = bt bs j := by
  unfold bt
  rw [List.getD_eq_getElem?_getD, List.getD_eq_getElem?_getD, List.getElem?_append_left hj]
theorem bt_app2 {bs : List Nat} {b : Nat} : bt (bs ++ [b]) bs.length = b := by
  unfold bt
  rw [List.getD_eq_getElem?_getD, List.getElem?_append_right (Nat.le_refl _), Nat.sub_self]
  rfl
theorem bt_take {bs : List Nat} {k j : Nat} (hj : j < k) : bt (bs.take k) j = bt bs j := by
  unfold bt
  rw [List.getD_eq_getElem?_getD, List.getD_eq_getElem?_getD, List.getElem?_take_of_lt hj]
theorem setT_ok {S : ST} {tx : Nat} {bs : List Nat} (ho : okST S) (h1 : bs.length ≤ 31) (h2 : ∀ b ∈ bs, b ≤ 255) : okST (setT S tx bs) := by
  obtain ⟨a, b, c⟩ := ho
  unfold setT
  by_cases q : tx = 0
  · rw [if_pos q]
    exact ⟨⟨h1, h2⟩, b, c⟩
  · rw [if_neg q]
    exact ⟨a, ⟨h1, h2⟩, c⟩
theorem bsT_ok {S : ST} (ho : okST S) (tx : Nat) : (bsT S tx).length ≤ 31 ∧ ∀ b ∈ bsT S tx, b ≤ 255 := by
  unfold bsT
  split
  · exact ho.1
  · exact ho.2.1
theorem CT_tx {h : AH} {S : ST} {tx : Nat} (ht : tx < 2) (hc : CT h S) : txC h (1 + 6 * tx) tx (bsT S tx) := by
  rcases (show tx = 0 ∨ tx = 1 by omega) with rfl | rfl
  · exact hc.1.1
  · exact hc.2.1.1
theorem MT_tx {h : AH} {S : ST} {tx : Nat} (ht : tx < 2) (hm : MT h S) : txM h tx (bsT S tx) := by
  rcases (show tx = 0 ∨ tx = 1 by omega) with rfl | rfl
  · exact hm.1
  · exact hm.2.1
/-- a text's bytes are others: what the class reads of it -/
theorem c_retext {n tx : Nat} {bs : List Nat} {h h0 : AH} {S : ST} (hn : 600 < n) (ht : tx < 2) (hc : CR h S) (h1 : bs.length ≤ 31) (h2 : ∀ b ∈ bs, b ≤ 255) (hx : txC h0 (1 + 6 * tx) tx bs) (ff : ∀ i k, ¬ (i = 1 + 6 * tx ∧ k = 4) → h0.1 i k = h.1 i k) (fa : ∀ i, ¬ i = 6 + 6 * tx → h0.2.1 i = h.2.1 i) (fl : h0.2.2 = h.2.2) : ∃ ha hb, M_X6_scan n (1 + 6 * tx) h0 = some ha ∧ M_X8_changed n ha = some hb ∧ CR hb (setT S tx bs) ∧ hb.1 (1 + 6 * tx) 4 = nI bs.length := by
  have hts : tx_s (1 + 6 * tx) = 200 + tx := by
    rcases (show tx = 0 ∨ tx = 1 by omega) with rfl | rfl <;> rfl
  obtain ⟨ha, a1, a2, a3, a4⟩ := c_scan (n := n) ht hts h1 h2 hx (by omega)
  have ha4 : ha.1 (1 + 6 * tx) 4 = nI bs.length := by
    rw [a4.1 _ _ (by omega) (by omega)]
    exact hx.1
  have hct : CT ha (setT S tx bs) := by
    refine CT_text ht hc.2.1 ⟨ha4, ?_, ?_⟩ (by rw [show 2 + 6 * tx = 1 + 6 * tx + 1 by omega]; exact a2) a3 (fun i k z => ?_) (fun i z => ?_)
    · rw [a4.2.1 _ (by omega)]
      exact hx.2.1
    · rw [a4.1 _ _ (by omega) (by omega)]
      exact hx.2.2
    · rw [a4.1 _ _ (by omega) (by omega), ff _ _ (by omega)]
    · rw [a4.2.1 _ (by omega), fa _ (by omega)]
  obtain ⟨hb, b1, b2, b3, b4⟩ := CR_changed (n := n) (by omega) (setT_ok hc.1 h1 h2) hct (CK_drop hc.2.2 (by rw [a4.1 _ _ (by omega) (by omega), ff _ _ (by omega)]) (by rw [a4.2.2, fl]))
  exact ⟨ha, hb, a1, b1, b2, by rw [b3 _ _ (by omega) (by omega)]; exact ha4⟩
theorem inC4 {k N : Nat} (hk : k < N) (hN : N ≤ 1000) : am_in (nI k) N = true := am_inK hk (by omega)
set_option maxHeartbeats 1000000 in
theorem two_type {n : Nat} (hn : 600 < n) (a b : Int32) : two (M_X8_type n a b) (M_X9_type a b) := by
  intro S ho
  rcases arg (a := a) (N := 1) (by omega) with ⟨tx, htx, rfl, w1, w2⟩ | ⟨na, w1, w2⟩
  · have w2 : M_X9_isTwo (nI tx) = 1 := w2
    have ht : tx < 2 := by omega
    have e8 : ∀ h, M_X8_type n (nI tx) b h = B_X8_type_6 n b (1 + 6 * tx) h := by
      intro h
      unfold M_X8_type
      rcases (show tx = 0 ∨ tx = 1 by omega) with rfl | rfl
      · rw [if_pos (show nI 0 = (0 : Int32) from rfl)]
      · rw [if_neg (show ¬ nI 1 = (0 : Int32) by decide), if_pos (show nI 1 = (1 : Int32) from rfl)]
    obtain ⟨l31, l255⟩ := bsT_ok ho tx
    rcases arg (a := b) (N := 255) (by omega) with ⟨v, hv, rfl, v1, v2⟩ | ⟨_, v1, v2⟩
    · have v1 : M_X8_within (nI v) 255 = 1 := v1
      have v2 : M_X9_in (nI v) 0 255 = 1 := v2
      by_cases hl : (bsT S tx).length < 31
      · refine ⟨nI ((bsT S tx).length + 1), setT S tx (bsT S tx ++ [v]), fun h hc => ?_, fun h hm => ?_⟩
        · have hx := CT_tx ht hc.2.1
          rw [e8]
          unfold B_X8_type_6 M_X6_append
          rw [if_neg (by rw [v1]; decide), hx.1, if_pos (by rw [show (31 : Int32) = nI 31 from rfl]; exact nI_lt hl (by omega)), if_neg (nI_pos (by omega)), if_pos (by rw [show (31 : Int32) = nI 31 from rfl]; exact nI_lt hl (by omega)), am_inK hl (by omega), nK (by omega), nI_1]
          simp only [cond_true]
          obtain ⟨ha, hb, s1, s2, s3, s4⟩ := c_retext (n := n) (tx := tx) (bs := bsT S tx ++ [v]) (h := h) (h0 := am_sf (am_sa h (1 + 6 * tx + 5) (upd (h.2.1 (1 + 6 * tx + 5)) (bsT S tx).length (nI v))) (1 + 6 * tx) 4 (nI ((bsT S tx).length + 1))) hn ht hc (by rw [List.length_append]; show _ + 1 ≤ 31; omega) (fun x hx => by
            rcases List.mem_append.mp hx with z | z
            · exact l255 x z
            · rw [List.mem_singleton] at z
              omega) ⟨by rw [sf_same, List.length_append]; rfl, fun j hj => by
                rw [sf_2, sa_s]
                unfold upd
                rw [List.length_append] at hj
                have hj : j < (bsT S tx).length + 1 := hj
                by_cases q : j = (bsT S tx).length
                · rw [if_pos q, q, bt_app2]
                · rw [if_neg q, bt_app1 (by omega)]
                  exact hx.2.1 j (by omega), by rw [sf_k _ _ (by omega)]; exact hx.2.2⟩ (fun i k z => by rw [sf_n z]; rfl) (fun i z => by rw [sf_2, sa_n _ _ (by omega)]) rfl
          rw [s1, vS, vS, s2, vS]
          refine ⟨hb, ?_, s3⟩
          rw [s4, List.length_append]
          rfl
        · have hx := MT_tx ht hm
          unfold M_X9_type
          rw [if_neg (by rw [w2]; decide), if_neg (by rw [v2]; decide), am_inK (show tx < 2 by omega) (by omega), nK (by omega), hx.1, show (31 : Int32) = nI 31 from rfl, if_neg (kF (by omega) (by omega) (by omega)), nI_mul, nI_add, am_inK (show 31 * tx + (bsT S tx).length < 62 by omega) (by omega), nK (by omega), nI_1]
          simp only [cond_true]
          rw [show upd (h.2.1 76) tx (nI ((bsT S tx).length + 1)) tx = nI ((bsT S tx).length + 1) from if_pos rfl]
          refine ⟨_, rfl, MT_text ht hm ⟨?_, fun j hj => ?_⟩ ⟨?_, fun j hj => ?_⟩ (bsT_ok ho _).1 rfl (fun i z y => ?_)⟩
          · rw [sa_s, List.length_append]
            exact if_pos rfl
          · rw [sa_n _ _ (by omega), sa_s]
            unfold upd
            rw [List.length_append] at hj
            have hj : j < (bsT S tx).length + 1 := hj
            by_cases q : j = (bsT S tx).length
            · rw [if_pos (by omega), q, bt_app2]
            · rw [if_neg (by omega), bt_app1 (by omega)]
              exact hx.2 j (by omega)
          · rw [sa_s]
            exact if_neg (by omega)
          · rw [sa_n _ _ (by omega), sa_s]
            exact if_neg (by omega)
          · rw [sa_n _ _ z, sa_n _ _ y]
      · have hl : (bsT S tx).length = 31 := by omega
        refine ⟨-4, S, fun h hc => ?_, fun h hm => ?_⟩
        · have hx := CT_tx ht hc.2.1
          rw [e8]
          unfold B_X8_type_6
          rw [if_neg (by rw [v1]; decide), hx.1, hl, if_neg (by decide)]
          exact ⟨h, rfl, hc⟩
        · have hx := MT_tx ht hm
          unfold M_X9_type
          rw [if_neg (by rw [w2]; decide), if_neg (by rw [v2]; decide), am_inK (show tx < 2 by omega) (by omega), nK (by omega), hx.1, hl, if_pos (show nI 31 = (31 : Int32) from rfl)]
          exact ⟨h, rfl, hm⟩
    · have v1 : M_X8_within b 255 = 0 := v1
      have v2 : M_X9_in b 0 255 = 0 := v2
      refine ⟨-2, S, fun h hc => ?_, fun h hm => ?_⟩
      · rw [e8]
        unfold B_X8_type_6
        rw [if_pos v1]
        exact ⟨h, rfl, hc⟩
      · unfold M_X9_type
        rw [if_neg (by rw [w2]; decide), if_pos v2]
        exact ⟨h, rfl, hm⟩
  · refine ⟨-2, S, fun h hc => ?_, fun h hm => ?_⟩
    · unfold M_X8_type
      rw [if_neg (show ¬ a = 0 from na 0 (by omega)), if_neg (show ¬ a = 1 from na 1 (by omega))]
      exact ⟨h, rfl, hc⟩
    · unfold M_X9_type
      rw [if_pos (show M_X9_isTwo a = 0 from w2)]
      exact ⟨h, rfl, hm⟩
set_option maxHeartbeats 1000000 in
theorem two_wipe {n : Nat} (hn : 600 < n) (a : Int32) : two (M_X8_wipe n a) (M_X9_wipe a) := by
  intro S ho
  rcases arg (a := a) (N := 1) (by omega) with ⟨tx, htx, rfl, w1, w2⟩ | ⟨na, w1, w2⟩
  · have w2 : M_X9_isTwo (nI tx) = 1 := w2
    have ht : tx < 2 := by omega
    have e8 : ∀ h, M_X8_wipe n (nI tx) h = B_X8_wipe_6 n (1 + 6 * tx) h := by
      intro h
      unfold M_X8_wipe
      rcases (show tx = 0 ∨ tx = 1 by omega) with rfl | rfl
      · rw [if_pos (show nI 0 = (0 : Int32) from rfl)]
      · rw [if_neg (show ¬ nI 1 = (0 : Int32) by decide), if_pos (show nI 1 = (1 : Int32) from rfl)]
    obtain ⟨l31, l255⟩ := bsT_ok ho tx
    refine ⟨nI (bsT S tx).length, setT S tx [], fun h hc => ?_, fun h hm => ?_⟩
    · have hx := CT_tx ht hc.2.1
      rw [e8]
      unfold B_X8_wipe_6 M_X6_shorten
      obtain ⟨ha, hb, s1, s2, s3, s4⟩ := c_retext (n := n) (tx := tx) (bs := []) (h := h) (h0 := am_sf h (1 + 6 * tx) 4 0) hn ht hc (by show 0 ≤ 31; omega) (fun x hx => by cases hx) ⟨by rw [sf_same]; rfl, fun j hj => (by cases hj), by rw [sf_k _ _ (by omega)]; exact hx.2.2⟩ (fun i k z => sf_n z) (fun i z => rfl) rfl
      rw [s1, vS, vS, s2, vS, hx.1]
      exact ⟨hb, rfl, s3⟩
    · have hx := MT_tx ht hm
      unfold M_X9_wipe
      rw [if_neg (by rw [w2]; decide), am_inK (show tx < 2 by omega) (by omega), nK (by omega), hx.1]
      simp only [cond_true]
      refine ⟨_, rfl, MT_text ht hm ⟨?_, fun j hj => ?_⟩ ⟨?_, fun j hj => ?_⟩ (bsT_ok ho _).1 rfl (fun i z y => ?_)⟩
      · rw [sa_s]
        exact if_pos rfl
      · cases hj
      · rw [sa_s]
        exact if_neg (by omega)
      · rw [sa_n _ _ (by omega)]
      · rw [sa_n _ _ z]
  · refine ⟨-2, S, fun h hc => ?_, fun h hm => ?_⟩
    · unfold M_X8_wipe
      rw [if_neg (show ¬ a = 0 from na 0 (by omega)), if_neg (show ¬ a = 1 from na 1 (by omega))]
      exact ⟨h, rfl, hc⟩
    · unfold M_X9_wipe
      rw [if_pos (show M_X9_isTwo a = 0 from w2)]
      exact ⟨h, rfl, hm⟩
set_option maxHeartbeats 1000000 in
theorem two_undo {n : Nat} (hn : 600 < n) (a : Int32) : two (M_X8_undo n a) (M_X9_undo a) := by
  intro S ho
  rcases arg (a := a) (N := 1) (by omega) with ⟨tx, htx, rfl, w1, w2⟩ | ⟨na, w1, w2⟩
  · have w2 : M_X9_isTwo (nI tx) = 1 := w2
    have ht : tx < 2 := by omega
    have e8 : ∀ h, M_X8_undo n (nI tx) h = B_X8_undo_6 n (1 + 6 * tx) h := by
      intro h
      unfold M_X8_undo
      rcases (show tx = 0 ∨ tx = 1 by omega) with rfl | rfl
      · rw [if_pos (show nI 0 = (0 : Int32) from rfl)]
      · rw [if_neg (show ¬ nI 1 = (0 : Int32) by decide), if_pos (show nI 1 = (1 : Int32) from rfl)]
    obtain ⟨l31, l255⟩ := bsT_ok ho tx
    by_cases hl : (bsT S tx).length = 0
    · refine ⟨-3, S, fun h hc => ?_, fun h hm => ?_⟩
      · have hx := CT_tx ht hc.2.1
        rw [e8]
        unfold B_X8_undo_6
        rw [hx.1, hl, if_neg (by decide)]
        exact ⟨h, rfl, hc⟩
      · have hx := MT_tx ht hm
        unfold M_X9_undo
        rw [if_neg (by rw [w2]; decide), am_inK (show tx < 2 by omega) (by omega), nK (by omega), hx.1, hl, if_pos (show nI 0 = (0 : Int32) from rfl)]
        exact ⟨h, rfl, hm⟩
    · have el : ((bsT S tx).take ((bsT S tx).length - 1)).length = (bsT S tx).length - 1 := by
        rw [List.length_take]
        omega
      refine ⟨nI ((bsT S tx).length - 1), setT S tx ((bsT S tx).take ((bsT S tx).length - 1)), fun h hc => ?_, fun h hm => ?_⟩
      · have hx := CT_tx ht hc.2.1
        rw [e8]
        unfold B_X8_undo_6 M_X6_shorten
        rw [hx.1, if_pos (by rw [show (0 : Int32) = nI 0 from rfl]; exact nI_lt (by omega) (by omega)), show (1 : Int32) = nI 1 from rfl, nI_sub (by omega)]
        obtain ⟨ha, hb, s1, s2, s3, s4⟩ := c_retext (n := n) (tx := tx) (bs := (bsT S tx).take ((bsT S tx).length - 1)) (h := h) (h0 := am_sf h (1 + 6 * tx) 4 (nI ((bsT S tx).length - 1))) hn ht hc (by omega) (fun x hx => l255 x (List.mem_of_mem_take hx)) ⟨by rw [sf_same, el], fun j hj => by
          rw [el] at hj
          rw [bt_take hj]
          exact hx.2.1 j (by omega), by rw [sf_k _ _ (by omega)]; exact hx.2.2⟩ (fun i k z => sf_n z) (fun i z => rfl) rfl
        rw [s1, vS, vS, s2, vS, s4, el]
        exact ⟨hb, rfl, s3⟩
      · have hx := MT_tx ht hm
        unfold M_X9_undo
        rw [if_neg (by rw [w2]; decide), am_inK (show tx < 2 by omega) (by omega), nK (by omega), hx.1, show (0 : Int32) = nI 0 from rfl, if_neg (kF hl (by omega) (by omega)), show (1 : Int32) = nI 1 from rfl, nI_sub (by omega)]
        simp only [cond_true]
        rw [show upd (h.2.1 76) tx (nI ((bsT S tx).length - 1)) tx = nI ((bsT S tx).length - 1) from if_pos rfl]
        refine ⟨_, rfl, MT_text ht hm ⟨?_, fun j hj => ?_⟩ ⟨?_, fun j hj => ?_⟩ (bsT_ok ho _).1 rfl (fun i z y => ?_)⟩
        · rw [sa_s, el]
          exact if_pos rfl
        · rw [el] at hj
          rw [sa_n _ _ (by omega), bt_take hj]
          exact hx.2 j (by omega)
        · rw [sa_s]
          exact if_neg (by omega)
        · rw [sa_n _ _ (by omega)]
        · rw [sa_n _ _ z]
  · refine ⟨-2, S, fun h hc => ?_, fun h hm => ?_⟩
    · unfold M_X8_undo
      rw [if_neg (show ¬ a = 0 from na 0 (by omega)), if_neg (show ¬ a = 1 from na 1 (by omega))]
      exact ⟨h, rfl, hc⟩
    · unfold M_X9_undo
      rw [if_pos (show M_X9_isTwo a = 0 from w2)]
      exact ⟨h, rfl, hm⟩
