theorem c_spare {n : Nat} {S : ST} {h : AH} (hc : CR h S) (hn : 600 < n) : (∃ h', M_X8_spare n (-1) h = some (q_spa S 0, h') ∧ CR h' S) ∧ (∃ h', M_X8_spare n 0 h = some (q_spa S 1, h') ∧ CR h' S) ∧ (∃ h', M_X8_spare n 1 h = some (q_spa S 2, h') ∧ CR h' S) := by
  obtain ⟨h1, a1, a2⟩ := c_spE (n := n) hc hn
  have b0 : ∀ x, M_X8_bitAt n x 0 = some (ba x 0 8 0 0) := fun x => c_bitAt (n := n) (x0 := x) (x1 := 0) 8 0 n 0 (by omega) (by omega)
  have b1 : ∀ x, M_X8_bitAt n x 1 = some (ba x 1 8 0 0) := fun x => c_bitAt (n := n) (x0 := x) (x1 := 1) 8 0 n 0 (by omega) (by omega)
  have g : ∀ a : Int32, ¬ a < -1 → a ≤ 1 → M_X8_spare n a h = (if spI (spB S) = -1 then some (-1, h1) else if a = -1 then some (M_J13_bitCount (spI (spB S)), h1) else am_o (M_X8_bitAt n (spI (spB S)) a) fun v3 => some (v3, h1)) := by
    intro a c1 c2
    unfold M_X8_spare
    rw [if_neg c1, if_pos c2, a1, bS]
  rw [g (-1) (by decide) (by decide), g 0 (by decide) (by decide), g 1 (by decide) (by decide), b0, b1, oS, oS, if_pos (show (-1 : Int32) = -1 from rfl), if_neg (show ¬ (0 : Int32) = -1 by decide), if_neg (show ¬ (1 : Int32) = -1 by decide)]
  unfold q_spa
  rcases spB_c S hc.1.2.2.2.2.1.1 with e | e | ⟨i, hi, e⟩ | ⟨i, j, hij, hj, e⟩
  · rw [e]
    exact ⟨⟨h1, rfl, a2⟩, ⟨h1, rfl, a2⟩, ⟨h1, rfl, a2⟩⟩
  · have k := bk0
    rw [e, show spI (some (0, 0, 0)) = 0 from rfl, if_neg (show ¬ (0 : Int32) = -1 by decide), k.1, k.2.1, k.2.2]
    exact ⟨⟨h1, rfl, a2⟩, ⟨h1, rfl, a2⟩, ⟨h1, rfl, a2⟩⟩
  · have k := bk1 ⟨i, hi⟩
    rw [e, show spI (some (1, i, 0)) = nI (2 ^ i) from rfl, if_neg k.2.2.2, if_neg k.2.2.2, if_neg k.2.2.2, k.1, k.2.1, k.2.2.1]
    exact ⟨⟨h1, rfl, a2⟩, ⟨h1, rfl, a2⟩, ⟨h1, rfl, a2⟩⟩
  · have k := bk2 ⟨i, by omega⟩ ⟨j, hj⟩ hij
    rw [e, show spI (some (2, i, j)) = nI (2 ^ i ||| 2 ^ j) from rfl, if_neg k.2.2.2, if_neg k.2.2.2, if_neg k.2.2.2, k.1, k.2.1, k.2.2.1]
    exact ⟨⟨h1, rfl, a2⟩, ⟨h1, rfl, a2⟩, ⟨h1, rfl, a2⟩⟩
theorem bc_0 (f : Nat → Bool) : ∀ n, bN f n = 0 ↔ cN f n = 0
  | 0 => ⟨fun _ => rfl, fun _ => rfl⟩
  | n + 1 => by
    have ih := bc_0 f n
    have h2 : 0 < 2 ^ n := Nat.two_pow_pos n
    rw [bN, cN]
    by_cases q : f n = true
    · rw [if_pos q, if_pos q]
      omega
    · rw [if_neg q, if_neg q]
      omega
theorem m_isSp {n t w : Nat} {S : ST} {h : AH} {u : Int32} (ho : okST S) (ht : TB h S (entS 0 S.1.1) (entS 1 S.1.2) S.2.1.1 u) (h2 : t < 256) (hn : 600 < n) : ∃ h', M_X9_isSpared n (nI t) h = some (bI (gz S t), h') ∧ TB h' S (entS 0 S.1.1) (entS 1 S.1.2) S.2.1.1 (nI t) ∧ h'.2.1 100 = h.2.1 100 := by
  have hp := altP_ok (t := t) ho (by omega)
  have hp2 := hp
  rw [altE h2] at hp
  obtain ⟨h1, a1, a2, a3, a4⟩ := m_run1 (n := n) (ht.n (v := nI t)) (skM_n h2) hp hn
  rw [← altE h2] at a2
  obtain ⟨b1, b2, b3, b4, b5, b6, b7, b8, b9, b10⟩ := a2
  have y2 := m_many (n := n) (P := altP S t) (v := 4) hp2 (by rw [altE h2]; exact a3.2.2.2.1.1) b10 (by omega) (by omega) hn
  have y2 : M_X9_manyOf n 4 h1 = some (nI (cN (fun k => (stt (altP S t) 24).2.2.2.2.2.1 k == 4) 8)) := y2
  unfold M_X9_isSpared
  rw [a1, vS, y2, oS]
  refine ⟨h1, ?_, a3, by rw [a4.2.1 _ (by omega)]; rfl⟩
  have hcl := cN_le (fun k => (stt (altP S t) 24).2.2.2.2.2.1 k == 4) 8
  have hbc := bc_0 (fun k => (stt (altP S t) 24).2.2.2.2.2.1 k == 4) 8
  unfold gz goS
  by_cases q : cN (fun k => (stt (altP S t) 24).2.2.2.2.2.1 k == 4) 8 = 0
  · rw [if_pos (by rw [q]; rfl), decide_eq_true (hbc.mpr q)]
    rfl
  · rw [show (0 : Int32) = nI 0 from rfl, if_neg (kF q (by omega) (by omega)), decide_eq_false (fun z => q (hbc.mp z))]
    rfl
def cnI : Option (Nat × Nat × Nat) → Int32
  | none => -1
  | some (c, _, _) => nI c
def rowK (h : AH) : Option (Nat × Nat × Nat) → Prop
  | none => True
  | some (c, i, j) => (0 < c → h.2.1 100 0 = nI i) ∧ (1 < c → h.2.1 100 1 = nI j)
theorem ai02 : am_in 0 2 = true := by decide +kernel
theorem ai12 : am_in 1 2 = true := by decide +kernel
theorem cl0 : Int32.toNatClampNeg 0 = 0 := by decide +kernel
theorem cl1 : Int32.toNatClampNeg 1 = 1 := by decide +kernel
theorem TB.r {h : AH} {S : ST} {fs gs : List T3} {w : Nat} {nv : Int32} {g : Nat → Int32} (ht : TB h S fs gs w nv) : TB (am_sa h 100 g) S fs gs w nv := ht.fr ⟨fun _ _ _ _ => rfl, fun i z _ => sa_n _ _ (by omega)⟩
set_option maxHeartbeats 1000000 in
theorem m_sp51 {n : Nat} {S : ST} {h : AH} (ho : okST S) (ht : ∃ u, TB h S (entS 0 S.1.1) (entS 1 S.1.2) S.2.1.1 u) (h0 : gz S 0 = false) (h1 : sp_first (f1S S) S.2.2.1.length = none) (hn : 600 < n) : ∃ h', L_X9_spareBy_51 n n 0 h = some (cnI (spB S), h') ∧ ME h' S ∧ rowK h' (spB S) := by
  have h8 := ho.2.2.2.2.1.1
  have hsp : spB S = match sp_first (f2S S) S.2.2.1.length with
    | some i => some (2, i, (rwS S i).getD 0)
    | none => none := by
    unfold spB
    rw [h0, h1]
    rfl
  refine loopW (ρ := Int32) (L := fun m r h => L_X9_spareBy_51 n m r h) (I := fun i r h => r = nI i ∧ (∃ u, TB h S (entS 0 S.1.1) (entS 1 S.1.2) S.2.1.1 u) ∧ sp_first (f2S S) i = none) (Q := fun o => ∃ h', o = some (cnI (spB S), h') ∧ ME h' S ∧ rowK h' (spB S)) (N := S.2.2.1.length) (fun m i r h hi hI => ?_) (fun m r h hI => ?_) S.2.2.1.length 0 n 0 h (by omega) (by omega) ⟨rfl, ht, rfl⟩
  · obtain ⟨rfl, ⟨u, i2⟩, i3⟩ := hI
    show (∃ r' h', L_X9_spareBy_51 n (m + 1) (nI i) h = L_X9_spareBy_51 n m r' h' ∧ _) ∨ ∃ h', L_X9_spareBy_51 n (m + 1) (nI i) h = _ ∧ _
    rw [L_X9_spareBy_51, i2.1.2.2.1.1, if_neg (nI_ge hi (by omega)), nI_1]
    refine loopW (ρ := Int32) (L := fun m2 r h => L_X9_spareBy_63 n (L_X9_spareBy_51 n m) m2 (nI i) r h) (I := fun j r h => r = nI j ∧ (∃ u, TB h S (entS 0 S.1.1) (entS 1 S.1.2) S.2.1.1 u) ∧ sp_first (rwF S i) j = none ∧ i < j) (Q := fun o => (∃ r' h', o = L_X9_spareBy_51 n m r' h' ∧ (r' = nI (i + 1) ∧ (∃ u, TB h' S (entS 0 S.1.1) (entS 1 S.1.2) S.2.1.1 u) ∧ sp_first (f2S S) (i + 1) = none)) ∨ ∃ h', o = some (cnI (spB S), h') ∧ ME h' S ∧ rowK h' (spB S)) (N := S.2.2.1.length) (fun m2 j r h hj hJ => ?_) (fun m2 r h hJ => ?_) (S.2.2.1.length - (i + 1)) (i + 1) n (nI (i + 1)) h (by omega) (by omega) ⟨rfl, ⟨u, i2⟩, first_no _ (fun j hj => by
      unfold rwF
      rw [decide_eq_false (by omega)]
      rfl), by omega⟩
    · obtain ⟨rfl, ⟨u, j2⟩, j3, hij⟩ := hJ
      show (∃ r' h', L_X9_spareBy_63 n (L_X9_spareBy_51 n m) (m2 + 1) (nI i) (nI j) h = L_X9_spareBy_63 n (L_X9_spareBy_51 n m) m2 (nI i) r' h' ∧ _) ∨ _
      have hlt := or8 (show i < 8 by omega) (show j < 8 by omega)
      have l1 := pow8 (show i < 8 by omega)
      have l2 := pow8 (show j < 8 by omega)
      obtain ⟨h1, a1, a2, a3⟩ := m_isSp (n := n) (w := 0) (t := 2 ^ i ||| 2 ^ j) ho ((j2.r (g := upd (h.2.1 100) 0 (nI i))).r (g := upd (upd (h.2.1 100) 0 (nI i)) 1 (nI j))) hlt hn
      have eu : L_X9_spareBy_63 n (L_X9_spareBy_51 n m) (m2 + 1) (nI i) (nI j) h = if bI (gz S (2 ^ i ||| 2 ^ j)) = 0 then L_X9_spareBy_63 n (L_X9_spareBy_51 n m) m2 (nI i) (nI (j + 1)) h1 else some (2, h1) := by
        rw [L_X9_spareBy_63, j2.1.2.2.1.1, if_neg (nI_ge hj (by omega)), ai02, ai12, nI_bit (by omega), nI_bit (by omega), nI_or _ _ (by omega) (by omega), cl0, cl1, a1, nI_1]
        rfl
      rw [eu]
      cases hg : gz S (2 ^ i ||| 2 ^ j)
      · left
        rw [if_pos (by decide)]
        exact ⟨nI (j + 1), h1, rfl, rfl, ⟨_, a2⟩, first_s j3 (by unfold rwF; rw [hg, Bool.and_false]), by omega⟩
      · right
        right
        have er : rwS S i = some j := first_y j3 (by unfold rwF; rw [hg, decide_eq_true hij]; rfl) hj
        have e2 : sp_first (f2S S) S.2.2.1.length = some i := first_y i3 (by unfold f2S; rw [er]; rfl) hi
        have e3 : spB S = some (2, i, j) := by
          rw [hsp, e2]
          show some (2, i, (rwS S i).getD 0) = _
          rw [er]
          rfl
        rw [if_neg (by decide), e3]
        refine ⟨h1, rfl, a2.me, fun _ => ?_, fun _ => ?_⟩
        · rw [a3, sa_s]
          rfl
        · rw [a3, sa_s]
          rfl
    · obtain ⟨rfl, ⟨u, j2⟩, j3, -⟩ := hJ
      left
      rw [L_X9_spareBy_63, j2.1.2.2.1.1, if_pos (nI_le (Nat.le_refl _) (by omega)), nI_1]
      exact ⟨nI (i + 1), h, rfl, rfl, ⟨u, j2⟩, first_s i3 (by unfold f2S; rw [show rwS S i = none from j3]; rfl)⟩
  · obtain ⟨rfl, ⟨u, i2⟩, i3⟩ := hI
    rw [L_X9_spareBy_51, i2.1.2.2.1.1, if_pos (nI_le (Nat.le_refl _) (by omega)), hsp, i3]
    exact ⟨h, rfl, i2.me, trivial⟩
theorem m_spareBy {n : Nat} {S : ST} {h : AH} (ho : okST S) (hm : MT h S) (hn : 600 < n) : ∃ h', M_X9_spareBy n h = some (cnI (spB S), h') ∧ ME h' S ∧ rowK h' (spB S) := by
  have h8 := ho.2.2.2.2.1.1
  unfold M_X9_spareBy
  obtain ⟨h0, z1, z2⟩ := m_asT (n := n) ho hm hn
  obtain ⟨h1, a1, a2, a3⟩ := m_isSp (n := n) (w := 0) (t := 0) ho z2 (by omega) hn
  have a1 : M_X9_isSpared n 0 h0 = some (bI (gz S 0), h1) := a1
  rw [z1, vS, a1, bS]
  cases hg : gz S 0
  · rw [if_pos (by decide)]
    refine loopW (ρ := Int32) (L := fun m r h => L_X9_spareBy_16 n m r h) (I := fun i r h => r = nI i ∧ (∃ u, TB h S (entS 0 S.1.1) (entS 1 S.1.2) S.2.1.1 u) ∧ sp_first (f1S S) i = none) (Q := fun o => ∃ h', o = some (cnI (spB S), h') ∧ ME h' S ∧ rowK h' (spB S)) (N := S.2.2.1.length) (fun m i r h hi hI => ?_) (fun m r h hI => ?_) S.2.2.1.length 0 n 0 h1 (by omega) (by omega) ⟨rfl, ⟨_, a2⟩, rfl⟩
    · obtain ⟨rfl, ⟨u, i2⟩, i3⟩ := hI
      have l1 := pow8 (show i < 8 by omega)
      obtain ⟨h1, a1, a2, a3⟩ := m_isSp (n := n) (w := 0) (t := 2 ^ i) ho (i2.r (g := upd (h.2.1 100) 0 (nI i))) l1 hn
      have eu : L_X9_spareBy_16 n (m + 1) (nI i) h = if bI (gz S (2 ^ i)) = 0 then L_X9_spareBy_16 n m (nI (i + 1)) h1 else some (1, h1) := by
        rw [L_X9_spareBy_16, i2.1.2.2.1.1, if_neg (nI_ge hi (by omega)), ai02, nI_bit (by omega), cl0, a1, nI_1]
        rfl
      rw [eu]
      cases hgi : gz S (2 ^ i)
      · left
        rw [if_pos (by decide)]
        exact ⟨nI (i + 1), h1, rfl, rfl, ⟨_, a2⟩, first_s i3 hgi⟩
      · right
        have e1 : sp_first (f1S S) S.2.2.1.length = some i := first_y i3 hgi hi
        have hsp : spB S = some (1, i, 0) := by
          unfold spB
          rw [hg, e1]
          rfl
        rw [if_neg (by decide), hsp]
        refine ⟨h1, rfl, a2.me, fun _ => ?_, fun z => by omega⟩
        rw [a3, sa_s]
        rfl
    · obtain ⟨rfl, i2, i3⟩ := hI
      obtain ⟨u, i4⟩ := id i2
      rw [L_X9_spareBy_16, i4.1.2.2.1.1, if_pos (nI_le (Nat.le_refl _) (by omega))]
      exact m_sp51 ho i2 hg i3 hn
  · have hsp : spB S = some (0, 0, 0) := by
      unfold spB
      rw [hg]
      rfl
    rw [if_neg (by decide), hsp]
    exact ⟨h1, rfl, a2.me, fun z => by omega, fun z => by omega⟩
theorem m_ofRow {S : ST} {h : AH} (ho : okST S) (hr : rowK h (spB S)) : M_X9_ofRow (cnI (spB S)) (-1) h = some (q_spa S 0) ∧ M_X9_ofRow (cnI (spB S)) 0 h = some (q_spa S 1) ∧ M_X9_ofRow (cnI (spB S)) 1 h = some (q_spa S 2) := by
  unfold M_X9_ofRow q_spa
  rw [if_pos (show (-1 : Int32) = -1 from rfl), if_neg (show ¬ (0 : Int32) = -1 by decide), if_neg (show ¬ (1 : Int32) = -1 by decide), ai02, ai12, cl0, cl1]
  rcases spB_c S ho.2.2.2.2.1.1 with e | e | ⟨i, hi, e⟩ | ⟨i, j, hij, hj, e⟩
  · rw [e]
    exact ⟨rfl, rfl, rfl⟩
  · rw [e]
    exact ⟨rfl, rfl, rfl⟩
  · rw [e] at hr ⊢
    refine ⟨rfl, ?_, rfl⟩
    show (if nI 1 ≤ 0 then some (-1 : Int32) else bif true then some (h.2.1 100 0) else none) = some (nI i)
    rw [if_neg (by decide), hr.1 (by omega)]
    rfl
  · rw [e] at hr ⊢
    refine ⟨rfl, ?_, ?_⟩
    · show (if nI 2 ≤ 0 then some (-1 : Int32) else bif true then some (h.2.1 100 0) else none) = some (nI i)
      rw [if_neg (by decide), hr.1 (by omega)]
      rfl
    · show (if nI 2 ≤ 1 then some (-1 : Int32) else bif true then some (h.2.1 100 1) else none) = some (nI j)
      rw [if_neg (by decide), hr.2 (by omega)]
      rfl
theorem spA (a : Int32) : a = -1 ∨ a = 0 ∨ a = 1 ∨ ((a < -1 ∨ ¬ a ≤ 1) ∧ M_X9_in a (-1) 1 = 0) := by
  have t1 : (-1 : Int32).toInt = -1 := by decide
  have t2 : (1 : Int32).toInt = 1 := by decide
  have t3 : (0 : Int32).toInt = 0 := by decide
  by_cases c1 : a < -1
  · right
    right
    right
    exact ⟨Or.inl c1, by unfold M_X9_in; rw [if_pos c1]⟩
  · by_cases c2 : 1 < a
    · right
      right
      right
      exact ⟨Or.inr (fun z => Int32.not_lt.mpr z c2), by unfold M_X9_in; rw [if_neg c1, if_pos c2]⟩
    · rw [Int32.lt_iff_toInt_lt] at c1 c2
      rcases (show a.toInt = -1 ∨ a.toInt = 0 ∨ a.toInt = 1 by omega) with q | q | q
      · exact Or.inl (Int32.toInt_inj.mp (by omega))
      · exact Or.inr (Or.inl (Int32.toInt_inj.mp (by omega)))
      · exact Or.inr (Or.inr (Or.inl (Int32.toInt_inj.mp (by omega))))
theorem two_spare {n : Nat} (hn : 600 < n) (a : Int32) : two (M_X8_spare n a) (M_X9_spare n a) := by
  intro S ho
  have key : ∀ (b : Int32) (k : Nat), M_X9_in b (-1) 1 = 1 → (∀ h, rowK h (spB S) → M_X9_ofRow (cnI (spB S)) b h = some (q_spa S k)) → ∀ h, MT h S → ∃ h2, M_X9_spare n b h = some (q_spa S k, h2) ∧ MT h2 S := by
    intro b k hb hr h hm
    obtain ⟨h1, a1, a2, a3⟩ := m_spareBy (n := n) ho hm hn
    unfold M_X9_spare
    rw [hb, if_neg (by decide), a1, bS, hr h1 a3]
    exact ⟨h1, rfl, a2.1⟩
  rcases spA a with rfl | rfl | rfl | ⟨c, w⟩
  · exact ⟨q_spa S 0, S, fun h hc => (c_spare hc hn).1, key _ 0 (by decide) (fun h hr => (m_ofRow ho hr).1)⟩
  · exact ⟨q_spa S 1, S, fun h hc => (c_spare hc hn).2.1, key _ 1 (by decide) (fun h hr => (m_ofRow ho hr).2.1)⟩
  · exact ⟨q_spa S 2, S, fun h hc => (c_spare hc hn).2.2, key _ 2 (by decide) (fun h hr => (m_ofRow ho hr).2.2)⟩
  · refine ⟨-2, S, fun h hc => ?_, fun h hm => ?_⟩
    · unfold M_X8_spare
      rcases c with c | c
      · rw [if_pos c]
        exact ⟨h, rfl, hc⟩
      · by_cases c1 : a < -1
        · rw [if_pos c1]
          exact ⟨h, rfl, hc⟩
        · rw [if_neg c1, if_neg c]
          exact ⟨h, rfl, hc⟩
    · unfold M_X9_spare
      rw [w, if_pos rfl]
      exact ⟨h, rfl, hm⟩
