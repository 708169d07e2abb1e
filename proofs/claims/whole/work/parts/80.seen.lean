/-! which come out as seen: never, waters, kind -/
def pS (P : PL) (x : T3) : Bool := decide ((if mn_b P x.1 (stt P x.1) = true then 1 else 0) = x.2.1)
def sok (S : ST) (P : PL) : Bool := S.2.2.2.1.all (pS P)
theorem pS_iff {P : PL} {x : T3} (h : x.2.1 < 2) : (bI (mn_b P x.1 (stt P x.1)) = nI x.2.1) ↔ pS P x = true := by
  unfold pS
  rw [decide_eq_true_iff]
  cases mn_b P x.1 (stt P x.1)
  · rw [if_neg (by decide), show bI false = nI 0 from rfl, nI_eq (by omega) (by omega)]
  · rw [if_pos rfl, show bI true = nI 1 from rfl, nI_eq (by omega) (by omega)]
theorem all_no {l : List T3} {p : T3 → Bool} {k : Nat} {x : T3} (hx : l[k]? = some x) (hp : ¬ p x = true) : l.all p = false := by
  cases h : l.all p
  · rfl
  · exact absurd (List.all_eq_true.mp h x (List.mem_of_getElem? hx)) hp
theorem all_yes {l : List T3} {p : T3 → Bool} (h : ∀ j x, j < l.length → l[j]? = some x → p x = true) : l.all p = true := by
  rw [List.all_eq_true]
  intro x hx
  obtain ⟨j, hj⟩ := List.mem_iff_getElem?.mp hx
  exact h j x (List.getElem?_eq_some_iff.mp hj).1 hj
theorem c_seenS {n : Nat} {P : PL} {l : List T3} {h : AH} (hp : okP P) (he : entR h 17 l) (hl : okE l 2 0 0) (hn : 600 < n) : M_X8_comesOutAsSeen n (pkS P) h = some (bI (l.all (pS P))) := by
  have b := pkS_b hp
  have hu : M_X7_boiledIn (pkS P) = nI (boS P) := (unpk b.1 b.2.1 b.2.2.1 b.2.2.2).2.2.2.1
  have h8 := hl.1
  unfold M_X8_comesOutAsSeen
  rw [hu]
  refine loopE (L := fun m (q : Int32) => L_X8_comesOutAsSeen_8 n m (nI (boS P)) q h) (I := fun k q => q = nI k ∧ ∀ j x, j < k → l[j]? = some x → pS P x = true) (Q := fun o => o = some (bI (l.all (pS P)))) (N := l.length) (fun m k q hk hI => ?_) (fun m q hI => ?_) l.length 0 n 0 (by omega) (by omega) ⟨rfl, fun j x hj => by omega⟩
  · obtain ⟨rfl, i2⟩ := hI
    obtain ⟨x, hx, -⟩ := dropC (l := l) hk
    obtain ⟨x1, x2, -⟩ := he.2 k x hx
    have x1 : h.2.1 18 k = nI x.1 := x1
    have x2 : h.2.1 19 k = nI x.2.1 := x2
    obtain ⟨o1, o2, -⟩ := hl.2 x (List.mem_of_getElem? hx)
    show (∃ s', L_X8_comesOutAsSeen_8 n (m + 1) (nI (boS P)) (nI k) h = L_X8_comesOutAsSeen_8 n m (nI (boS P)) s' h ∧ _) ∨ L_X8_comesOutAsSeen_8 n (m + 1) (nI (boS P)) (nI k) h = _
    rw [L_X8_comesOutAsSeen_8, he.1, if_neg (nI_ge hk (by omega)), show (8 : Int32) = nI 8 from rfl, if_neg (nI_ge (by omega) (by omega)), am_inK (show k < 8 by omega) (by omega), nK (by omega), x1, x2]
    simp only [cond_true]
    have hbb : ((nI (boS P) >>> (nI x.1 &&& 31)) &&& 1) = bI (mn_b P x.1 (stt P x.1)) := bitB (f := fun j => mn_b P j (stt P j)) o1
    rw [hbb]
    by_cases q : pS P x = true
    · left
      rw [if_pos ((pS_iff o2).mpr q), nI_1]
      refine ⟨nI (k + 1), rfl, rfl, fun j y hj hy => ?_⟩
      by_cases hjk : j = k
      · subst hjk
        rw [hx] at hy
        cases hy
        exact q
      · exact i2 j y (by omega) hy
    · right
      rw [if_neg (fun z => q ((pS_iff o2).mp z)), all_no hx q]
      rfl
  · obtain ⟨rfl, i2⟩ := hI
    show L_X8_comesOutAsSeen_8 n (m + 1) (nI (boS P)) (nI l.length) h = _
    rw [L_X8_comesOutAsSeen_8, he.1, if_pos (nI_le (Nat.le_refl _) (by omega)), all_yes i2]
    rfl
theorem m_seenS {n : Nat} {S : ST} {h : AH} {fs gs : List T3} {w : Nat} {nv : Int32} {sk : Nat → Bool} (ho : okST S) (ht : TB h S fs gs w nv) (hs : skM nv sk) (hp : okP (fs, gs, S.2.2.1, w, S.2.1.2, sk)) (hn : 600 < n) : ∃ h', M_X9_isSeen n h = some (bI (sok S (fs, gs, S.2.2.1, w, S.2.1.2, sk)), h') ∧ TB h' S fs gs w nv ∧ mevI h' (fs, gs, S.2.2.1, w, S.2.1.2, sk) 24 ∧ fr_R h h' := by
  obtain ⟨h1, a1, a2, a3, a4⟩ := m_run1 (n := n) ht hs hp hn
  obtain ⟨P, hP⟩ : ∃ P : PL, P = (fs, gs, S.2.2.1, w, S.2.1.2, sk) := ⟨_, rfl⟩
  rw [← hP] at a2 ⊢
  have hl := ho.2.2.2.2.2.1
  have h8 := hl.1
  unfold M_X9_isSeen sok
  rw [a1, vS]
  refine ⟨h1, ?_, a3, a2, a4⟩
  obtain ⟨l, hle⟩ : ∃ l, l = S.2.2.2.1 := ⟨_, rfl⟩
  rw [← hle] at hl h8 ⊢
  have e43 : h1.1 75 43 = nI l.length := by rw [hle]; exact a3.1.2.2.2.2.1.1
  have ea : ∀ (j : Nat) (x : T3), l[j]? = some x → h1.2.1 101 j = nI x.1 ∧ h1.2.1 102 j = nI x.2.1 := by rw [hle]; exact a3.1.2.2.2.2.1.2
  obtain ⟨n', rfl⟩ : ∃ q, n = q + 1 := ⟨n - 1, by omega⟩
  refine loopE (L := fun m (q : Int32) => L_X9_isSeen_8 (n' + 1) (m + 1) 1 q h1) (I := fun k q => q = nI k ∧ ∀ j x, j < k → l[j]? = some x → pS P x = true) (Q := fun o => o = some (bI (l.all (pS P)), h1)) (N := l.length) (fun m k q hk hI => ?_) (fun m q hI => ?_) l.length 0 n' 0 (by omega) (by omega) ⟨rfl, fun j x hj => by omega⟩
  · obtain ⟨rfl, i2⟩ := hI
    obtain ⟨x, hx, -⟩ := dropC (l := l) hk
    obtain ⟨x1, x2⟩ := ea k x hx
    obtain ⟨o1, o2, -⟩ := hl.2 x (List.mem_of_getElem? hx)
    show (∃ s', L_X9_isSeen_8 (n' + 1) (m + 1 + 1) 1 (nI k) h1 = L_X9_isSeen_8 (n' + 1) (m + 1) 1 s' h1 ∧ _) ∨ L_X9_isSeen_8 (n' + 1) (m + 1 + 1) 1 (nI k) h1 = _
    rw [L_X9_isSeen_8, e43, if_neg (nI_ge hk (by omega)), if_neg (by decide), am_inK (show k < 8 by omega) (by omega), nK (by omega), x1, x2, show (6 : Int32) = nI 6 from rfl, nI_mul, show (4 : Int32) = nI 4 from rfl, nI_add, am_inK (show 6 * x.1 + 4 < 144 by omega) (by omega), nK (by omega), (a2.1 x.1 o1).2.2.2.2.1]
    simp only [cond_true]
    by_cases q : pS P x = true
    · left
      rw [if_pos ((pS_iff o2).mpr q), nI_1]
      refine ⟨nI (k + 1), rfl, rfl, fun j y hj hy => ?_⟩
      by_cases hjk : j = k
      · subst hjk
        rw [hx] at hy
        cases hy
        exact q
      · exact i2 j y (by omega) hy
    · right
      rw [if_neg (fun z => q ((pS_iff o2).mp z)), all_no hx q, L_X9_isSeen_8]
      split
      · rfl
      · rfl
  · obtain ⟨rfl, i2⟩ := hI
    show L_X9_isSeen_8 (n' + 1) (m + 1 + 1) 1 (nI l.length) h1 = _
    rw [L_X9_isSeen_8, e43, if_pos (nI_le (Nat.le_refl _) (by omega)), all_yes i2]
    rfl
theorem bacc1 {f : Nat → Bool} {k : Nat} (hk : k < 31) (h : f k = true) : nI (bN f k) ||| nI (2 ^ k) = nI (bN f (k + 1)) := by
  have h1 := bN_lt f k
  have h2 : (2 : Nat) ^ k ≤ 2 ^ 31 := Nat.pow_le_pow_right (by omega) (by omega)
  rw [nI_or _ _ (by omega) (by omega), bN_step h]
theorem bacc0 {f : Nat → Bool} {k : Nat} (h : f k = false) : nI (bN f (k + 1)) = nI (bN f k) := by
  rw [bN, h]
  rfl
theorem or0 (x : Int32) : x ||| 0 = x := Int32.or_zero
theorem bI_z {b : Bool} (h : b = false) : bI b = 0 := by rw [h]; rfl
/-! never -/
theorem altE {S : ST} {t : Nat} (ht : t < 256) : altP S t = (entS 0 S.1.1, entS 1 S.1.2, S.2.2.1, S.2.1.1, S.2.1.2, fun j => t.testBit j) := by
  unfold altP
  rw [if_pos ht]
theorem skM_n {t : Nat} (ht : t < 256) : skM (nI t) (fun j => t.testBit j) := by
  intro j hj
  unfold M_X9_isIn
  rw [bit1 (by omega) (by omega)]
  cases h : t.testBit j
  · exact ⟨fun _ => h, fun _ => rfl⟩
  · exact ⟨fun z => absurd z (by decide), fun z => absurd (h.symm.trans z) (by decide)⟩
theorem TB.n {h : AH} {S : ST} {fs gs : List T3} {w : Nat} {nv v : Int32} (ht : TB h S fs gs w nv) : TB (am_sf h 75 21 v) S fs gs w v := by
  obtain ⟨a, b, c, d, e, f⟩ := ht
  exact ⟨a.fr ⟨fun k z => sf_k _ _ (by omega), fun _ _ => rfl⟩, ⟨by rw [sf_k _ _ (by omega)]; exact b.1, b.2⟩, ⟨by rw [sf_k _ _ (by unfold mF; omega)]; exact c.1, c.2⟩, ⟨by rw [sf_k _ _ (by omega)]; exact d.1, d.2⟩, by rw [sf_k _ _ (by omega)]; exact e, sf_same _ _ _ _⟩
theorem pow8 {k : Nat} (hk : k < 8) : (2 : Nat) ^ k < 256 := by
  have : (2 : Nat) ^ k ≤ 2 ^ 7 := Nat.pow_le_pow_right (by omega) (by omega)
  omega
def q_nev (S : ST) : Int32 := nI (bN (fun i => sok S (altP S (2 ^ i))) S.2.2.1.length)
theorem c_never {n : Nat} {S : ST} {h : AH} (hc : CR h S) (hn : 600 < n) : ∃ h', M_X8_never n h = some (q_nev S, h') ∧ CR h' S := by
  obtain ⟨f, hf⟩ : ∃ f : Nat → Bool, f = (fun i => sok S (altP S (2 ^ i))) := ⟨_, rfl⟩
  have h8 := hc.1.2.2.2.2.1.1
  unfold M_X8_never q_nev
  rw [← hf]
  obtain ⟨m', h1, e1, e2⟩ := loopH (L := fun m (q : Int32 × Int32) h => L_X8_never_4 n m q.1 q.2 h) (f := fun k => (nI (bN f k), nI k)) (I := fun _ h => CR h S) (N := S.2.2.1.length) (by
    intro m k h hk hI
    show ∃ h', L_X8_never_4 n (m + 1) (nI (bN f k)) (nI k) h = L_X8_never_4 n m (nI (bN f (k + 1))) (nI (k + 1)) h' ∧ CR h' S
    have h2 := pow8 (show k < 8 by omega)
    obtain ⟨h1, a1, a2⟩ := c_outcome (n := n) (t := 2 ^ k) hI (by omega) (by omega)
    have hs := c_seenS (n := n) (P := altP S (2 ^ k)) (altP_ok hc.1 (by omega)) a2.2.1.2.2.2.1 hc.1.2.2.2.2.2.1 hn
    have hs : M_X8_comesOutAsSeen n (pkS (altP S (2 ^ k))) h1 = some (bI (f k)) := by rw [hf]; exact hs
    rw [L_X8_never_4, hI.2.1.2.2.1.1, if_neg (nI_ge hk (by omega)), show (8 : Int32) = nI 8 from rfl, if_neg (nI_ge (by omega) (by omega)), nI_bit (by omega), a1, bS, hs, oS, nI_1]
    refine ⟨h1, ?_, a2⟩
    cases hfk : f k
    · rw [if_pos (by decide), bacc0 hfk]
    · rw [if_neg (by decide), bacc1 (by omega) hfk]) S.2.2.1.length 0 n h (by omega) (by omega) hc
  have e1 : L_X8_never_4 n n 0 0 h = L_X8_never_4 n (m' + 1) (nI (bN f S.2.2.1.length)) (nI S.2.2.1.length) h1 := e1
  rw [e1, L_X8_never_4, e2.2.1.2.2.1.1, if_pos (nI_le (Nat.le_refl _) (by omega))]
  exact ⟨h1, rfl, e2⟩
theorem m_neverNow {n : Nat} {S : ST} {h : AH} (ho : okST S) (hm : MT h S) (hn : 600 < n) : ∃ h', M_X9_neverNow n h = some (q_nev S, h') ∧ ME h' S := by
  obtain ⟨f, hf⟩ : ∃ f : Nat → Bool, f = (fun i => sok S (altP S (2 ^ i))) := ⟨_, rfl⟩
  have h8 := ho.2.2.2.2.1.1
  unfold M_X9_neverNow q_nev
  rw [← hf]
  obtain ⟨h1, a1, a2⟩ := m_asT (n := n) ho hm hn
  rw [a1, vS]
  obtain ⟨m', h2, e1, ⟨u, e2⟩⟩ := loopH (L := fun m (q : Int32 × Int32) h => L_X9_neverNow_8 n m q.1 q.2 h) (f := fun k => (nI (bN f k), nI k)) (I := fun _ h => ∃ u, TB h S (entS 0 S.1.1) (entS 1 S.1.2) S.2.1.1 u) (N := S.2.2.1.length) (by
    intro m k h hk hI
    obtain ⟨u, i1⟩ := hI
    show ∃ h', L_X9_neverNow_8 n (m + 1) (nI (bN f k)) (nI k) h = L_X9_neverNow_8 n m (nI (bN f (k + 1))) (nI (k + 1)) h' ∧ _
    have h2 := pow8 (show k < 8 by omega)
    have hp := altP_ok (t := 2 ^ k) ho (by omega)
    rw [altE h2] at hp
    obtain ⟨h1, b1, b2, -, -⟩ := m_seenS (n := n) ho (i1.n (v := nI (2 ^ k))) (skM_n h2) hp hn
    rw [← altE h2] at b1
    have b1 : M_X9_isSeen n (am_sf h 75 21 (nI (2 ^ k))) = some (bI (f k), h1) := by rw [hf]; exact b1
    rw [L_X9_neverNow_8, i1.1.2.2.1.1, if_neg (nI_ge hk (by omega)), nI_bit (by omega), b1, bS]
    unfold B_X9_neverNow_38
    rw [nI_1]
    refine ⟨h1, ?_, _, b2⟩
    cases hfk : f k
    · rw [if_pos (by decide), bacc0 hfk, or0]
    · rw [if_neg (by decide), bacc1 (by omega) hfk]) S.2.2.1.length 0 n h1 (by omega) (by omega) ⟨_, a2⟩
  have e1 : L_X9_neverNow_8 n n 0 0 h1 = L_X9_neverNow_8 n (m' + 1) (nI (bN f S.2.2.1.length)) (nI S.2.2.1.length) h2 := e1
  rw [e1, L_X9_neverNow_8, e2.1.2.2.1.1, if_pos (nI_le (Nat.le_refl _) (by omega))]
  exact ⟨h2, rfl, e2.me⟩
theorem two_never {n : Nat} (hn : 600 < n) : two (M_X8_never n) (M_X9_never n) := by
  intro S ho
  refine ⟨q_nev S, S, fun h hc => c_never hc hn, fun h hm => ?_⟩
  obtain ⟨h1, a1, a2⟩ := m_neverNow (n := n) ho hm hn
  unfold M_X9_never
  rw [a1]
  exact ⟨h1, rfl, a2.1⟩
