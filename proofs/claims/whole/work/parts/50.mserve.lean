/-! the reference: leaves, serves, goAway -/
def arrL (h : AH) (l : List Nat) : Prop := h.1 75 29 = nI l.length ∧ ∀ j x, l[j]? = some x → h.2.1 90 j = nI x
def fr_l (h h' : AH) : Prop := (∀ i k, ¬ (i = 75 ∧ k = 29) → h'.1 i k = h.1 i k) ∧ (∀ i, ¬ i = 90 → h'.2.1 i = h.2.1 i) ∧ h'.2.2 = h.2.2
set_option maxHeartbeats 4000000 in
theorem m_leaves {n p : Nat} {h : AH} {l : List Nat} (ha : arrL h l) (hp : p < l.length) (hl : l.length ≤ 8) (hn : 8 < n) : ∃ h', M_X9_leaves n (nI p) h = some h' ∧ arrL h' (l.eraseIdx p) ∧ fr_l h h' := by
  unfold M_X9_leaves
  obtain ⟨m', q1, h1, e1, e2, ep, e3, e4, e5, e6⟩ := loopV (ρ := Int32) (L := fun m q h => L_X9_leaves_2 n m q h) (N := l.length - 1) (I := fun k q h1 => q = nI k ∧ p ≤ k ∧ (∀ j, j < l.length → h1.2.1 90 j = if p ≤ j ∧ j < k then h.2.1 90 (j + 1) else h.2.1 90 j) ∧ h1.1 = h.1 ∧ (∀ i, ¬ i = 90 → h1.2.1 i = h.2.1 i) ∧ h1.2.2 = h.2.2) (by
    intro m k q h1 hk hi
    obtain ⟨i1, ip, i2, i3, i4, i5⟩ := hi
    subst i1
    rw [L_X9_leaves_2, i3, ha.1, nI_1, if_neg (nI_ge (by omega) (by omega)), am_inK (show k + 1 < 8 by omega) (by omega), am_inK (show k < 8 by omega) (by omega), nK (show k + 1 ≤ 100000 by omega), nK (show k ≤ 100000 by omega)]
    simp only [cond_true]
    refine ⟨nI (k + 1), _, rfl, rfl, by omega, ?_, i3, ?_, i5⟩
    · intro j hj
      rw [sa_s]
      unfold upd
      by_cases hjk : j = k
      · subst hjk
        rw [if_pos rfl, i2 (j + 1) (by omega), if_neg (by omega)]
        by_cases hpj : p ≤ j
        · rw [if_pos ⟨hpj, by omega⟩]
        · exact absurd ip hpj
      · rw [if_neg hjk, i2 j hj]
        by_cases c : p ≤ j ∧ j < k
        · rw [if_pos c, if_pos ⟨c.1, by omega⟩]
        · rw [if_neg c, if_neg (by omega)]
    · intro i hi
      rw [sa_n _ _ hi]
      exact i4 i hi) (l.length - 1 - p) p n (nI p) h (by omega) (by omega) ⟨rfl, Nat.le_refl _, fun j hj => by rw [if_neg (by omega)], rfl, fun _ _ => rfl, rfl⟩
  subst e2
  rw [e1, L_X9_leaves_2, e4, ha.1, nI_1, if_pos (nI_le (by omega) (by omega)), show (1 : Int32) = nI 1 from rfl, nI_sub (by omega)]
  refine ⟨_, rfl, ⟨?_, fun j x hx => ?_⟩, fun i k z => ?_, fun i z => ?_, e6⟩
  · rw [sf_same, List.length_eraseIdx_of_lt hp]
  · rw [sf_2]
    rw [List.getElem?_eraseIdx] at hx
    by_cases c : j < p
    · rw [if_pos c] at hx
      rw [e3 j (by omega), if_neg (by omega)]
      exact ha.2 j x hx
    · rw [if_neg c] at hx
      have hj := (List.getElem?_eq_some_iff.mp hx).1
      rw [e3 j (by omega), if_pos ⟨by omega, by omega⟩]
      exact ha.2 (j + 1) x hx
  · rw [sf_n z, e4]
  · rw [sf_2]
    exact e5 i z
theorem erase_idx : ∀ (l : List Nat) (i k : Nat), l.Nodup → l[i]? = some k → l.eraseIdx i = l.erase k
  | [], i, k, _, h => by simp at h
  | a :: l, 0, k, _, h => by
    have e : a = k := by simpa using h
    subst e
    simp
  | a :: l, i + 1, k, hd, h => by
    rw [List.nodup_cons] at hd
    have hx : l[i]? = some k := by simpa using h
    have hm : k ∈ l := List.mem_of_getElem? hx
    have hne : ¬ a = k := fun z => hd.1 (by rw [z]; exact hm)
    rw [List.eraseIdx_cons_succ, List.erase_cons_tail (by simp [hne]), erase_idx l i k hd.2 hx]
theorem find_idx {p : Nat → Bool} : ∀ (l : List Nat) (i k : Nat), l[i]? = some k → p k = true → (∀ j x, j < i → l[j]? = some x → p x = false) → l.find? p = some k
  | [], i, k, h, _, _ => by simp at h
  | a :: l, 0, k, h, pk, _ => by
    have e : a = k := by simpa using h
    subst e
    exact List.find?_cons_of_pos pk
  | a :: l, i + 1, k, h, pk, hno => by
    have ha := hno 0 a (by omega) (by simp)
    rw [List.find?_cons_of_neg (by rw [ha]; simp)]
    exact find_idx l i k (by simpa using h) pk (fun j x hj hx => hno (j + 1) x (by omega) (by simpa using hx))
theorem lnOK.out {s : LS9} {k x : Nat} {had bak : Nat → Nat} (h : lnOK s) (hx : ¬ x = 1) (hx4 : x ≤ 4) : lnOK (s.1.erase k, up s.2.1 k x, had, s.2.2.2.1, bak) := by
  obtain ⟨h1, h2, h3, h4⟩ := h
  refine ⟨h1.erase k, fun j hj => h2 j (List.mem_of_mem_erase hj), fun j hj => ?_, fun j hj => ?_⟩
  · show up s.2.1 k x j = 1 ↔ j ∈ s.1.erase k
    rw [h1.mem_erase_iff]
    by_cases hjk : j = k
    · subst hjk
      rw [up_s]
      exact ⟨fun z => absurd z hx, fun z => absurd rfl z.1⟩
    · rw [up_n _ _ hjk, h3 j hj]
      exact ⟨fun z => ⟨hjk, z⟩, fun z => z.2⟩
  · show up s.2.1 k x j ≤ 4 ∧ s.2.2.2.1 j ≤ 24
    refine ⟨?_, (h4 j hj).2⟩
    by_cases hjk : j = k
    · subst hjk
      rw [up_s]
      exact hx4
    · rw [up_n _ _ hjk]
      exact (h4 j hj).1
def fr_v (h h' : AH) : Prop := (∀ i k, ¬ (i = 75 ∧ (k = 29 ∨ k = 23 ∨ k = 24)) → h'.1 i k = h.1 i k) ∧ (∀ i, ¬ (90 ≤ i ∧ i ≤ 94) → h'.2.1 i = h.2.1 i) ∧ h'.2.2 = h.2.2
set_option maxHeartbeats 8000000 in
theorem m_serves {n t t' br wa : Nat} {gs : List T3} {h : AH} {s : LS9} (hgs : okE gs 2 1 4) (ht : t < 24) (he : gsM h gs) (hb : h.1 75 24 = nI br) (hbr : br ≤ 40) (hw : h.1 75 23 = nI wa) (hwa : 0 < wa) (hc : mcm h s) (hok : ok9 gs t' s) (hn : 8 < n) :
    ∃ h', M_X9_serves n (nI t) h = some (svI (sp_serve gs t br wa s).1, h') ∧ mcm h' (sp_serve gs t br wa s).2.2.2 ∧ h'.1 75 24 = nI (sp_serve gs t br wa s).2.1 ∧ h'.1 75 23 = nI (sp_serve gs t br wa s).2.2.1 ∧ fr_v h h' := by
  obtain ⟨c1, c2, c3, c4, c5, c6, c7⟩ := id hc
  obtain ⟨ln, ol, oh, oz⟩ := hok
  have h8 := hgs.1
  have hlen := c7.len
  unfold M_X9_serves
  refine loopW (ρ := Int32) (L := fun m q h => L_X9_serves_2 n m (nI t) q h) (N := s.1.length) (I := fun k q h1 => q = nI k ∧ h1 = h ∧ ∀ j x, j < k → s.1[j]? = some x → canS gs br x = false) (Q := fun r => ∃ h', r = some (svI (sp_serve gs t br wa s).1, h') ∧ mcm h' (sp_serve gs t br wa s).2.2.2 ∧ h'.1 75 24 = nI (sp_serve gs t br wa s).2.1 ∧ h'.1 75 23 = nI (sp_serve gs t br wa s).2.2.1 ∧ fr_v h h') ?_ ?_ s.1.length 0 n 0 h (by omega) (by omega) ⟨rfl, rfl, fun j x hj => by omega⟩
  · intro m i q h1 hi hI
    obtain ⟨i1, i2, i3⟩ := hI
    subst i1 i2
    obtain ⟨k, hk, -⟩ := dropC (l := s.1) (k := i) hi
    have hk1 := List.mem_of_getElem? hk
    have hkl := ol k hk1
    have hk8 : k < 8 := by omega
    have hs1 := (c7.2.2.1 k hk8).mpr hk1
    obtain ⟨x, hx, -⟩ := dropC (l := gs) (k := k) hkl
    obtain ⟨x1, x2, x3⟩ := he.2 k x hx
    obtain ⟨b1, b2, b3, b4⟩ := hgs.2 x (List.mem_of_getElem? hx)
    have hh := (oh k x hx).2.2 (by omega)
    have hdk := dk_at hx
    have hal := al_at hx
    rw [L_X9_serves_2, c5, if_neg (nI_ge (by omega) (by omega)), am_inK (show i < 8 by omega) (by omega), nK (show i ≤ 100000 by omega), c6 i k hk, am_inK hk8 (by omega), nK (show k ≤ 100000 by omega), x2]
    simp only [cond_true]
    have eb : (if nI x.2.1 = 1 then B_X9_serves_32 n (L_X9_serves_2 n m) (nI t) (nI i) (nI k) 3 h1 else B_X9_serves_32 n (L_X9_serves_2 n m) (nI t) (nI i) (nI k) 1 h1) = B_X9_serves_32 n (L_X9_serves_2 n m) (nI t) (nI i) (nI k) (nI (1 + 2 * x.2.1)) h1 := by
      by_cases c : x.2.1 = 1
      · rw [if_pos (by rw [c]; rfl), c]
        rfl
      · rw [if_neg (by rw [show (1 : Int32) = nI 1 from rfl]; exact kF c (by omega) (by omega)), show x.2.1 = 0 by omega]
        rfl
    rw [eb]
    unfold B_X9_serves_32
    rw [hb]
    by_cases cn : 1 + 2 * x.2.1 ≤ br
    · right
      have hcan : canS gs br k = true := decide_eq_true (by rw [hdk]; exact cn)
      have hf := find_idx s.1 i k hk hcan i3
      have hsv : sp_serve gs t br wa s = (some k, br - (1 + 2 * dk gs k), wa - 1, sp_srv gs t k s) := by unfold sp_serve; rw [hf]
      rw [hsv]
      rw [if_neg (nI_nlt cn (by omega)), am_inK hk8 (by omega), nK (show k ≤ 100000 by omega), hw, nI_sub cn, show (1 : Int32) = nI 1 from rfl, nI_sub (by omega), c2 k hk8, nI_add, x3]
      simp only [cond_true]
      have eu : upd (h1.2.1 92) k (nI (s.2.2.1 k + 1)) k = nI (s.2.2.1 k + 1) := if_pos rfl
      rw [eu]
      have key : ∀ (v : Nat) (vI : Int32), vI = nI v → v = (if s.2.2.1 k + 1 = al gs k then 3 else 2) → ∃ h', B_X9_serves_99 n (nI t) (nI i) (nI k) vI (nI k) (am_sa (am_sf (am_sf h1 75 24 (nI (br - (1 + 2 * x.2.1)))) 75 23 (nI (wa - 1))) 92 (upd (h1.2.1 92) k (nI (s.2.2.1 k + 1)))) = some (svI (some k), h') ∧ mcm h' (sp_srv gs t k s) ∧ h'.1 75 24 = nI (br - (1 + 2 * dk gs k)) ∧ h'.1 75 23 = nI (wa - 1) ∧ fr_v h1 h' := by
        intro v vI hvI hv
        subst hvI
        have hv3 : v ≤ 3 ∧ 2 ≤ v := by rw [hv]; split <;> omega
        have hsp : sp_srv gs t k s = (s.1.erase k, up s.2.1 k v, up s.2.2.1 k (s.2.2.1 k + 1), s.2.2.2.1, up s.2.2.2.2 k (t + 3 + dk gs k)) := by unfold sp_srv; rw [← hv]
        rw [hsp]
        unfold B_X9_serves_99 B_X9_serves_121
        rw [am_inK hk8 (by omega), nK (show k ≤ 100000 by omega)]
        simp only [cond_true]
        rw [sa_n _ _ (by omega), sf_2, sf_2, x2]
        have ec : ∀ (f : Int32 → Option (Int32 × AH)), (if nI x.2.1 = 1 then f (nI t + 4) else f (nI t + 3)) = f (nI (t + 3 + x.2.1)) := by
          intro f
          by_cases c : x.2.1 = 1
          · rw [if_pos (by rw [c]; rfl), c, show (4 : Int32) = nI 4 from rfl, nI_add]
          · rw [if_neg (by rw [show (1 : Int32) = nI 1 from rfl]; exact kF c (by omega) (by omega)), show x.2.1 = 0 by omega, show (3 : Int32) = nI 3 from rfl, nI_add]
        refine Exists.elim (m_leaves (n := n) (p := i) (l := s.1) (h := am_sa (am_sa (am_sa (am_sf (am_sf h1 75 24 (nI (br - (1 + 2 * x.2.1)))) 75 23 (nI (wa - 1))) 92 (upd (h1.2.1 92) k (nI (s.2.2.1 k + 1)))) 91 (upd (h1.2.1 91) k (nI v))) 93 (upd (h1.2.1 93) k (nI (t + 3 + x.2.1)))) ⟨?_, ?_⟩ hi hlen hn) ?_
        · exact c5
        · exact c6
        · intro h' ⟨g1, g2, g3⟩
          have e5 := ec (fun w => am_v (M_X9_leaves n (nI i) (am_sa (am_sa (am_sa (am_sf (am_sf h1 75 24 (nI (br - (1 + 2 * x.2.1)))) 75 23 (nI (wa - 1))) 92 (upd (h1.2.1 92) k (nI (s.2.2.1 k + 1)))) 91 (upd (h1.2.1 91) k (nI v))) 93 (upd (h1.2.1 93) k w))) fun h1 => some (nI k, h1))
          refine ⟨h', ?_, ⟨?_, ?_, ?_, ?_, ?_, ?_, ?_⟩, ?_, ?_, ?_, ?_, ?_⟩
          · refine Eq.trans e5 ?_
            rw [g1]
            rfl
          · rw [g3.2.1 _ (by omega), sa_n _ _ (by omega), sa_s]
            exact upd_nI c1
          · rw [g3.2.1 _ (by omega), sa_n _ _ (by omega), sa_n _ _ (by omega), sa_s]
            exact upd_nI c2
          · rw [g3.2.1 _ (by omega), sa_n _ _ (by omega), sa_n _ _ (by omega), sa_n _ _ (by omega)]
            exact c3
          · intro j hj
            rw [g3.2.1 _ (by omega), sa_s]
            show up s.2.1 k v j = 2 → upd (h1.2.1 93) k (nI (t + 3 + x.2.1)) j = nI (up s.2.2.2.2 k (t + 3 + dk gs k) j) ∧ up s.2.2.2.2 k (t + 3 + dk gs k) j ≤ 100
            unfold upd
            by_cases hjk : j = k
            · subst hjk
              rw [up_s, up_s, if_pos rfl, hdk]
              exact fun _ => ⟨rfl, by omega⟩
            · rw [up_n _ _ hjk, up_n _ _ hjk, if_neg hjk]
              exact c4 j hj
          · rw [g2.1, erase_idx s.1 i k c7.1 hk]
          · rw [erase_idx s.1 i k c7.1 hk] at g2
            exact g2.2
          · exact c7.out (by omega) (by omega)
          · rw [g3.1 _ _ (by omega), sa_1, sa_1, sa_1, sf_k _ _ (by omega), sf_same, hdk]
          · rw [g3.1 _ _ (by omega), sa_1, sa_1, sa_1, sf_same]
          · intro a b z
            rw [g3.1 _ _ (by omega), sa_1, sa_1, sa_1, sf_n (by omega), sf_n (by omega)]
          · intro a z
            rw [g3.2.1 _ (by omega), sa_n _ _ (by omega), sa_n _ _ (by omega), sa_n _ _ (by omega)]
            rfl
          · rw [g3.2.2]
            rfl
      by_cases ca : s.2.2.1 k + 1 = al gs k
      · rw [if_pos (by rw [ca, hal])]
        exact key 3 3 rfl (by rw [if_pos ca])
      · rw [if_neg (kF (by omega) (by omega) (by omega))]
        exact key 2 2 rfl (by rw [if_neg ca])
    · left
      rw [if_pos (nI_lt (by omega) (by omega)), nI_1]
      refine ⟨nI (i + 1), h1, rfl, rfl, rfl, ?_⟩
      intro j y hj hy
      by_cases hji : j = i
      · subst hji
        rw [hk] at hy
        cases hy
        exact decide_eq_false (by rw [hdk]; exact cn)
      · exact i3 j y (by omega) hy
  · intro m q h1 hI
    obtain ⟨i1, i2, i3⟩ := hI
    subst i1 i2
    rw [L_X9_serves_2, c5, if_pos (nI_le (Nat.le_refl _) (by omega))]
    have hf : s.1.find? (canS gs br) = none := by
      rw [List.find?_eq_none]
      intro y hy
      obtain ⟨j, hj⟩ := List.mem_iff_getElem?.mp hy
      rw [i3 j y (List.getElem?_eq_some_iff.mp hj).1 hj]
      simp
    have hsv : sp_serve gs t br wa s = (none, br, wa, s) := by unfold sp_serve; rw [hf]
    rw [hsv]
    exact ⟨h1, rfl, hc, hb, hw, fun _ _ _ => rfl, fun _ _ => rfl, rfl⟩
