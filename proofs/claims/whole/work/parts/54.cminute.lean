/-! a minute of the class -/
theorem come2_had {t : Nat} : ∀ (l : List T3) (k : Nat) (s : LS9), (sp_come2 t l k s).2.2.1 = s.2.2.1
  | [], _, _ => rfl
  | y :: l, k, s => by
    rw [sp_come2, come2_had l]
    split <;> rfl
theorem come1_had {t : Nat} : ∀ (l : List T3) (k : Nat) (s : LS9), (sp_come1 t l k s).2.2.1 = s.2.2.1
  | [], _, _ => rfl
  | y :: l, k, s => by
    rw [sp_come1, come1_had l]
    split <;> rfl
theorem come2_v {t v : Nat} (hv : 3 ≤ v) : ∀ (l : List T3) (k : Nat) (s : LS9) (j : Nat), ((sp_come2 t l k s).2.1 j == v) = (s.2.1 j == v)
  | [], _, _, _ => rfl
  | y :: l, k, s, j => by
    rw [sp_come2, come2_v hv l]
    split
    · rename_i c
      show (up s.2.1 k 1 j == v) = _
      by_cases hjk : j = k
      · subst hjk
        rw [up_s, c.1]
        rw [beq_eq_false_iff_ne.mpr (by omega), beq_eq_false_iff_ne.mpr (by omega)]
      · rw [up_n _ _ hjk]
    · rfl
theorem come1_v {t v : Nat} {gs : List T3} (hv : 3 ≤ v) : ∀ (l : List T3) (k : Nat) (s : LS9) (j : Nat), gs.drop k = l → (∀ j x, k ≤ j → gs[j]? = some x → x.1 = t → s.2.1 j = 0) → ((sp_come1 t l k s).2.1 j == v) = (s.2.1 j == v)
  | [], _, _, _, _, _ => rfl
  | y :: l, k, s, j, hd, hc => by
    have hlt : k < gs.length := by
      have := congrArg List.length hd
      rw [List.length_drop, List.length_cons] at this
      omega
    have hy : gs[k]? = some y := by
      rw [← Nat.add_zero k, ← List.getElem?_drop, hd]
      rfl
    have hl : gs.drop (k + 1) = l := by
      rw [← List.drop_drop, hd]
      rfl
    rw [sp_come1]
    by_cases c : y.1 = t
    · rw [if_pos c]
      have hz := hc k y (Nat.le_refl _) hy c
      rw [come1_v hv l (k + 1) _ j hl (fun i x hi hx hxt => by rw [sp_join_other (by omega)]; exact hc i x (by omega) hx hxt)]
      show (up s.2.1 k 1 j == v) = _
      by_cases hjk : j = k
      · subst hjk
        rw [up_s, hz]
        rw [beq_eq_false_iff_ne.mpr (by omega), beq_eq_false_iff_ne.mpr (by omega)]
      · rw [up_n _ _ hjk]
    · rw [if_neg c]
      exact come1_v hv l (k + 1) s j hl (fun i x hi => hc i x (by omega))
theorem c_lineUp {n rc rg t T : Nat} {gs : List T3} {h : AH} {s : LS9} (hgs : okE gs 2 1 4) (ht : t < 24) (hr : rg + 3 < rc) (hn : 8 < n) (he : entR h rg gs) (hc : cm2 h rc gs s T) (hok : ok9 gs t s) :
    ∃ h' T', M_X0_lineUp n rc rg (nI t) h = some h' ∧ cm2 h' rc gs (sp_come2 t gs 0 (sp_come1 t gs 0 s)) T' ∧ T' ≤ T + 16 ∧ fr_s rc rc h h' := by
  have h8 := hgs.1
  obtain ⟨c1, c2, c3, c4⟩ := hc
  have hz : ∀ (j : Nat) (x : T3), 0 ≤ j → gs[j]? = some x → x.1 = t → s.2.1 j = 0 := fun j x _ hx hxt => (hok.2.2.1 j x hx).1 (by omega)
  obtain ⟨h', T', q1, q2, q3, q4⟩ := c_line1 (n := n) hgs ht hr hn gs.length 0 n T h s (by omega) (by omega) he c1 hz
  rw [List.drop_zero] at q2
  refine ⟨h', T', q1, ⟨q2, ?_, ?_, ?_⟩, by omega, fun i k z _ => q4.1 i k z, q4.2.2.1, q4.2.2.2⟩
  · rw [q4.2.1 _ (by omega), c2, come2_had, come1_had]
  · rw [q4.2.1 _ (by omega), c3]
    congr 1
    apply bN_congr
    intro j _
    rw [come2_v (by omega), come1_v (by omega) gs 0 s j List.drop_zero hz]
  · rw [q4.2.1 _ (by omega), c4]
    congr 1
    apply bN_congr
    intro j _
    rw [come2_v (by omega), come1_v (by omega) gs 0 s j List.drop_zero hz]
theorem c_warm {rk a w st f : Nat} {h : AH} (e0 : h.1 rk 0 = nI a) (e1 : h.1 rk 1 = nI w) (e3 : h.1 rk 3 = nI st) (ha : a ≤ 100) (hw : w ≤ 30) (hf : f ≤ 192) :
    ∃ h', M_X3_warm rk (nI f) h = some h' ∧ h'.1 rk 0 = nI (min 100 (a + f - (2 + w / 5))) ∧ h'.1 rk 1 = nI (if decide (min 100 (a + f - (2 + w / 5)) = 100 ∧ 0 < w) = true then w - 1 else w) ∧ h'.1 rk 3 = nI (st + (if decide (min 100 (a + f - (2 + w / 5)) = 100 ∧ 0 < w) = true then 1 else 0)) ∧ (∀ i k, ¬ (i = rk ∧ ¬ k = 2) → h'.1 i k = h.1 i k) ∧ h'.2 = h.2 := by
  have em : am_min 100 (am_max 0 ((h.1 rk 0 + nI f - 2) - h.1 rk 1 / 5)) = nI (min 100 (a + f - (2 + w / 5))) := by
    rw [e0, e1, show (5 : Int32) = nI 5 from rfl, nI_div (by omega) (by omega), nI_add, show (2 : Int32) = nI 2 from rfl, zI_n, zI_n 2, zI_n (w / 5), zI_sub, zI_sub, max0 (by omega) (by omega), show (100 : Int32) = nI 100 from rfl, minN (by omega) (by omega)]
    congr 2
    omega
  unfold M_X3_warm
  rw [em]
  by_cases c : min 100 (a + f - (2 + w / 5)) = 100
  · rw [if_pos (by rw [c]; rfl), e1]
    by_cases cw : 0 < w
    · rw [if_neg (by rw [show (0 : Int32) = nI 0 from rfl]; exact nI_ge (by omega) (by omega))]
      refine ⟨_, rfl, ?_, ?_, ?_, ?_, rfl⟩
      · rw [sf_k _ _ (by omega), sf_k _ _ (by omega), sf_same]
      · rw [sf_k _ _ (by omega), sf_same, show (1 : Int32) = nI 1 from rfl, nI_sub (by omega), if_pos (decide_eq_true ⟨c, cw⟩)]
      · rw [sf_same, e3, nI_1, if_pos (decide_eq_true ⟨c, cw⟩)]
      · intro i k z
        rw [sf_n (by omega), sf_n (by omega), sf_n (by omega)]
    · rw [if_pos (by rw [show (0 : Int32) = nI 0 from rfl]; exact nI_le (by omega) (by omega))]
      have cd : ¬ decide (min 100 (a + f - (2 + w / 5)) = 100 ∧ 0 < w) = true := fun z => cw (of_decide_eq_true z).2
      refine ⟨_, rfl, ?_, ?_, ?_, ?_, rfl⟩
      · rw [sf_same]
      · rw [sf_k _ _ (by omega), e1, if_neg cd]
      · rw [sf_k _ _ (by omega), e3, if_neg cd]
        rfl
      · intro i k z
        rw [sf_n (by omega)]
  · rw [if_neg (by rw [show (100 : Int32) = nI 100 from rfl]; exact kF c (by omega) (by omega))]
    have cd : ¬ decide (min 100 (a + f - (2 + w / 5)) = 100 ∧ 0 < w) = true := fun z => c (of_decide_eq_true z).1
    refine ⟨_, rfl, ?_, ?_, ?_, ?_, rfl⟩
    · rw [sf_same]
    · rw [sf_k _ _ (by omega), e1, if_neg cd]
    · rw [sf_k _ _ (by omega), e3, if_neg cd]
      rfl
    · intro i k z
      rw [sf_n (by omega)]
theorem c_boils {rk a w : Nat} {h : AH} (e0 : h.1 rk 0 = nI a) (e1 : h.1 rk 1 = nI w) (ha : a ≤ 100) (hw : w ≤ 30) : M_X3_boils rk h = bI (decide (80 ≤ a ∧ 0 < w)) := by
  unfold M_X3_boils
  rw [e0, e1]
  by_cases c : 80 ≤ a
  · rw [if_neg (by rw [show (80 : Int32) = nI 80 from rfl]; exact nI_nlt c (by omega))]
    by_cases cw : 0 < w
    · rw [if_neg (by rw [show (0 : Int32) = nI 0 from rfl]; exact nI_ge (by omega) (by omega)), decide_eq_true (⟨c, cw⟩ : 80 ≤ a ∧ 0 < w)]
      rfl
    · rw [if_pos (by rw [show (0 : Int32) = nI 0 from rfl]; exact nI_le (by omega) (by omega)), decide_eq_false (fun z : 80 ≤ a ∧ 0 < w => cw z.2)]
      rfl
  · rw [if_pos (by rw [show (80 : Int32) = nI 80 from rfl]; exact nI_lt (by omega) (by omega)), decide_eq_false (fun z : 80 ≤ a ∧ 0 < w => c z.1)]
    rfl
theorem bN_step {f : Nat → Bool} {n : Nat} (h : f n = true) : bN f n ||| 2 ^ n = bN f (n + 1) := by
  apply Nat.eq_of_testBit_eq
  intro j
  rw [Nat.testBit_or, bN_bit, bN_bit, Nat.testBit_two_pow]
  by_cases hj : j < n
  · simp [hj, show ¬ n = j by omega, show j < n + 1 by omega]
  · by_cases hjn : j = n
    · subst hjn
      simp [h]
    · simp [hj, show ¬ n = j by omega, show ¬ j < n + 1 by omega]
def planR (h : AH) (r1 : Nat) (P : PL) : Prop := entR h (pl_f r1) P.1 ∧ entR h (pl_g r1) P.2.1 ∧ entR h (pl_e r1) P.2.2.1 ∧ h.1 r1 3 = nI P.2.2.2.1 ∧ h.1 r1 4 = nI P.2.2.2.2.1 ∧ skR (h.1 r1 5) P.2.2.2.2.2
def fr_E (r : Nat) (h h' : AH) : Prop := (∀ i k, ¬ (r ≤ i ∧ i ≤ r + 14) → h'.1 i k = h.1 i k) ∧ (∀ i, ¬ (r ≤ i ∧ i ≤ r + 14) → h'.2.1 i = h.2.1 i) ∧ h'.2.2 = h.2.2
theorem fr_E.rf {r : Nat} {h : AH} : fr_E r h h := ⟨fun _ _ _ => rfl, fun _ _ => rfl, rfl⟩
theorem fr_E.tr {r : Nat} {a b c : AH} (h1 : fr_E r a b) (h2 : fr_E r b c) : fr_E r a c := ⟨fun i k z => (h2.1 i k z).trans (h1.1 i k z), fun i z => (h2.2.1 i z).trans (h1.2.1 i z), h2.2.2.trans h1.2.2⟩
def hpl (r r1 : Nat) : Prop := pl_f r1 + 3 < r ∧ pl_g r1 + 3 < r ∧ pl_e r1 + 3 < r ∧ r1 < r
theorem entR.frE {h h' : AH} {r rg : Nat} {gs : List T3} (he : entR h rg gs) (hf : fr_E r h h') (hr : rg + 3 < r) : entR h' rg gs := by
  refine ⟨by rw [hf.1 _ _ (by omega)]; exact he.1, fun j x hx => ?_⟩
  rw [hf.2.1 _ (by omega), hf.2.1 _ (by omega), hf.2.1 _ (by omega)]
  exact he.2 j x hx
theorem planR.frE {h h' : AH} {r r1 : Nat} {P : PL} (hp : planR h r1 P) (hf : fr_E r h h') (hr : hpl r r1) : planR h' r1 P := by
  obtain ⟨a, b, c, d, e, f⟩ := hp
  obtain ⟨r2, r3, r4, r5⟩ := hr
  exact ⟨a.frE hf r2, b.frE hf r3, c.frE hf r4, by rw [hf.1 _ _ (by omega)]; exact d, by rw [hf.1 _ _ (by omega)]; exact e, by rw [hf.1 _ _ (by omega)]; exact f⟩
