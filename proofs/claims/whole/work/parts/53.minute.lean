/-! a minute, said plainly -/
/-- fuel, guests, events, water, brew, events that are left out -/
abbrev PL : Type := List T3 × List T3 × List T3 × Nat × Nat × (Nat → Bool)
/-- heat, water, brew, steamed, guests -/
abbrev ES : Type := Nat × Nat × Nat × Nat × LS9
def okP (P : PL) : Prop := okE P.1 3 1 3 ∧ okE P.2.1 2 1 4 ∧ okE P.2.2.1 3 0 9 ∧ P.2.2.2.1 ≤ 30 ∧ P.2.2.2.2.1 ≤ 40
def mn_k (P : PL) (t : Nat) (s : ES) : KS := sp_ev t P.2.2.2.2.2 P.2.2.1 0 (s.1, s.2.1, s.2.2.1, false)
def mn_f (P : PL) (t : Nat) (s : ES) : Nat := if (mn_k P t s).2.2.2 = true then 2 * sp_fire P.1 t P.1.length else sp_fire P.1 t P.1.length
def mn_h (P : PL) (t : Nat) (s : ES) : Nat := min 100 ((mn_k P t s).1 + mn_f P t s - (2 + (mn_k P t s).2.1 / 5))
def mn_s (P : PL) (t : Nat) (s : ES) : Bool := decide (mn_h P t s = 100 ∧ 0 < (mn_k P t s).2.1)
def mn_w (P : PL) (t : Nat) (s : ES) : Nat := if mn_s P t s = true then (mn_k P t s).2.1 - 1 else (mn_k P t s).2.1
def mn_b (P : PL) (t : Nat) (s : ES) : Bool := decide (80 ≤ mn_h P t s ∧ 0 < mn_w P t s)
def mn_l (P : PL) (t : Nat) (s : ES) : LS9 := sp_come2 t P.2.1 0 (sp_come1 t P.2.1 0 s.2.2.2.2)
def mn_v (P : PL) (t : Nat) (s : ES) : Option Nat × Nat × Nat × LS9 := if mn_b P t s = true then sp_serve P.2.1 t (mn_k P t s).2.2.1 (mn_w P t s) (mn_l P t s) else (none, (mn_k P t s).2.2.1, mn_w P t s, mn_l P t s)
def mn (P : PL) (t : Nat) (s : ES) : ES := (mn_h P t s, (mn_v P t s).2.2.1, (mn_v P t s).2.1, s.2.2.2.1 + (if mn_s P t s = true then 1 else 0), sp_loseG t 8 (mn_v P t s).2.2.2)
def ls0 : LS9 := ([], fun _ => 0, fun _ => 0, fun _ => 0, fun _ => 0)
def stt (P : PL) : Nat → ES
  | 0 => (0, P.2.2.2.1, P.2.2.2.2.1, 0, ls0)
  | t + 1 => mn P t (stt P t)
def okS (P : PL) (t : Nat) (s : ES) : Prop := s.1 ≤ 100 ∧ s.2.1 ≤ 30 ∧ s.2.2.1 ≤ 40 ∧ s.2.2.2.1 ≤ t ∧ ok9 P.2.1 t s.2.2.2.2
theorem sp_ev_ok {t : Nat} {sk : Nat → Bool} : ∀ (es : List T3) (k : Nat) (s : KS), okK s → okK (sp_ev t sk es k s)
  | [], _, _, h => h
  | x :: es, k, s, h => by
    rw [sp_ev]
    apply sp_ev_ok es (k + 1)
    split
    · exact sp_e1_ok h
    · exact h
theorem ok9.join {gs : List T3} {t t0 k : Nat} {s : LS9} (h : ok9 gs t s) (ht0 : t0 < 24) (hk : k < gs.length) (hk8 : gs.length ≤ 8) (hs : ¬ s.2.1 k = 1) (hs3 : ¬ s.2.1 k = 3) (hc : ∀ x, gs[k]? = some x → x.1 < t) : ok9 gs t (sp_join t0 k s) := by
  obtain ⟨h1, h2, h3, h4⟩ := h
  refine ⟨h1.join (by omega) ht0 hs, fun j hj => ?_, fun j x hx => ?_, fun j hj => ?_⟩
  · rcases List.mem_append.mp hj with z | z
    · exact h2 j z
    · rw [List.mem_singleton] at z
      omega
  · show (t ≤ x.1 → up s.2.1 k 1 j = 0) ∧ (up s.2.1 k 1 j = 3 → s.2.2.1 j = x.2.2) ∧ (¬ up s.2.1 k 1 j = 3 → s.2.2.1 j < x.2.2)
    by_cases hjk : j = k
    · subst hjk
      rw [up_s]
      have := hc x hx
      exact ⟨fun z => by omega, fun z => by omega, fun _ => (h3 j x hx).2.2 hs3⟩
    · rw [up_n _ _ hjk]
      exact h3 j x hx
  · show up s.2.1 k 1 j = 0 ∧ s.2.2.1 j = 0
    rw [up_n _ _ (by omega)]
    exact h4 j hj
theorem ok9.come2 {gs : List T3} {t : Nat} (ht : t < 24) (h8 : gs.length ≤ 8) : ∀ (l : List T3) (k : Nat) (s : LS9), k + l.length = gs.length → ok9 gs (t + 1) s → (∀ j x, gs[j]? = some x → s.2.1 j = 2 → x.1 < t + 1) → ok9 gs (t + 1) (sp_come2 t l k s)
  | [], _, _, _, h, _ => h
  | y :: l, k, s, hk, h, hc => by
    have hk : k + (l.length + 1) = gs.length := hk
    rw [sp_come2]
    by_cases c : s.2.1 k = 2 ∧ s.2.2.2.2 k = t
    · rw [if_pos c]
      refine ok9.come2 ht h8 l (k + 1) _ (by omega) (h.join ht (by omega) h8 (by omega) (by omega) (fun x hx => hc k x hx c.1)) (fun j x hx hj => ?_)
      have hj : up s.2.1 k 1 j = 2 := hj
      by_cases hjk : j = k
      · subst hjk
        rw [up_s] at hj
        omega
      · rw [up_n _ _ hjk] at hj
        exact hc j x hx hj
    · rw [if_neg c]
      exact ok9.come2 ht h8 l (k + 1) s (by omega) h hc
/-- as ok9 before the minute t, the first k guests having come -/
theorem come1_ok {gs : List T3} {t : Nat} (ht : t < 24) (h8 : gs.length ≤ 8) : ∀ (l : List T3) (k : Nat) (s : LS9), gs.drop k = l → ok9 gs (t + 1) s → (∀ j x, k ≤ j → gs[j]? = some x → x.1 = t → s.2.1 j = 0) → ok9 gs (t + 1) (sp_come1 t l k s)
  | [], _, _, _, h, _ => h
  | y :: l, k, s, hd, h, hc => by
    have hlt : k < gs.length := by
      have := congrArg List.length hd
      rw [List.length_drop, List.length_cons] at this
      omega
    have hy : gs[k]? = some y := by
      rw [← Nat.add_zero k, ← List.getElem?_drop, hd]
      rfl
    have hl : gs.drop (k + 1) = l := by
      rw [← List.drop_drop, hd]
      rfl
    rw [sp_come1]
    by_cases c : y.1 = t
    · rw [if_pos c]
      have hz := hc k y (Nat.le_refl _) hy c
      refine come1_ok ht h8 l (k + 1) _ hl (h.join ht hlt h8 (by omega) (by omega) (fun x hx => by rw [hy] at hx; cases hx; omega)) (fun j x hj hx hxt => ?_)
      rw [sp_join_other (by omega)]
      exact hc j x (by omega) hx hxt
    · rw [if_neg c]
      exact come1_ok ht h8 l (k + 1) s hl h (fun j x hj => hc j x (by omega))
theorem ok9.wk {gs : List T3} {t : Nat} {s : LS9} (h : ok9 gs t s) : ok9 gs (t + 1) s := ⟨h.1, h.2.1, fun k x hx => ⟨fun z => (h.2.2.1 k x hx).1 (by omega), (h.2.2.1 k x hx).2⟩, h.2.2.2⟩
theorem ok9.mnl {P : PL} {t : Nat} {s : ES} (hp : okP P) (ht : t < 24) (h : ok9 P.2.1 t s.2.2.2.2) : ok9 P.2.1 (t + 1) (mn_l P t s) := by
  have h8 := hp.2.1.1
  have h1 := come1_ok ht h8 P.2.1 0 s.2.2.2.2 (List.drop_zero) h.wk (fun j x _ hx hxt => (h.2.2.1 j x hx).1 (by omega))
  refine ok9.come2 ht h8 P.2.1 0 _ (by omega) h1 (fun j x hx hj => ?_)
  by_cases c : x.1 < t + 1
  · exact c
  · have := (h1.2.2.1 j x hx).1 (by omega)
    omega
theorem ok9.serve {gs : List T3} {t t0 br wa : Nat} {s : LS9} (h8 : gs.length ≤ 8) (h : ok9 gs t s) : ok9 gs t (sp_serve gs t0 br wa s).2.2.2 := by
  unfold sp_serve
  split
  · exact h
  · rename_i k hk
    obtain ⟨h1, h2, h3, h4⟩ := h
    have hm := List.mem_of_find?_eq_some hk
    have hkl := h2 k hm
    have hs := (h1.2.2.1 k (h1.2.1 k hm)).mpr hm
    show ok9 gs t (sp_srv gs t0 k s)
    obtain ⟨v, hv⟩ : ∃ v, v = (if s.2.2.1 k + 1 = al gs k then 3 else 2) := ⟨_, rfl⟩
    have hsp : sp_srv gs t0 k s = (s.1.erase k, up s.2.1 k v, up s.2.2.1 k (s.2.2.1 k + 1), s.2.2.2.1, up s.2.2.2.2 k (t0 + 3 + dk gs k)) := by unfold sp_srv; rw [← hv]
    rw [hsp]
    have hv3 : v ≤ 3 ∧ 2 ≤ v := by rw [hv]; split <;> omega
    refine ⟨h1.out (by omega) (by omega), fun j hj => h2 j (List.mem_of_mem_erase hj), fun j x hx => ?_, fun j hj => ?_⟩
    · show (t ≤ x.1 → up s.2.1 k v j = 0) ∧ (up s.2.1 k v j = 3 → up s.2.2.1 k (s.2.2.1 k + 1) j = x.2.2) ∧ (¬ up s.2.1 k v j = 3 → up s.2.2.1 k (s.2.2.1 k + 1) j < x.2.2)
      by_cases hjk : j = k
      · subst hjk
        rw [up_s, up_s]
        have h5 := h3 j x hx
        have h6 := h5.2.2 (by omega)
        have h7 := al_at hx
        rw [h7] at hv
        refine ⟨fun z => by have := h5.1 z; omega, fun z => ?_, fun z => ?_⟩
        · by_cases c : s.2.2.1 j + 1 = x.2.2
          · exact c
          · rw [if_neg c] at hv
            omega
        · by_cases c : s.2.2.1 j + 1 = x.2.2
          · rw [if_pos c] at hv
            omega
          · omega
      · rw [up_n _ _ hjk, up_n _ _ hjk]
        exact h3 j x hx
    · show up s.2.1 k v j = 0 ∧ up s.2.2.1 k (s.2.2.1 k + 1) j = 0
      rw [up_n _ _ (by omega), up_n _ _ (by omega)]
      exact h4 j hj
theorem ok9.lose {gs : List T3} {t t0 : Nat} {s : LS9} (h : ok9 gs t s) : ok9 gs t (sp_loseG t0 8 s) := by
  obtain ⟨h1, h2, h3, h4⟩ := h
  refine ⟨h1.lose, fun j hj => h2 j (List.mem_filter.mp hj).1, fun j x hx => ?_, fun j hj => ?_⟩
  · show (t ≤ x.1 → (if j < 8 ∧ s.2.1 j = 1 ∧ imp t0 s j = true then 4 else s.2.1 j) = 0) ∧ ((if j < 8 ∧ s.2.1 j = 1 ∧ imp t0 s j = true then 4 else s.2.1 j) = 3 → s.2.2.1 j = x.2.2) ∧ (¬ (if j < 8 ∧ s.2.1 j = 1 ∧ imp t0 s j = true then 4 else s.2.1 j) = 3 → s.2.2.1 j < x.2.2)
    have h5 := h3 j x hx
    by_cases c : j < 8 ∧ s.2.1 j = 1 ∧ imp t0 s j = true
    · rw [if_pos c]
      exact ⟨fun z => by have := h5.1 z; omega, fun z => by omega, fun _ => h5.2.2 (by omega)⟩
    · rw [if_neg c]
      exact h5
  · show (if j < 8 ∧ s.2.1 j = 1 ∧ imp t0 s j = true then 4 else s.2.1 j) = 0 ∧ s.2.2.1 j = 0
    have h5 := h4 j hj
    rw [if_neg (by omega)]
    exact h5
theorem mn_kok {P : PL} {t : Nat} {s : ES} (h : okS P t s) : okK (mn_k P t s) := sp_ev_ok _ _ _ ⟨h.1, h.2.1, h.2.2.1⟩
theorem mn_w_le {P : PL} {t : Nat} {s : ES} (h : okS P t s) : mn_w P t s ≤ 30 := by
  have := (mn_kok h).2.1
  unfold mn_w
  split <;> omega
theorem mn_f_le {P : PL} {t : Nat} {s : ES} (hp : okP P) : mn_f P t s ≤ 192 := by
  have h1 := sp_fire_le (t := t) hp.1 P.1.length
  have h2 := hp.1.1
  unfold mn_f
  split <;> omega
theorem mn_vok {P : PL} {t : Nat} {s : ES} (hp : okP P) (ht : t < 24) (h : okS P t s) : (mn_v P t s).2.1 ≤ 40 ∧ (mn_v P t s).2.2.1 ≤ 30 ∧ ok9 P.2.1 (t + 1) (mn_v P t s).2.2.2 := by
  have h1 := ok9.mnl hp ht h.2.2.2.2
  have h2 := mn_w_le h
  have h3 := (mn_kok h).2.2
  unfold mn_v
  split
  · refine ⟨?_, ?_, h1.serve hp.2.1.1⟩
    · unfold sp_serve
      split
      · exact h3
      · show _ - _ ≤ _
        omega
    · unfold sp_serve
      split
      · exact h2
      · show _ - _ ≤ _
        omega
  · exact ⟨h3, h2, h1⟩
theorem mn_ok {P : PL} {t : Nat} {s : ES} (hp : okP P) (ht : t < 24) (h : okS P t s) : okS P (t + 1) (mn P t s) := by
  obtain ⟨a, b, c⟩ := mn_vok hp ht h
  refine ⟨Nat.min_le_left _ _, b, a, ?_, c.lose⟩
  show s.2.2.2.1 + _ ≤ t + 1
  have := h.2.2.2.1
  split <;> omega
theorem ok9_0 {gs : List T3} (hg : okE gs 2 1 4) : ok9 gs 0 ls0 := by
  refine ⟨⟨List.nodup_nil, fun k hk => (by cases hk), fun k _ => ⟨fun z => ?_, fun z => (by cases z)⟩, fun k _ => ⟨(by show (0 : Nat) ≤ 4; omega), (by show (0 : Nat) ≤ 24; omega)⟩⟩, fun k hk => (by cases hk), fun k x hx => ⟨fun _ => rfl, fun z => ?_, fun _ => ?_⟩, fun _ _ => ⟨rfl, rfl⟩⟩
  · have z : (0 : Nat) = 1 := z
    omega
  · have z : (0 : Nat) = 3 := z
    omega
  · have := (hg.2 x (List.mem_of_getElem? hx)).2.2.1
    show (0 : Nat) < x.2.2
    omega
theorem stt_ok {P : PL} (hp : okP P) : ∀ t, t ≤ 24 → okS P t (stt P t)
  | 0, _ => ⟨Nat.zero_le _, hp.2.2.2.1, hp.2.2.2.2, Nat.le_refl _, ok9_0 hp.2.1⟩
  | t + 1, h => mn_ok hp (by omega) (stt_ok hp t (by omega))
