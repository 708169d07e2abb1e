/-! Company.losePatience -/
def imp (t : Nat) (s : LS9) (j : Nat) : Bool := decide (s.2.2.2.1 j + 5 ≤ t)
def sp_loseG (t g : Nat) (s : LS9) : LS9 := (s.1.filter (fun j => !(decide (j < g) && imp t s j)), fun j => if j < g ∧ s.2.1 j = 1 ∧ imp t s j = true then 4 else s.2.1 j, s.2.2.1, s.2.2.2.1, s.2.2.2.2)
theorem lose_0 (t : Nat) (s : LS9) : sp_loseG t 0 s = s := by
  have e : s.1.filter (fun j => !(decide (j < 0) && imp t s j)) = s.1 := List.filter_eq_self.mpr (by simp)
  unfold sp_loseG
  rw [e]
  simp
theorem lose_yes {t g : Nat} {s : LS9} (hnd : s.1.Nodup) (h1 : s.2.1 g = 1) (h2 : imp t s g = true) : sp_loseG t (g + 1) s = ((sp_loseG t g s).1.erase g, up (sp_loseG t g s).2.1 g 4, s.2.2.1, s.2.2.2.1, s.2.2.2.2) := by
  unfold sp_loseG
  congr 1
  · show _ = (s.1.filter _).erase g
    rw [List.Nodup.erase_eq_filter (hnd.filter _), List.filter_filter]
    apply List.filter_congr
    intro j hj
    by_cases hjg : j = g
    · subst hjg
      simp [h2]
    · simp [hjg, show (j < g + 1) = (j < g) by apply propext; omega]
  · congr 1
    funext j
    show _ = up _ g 4 j
    by_cases hjg : j = g
    · subst hjg
      rw [up_s, if_pos ⟨by omega, h1, h2⟩]
    · rw [up_n _ _ hjg]
      simp only [show (j < g + 1) = (j < g) by apply propext; omega]
theorem lose_no {t g : Nat} {s : LS9} (h3 : g ∈ s.1 → s.2.1 g = 1) (h : ¬ (s.2.1 g = 1 ∧ imp t s g = true)) : sp_loseG t (g + 1) s = sp_loseG t g s := by
  unfold sp_loseG
  congr 1
  · apply List.filter_congr
    intro j hj
    by_cases hjg : j = g
    · subst hjg
      have : imp t s j = false := by
        cases hi : imp t s j
        · rfl
        · exact absurd ⟨h3 hj, hi⟩ h
      simp [this]
    · simp [show (j < g + 1) = (j < g) by apply propext; omega]
  · congr 1
    funext j
    by_cases hjg : j = g
    · subst hjg
      rw [if_neg (fun z => h z.2), if_neg (fun z => h z.2)]
    · simp only [show (j < g + 1) = (j < g) by apply propext; omega]
theorem fr_s.rf {rc rk : Nat} {h : AH} : fr_s rc rk h h := ⟨fun _ _ _ _ => rfl, fun _ _ => rfl, rfl⟩
theorem fr_s.tr {rc rk : Nat} {a b c : AH} (h1 : fr_s rc rk a b) (h2 : fr_s rc rk b c) : fr_s rc rk a c := ⟨fun i k z y => (h2.1 i k z y).trans (h1.1 i k z y), fun i z => (h2.2.1 i z).trans (h1.2.1 i z), h2.2.2.trans h1.2.2⟩
theorem tkR_nd {tk : Nat → Nat} {T : Nat} {line : List Nat} {sta : Nat → Nat} (h : tkR tk T line sta) : line.Nodup := h.1.imp (fun {a b} hab => fun z => by rw [z] at hab; omega)
theorem pat_lt {t a : Nat} (ht : t < 24) (ha : a ≤ 24) : ((nI t - nI a) + 1 < 6) ↔ t < a + 5 := by
  rw [show (1 : Int32) = zI 1 from rfl, show (6 : Int32) = zI 6 from rfl, zI_n, zI_n, zI_sub, zI_add, zI_lt (by omega) (by omega) (by omega) (by omega)]
  omega
set_option maxHeartbeats 4000000 in
theorem c_lose {n rc t T m : Nat} {gs : List T3} {h : AH} {s : LS9} (ht : t < 24) (hc : cm2 h rc gs s T) (hm : 8 < m) :
    ∃ h', L_X0_losePatience_2 n rc m (nI t) 0 h = some h' ∧ cm2 h' rc gs (sp_loseG t 8 s) T ∧ fr_s rc rc h h' := by
  obtain ⟨⟨tk0, sn0, -, -, -, -, -, -, c70, c80⟩, -⟩ := id hc
  have hnd := tkR_nd c70
  obtain ⟨m', q1, h1, e1, e2, e3, e4⟩ := loopV (ρ := Int32) (L := fun m q h => L_X0_losePatience_2 n rc m (nI t) q h) (N := 8) (I := fun g q h1 => q = nI g ∧ cm2 h1 rc gs (sp_loseG t g s) T ∧ fr_s rc rc h h1) (by
    intro m g q1 h1 hg hi
    obtain ⟨i1, i2, i3⟩ := hi
    subst i1
    obtain ⟨⟨tk, sn, c1, c2, c3, c4, c5, c6, c7, c8⟩, g6, g7, g8⟩ := id i2
    obtain ⟨d1, d2, d3, d4⟩ := c8 g hg
    have hz : (sp_loseG t g s).2.1 g = s.2.1 g := if_neg (fun z => absurd z.1 (by omega))
    have hzs : (sp_loseG t g s).2.2.2.1 = s.2.2.2.1 := rfl
    have h3 : g ∈ s.1 → s.2.1 g = 1 := fun z => (c70.2.2 g hg).mpr z
    rw [L_X0_losePatience_2, show (8 : Int32) = nI 8 from rfl, if_neg (nI_ge (by omega) (by omega)), am_inK hg (by omega), nK (by omega), c1 g hg, c3 g hg]
    simp only [cond_true]
    rw [hz] at d1 d3 ⊢
    by_cases cs : s.2.1 g = 1
    · rw [if_pos (by rw [cs]; rfl), d3 cs, hzs]
      have hsg : s.2.2.2.1 g ≤ 24 := by rw [← hzs, ← d3 cs]; exact d2 (Or.inl (hz.trans cs))
      by_cases ct : t < s.2.2.2.1 g + 5
      · rw [if_pos ((pat_lt ht hsg).mpr ct), nI_1]
        have e : sp_loseG t (g + 1) s = sp_loseG t g s := lose_no h3 (fun z => by have := of_decide_eq_true z.2; omega)
        exact ⟨nI (g + 1), h1, rfl, rfl, by rw [e]; exact i2, i3⟩
      · rw [if_neg (fun z => ct ((pat_lt ht hsg).mp z)), nI_1]
        have hi : imp t s g = true := decide_eq_true (by omega)
        have e := lose_yes hnd cs hi
        have hin : g ∈ (sp_loseG t g s).1 := (c7.2.2 g hg).mp (by rw [hz]; exact cs)
        have hlp : 0 < (sp_loseG t g s).1.length := List.length_pos_of_mem hin
        refine ⟨nI (g + 1), _, rfl, rfl, ?_, ?_⟩
        · show cm2 _ _ _ _ _
          rw [e]
          refine ⟨⟨tk, sn, ?_, ?_, ?_, ?_, ?_, ?_, tkR_out c7 (by omega), ?_⟩, ?_, ?_, ?_⟩
          · rw [sf_2, sf_2, sa_s]
            exact upd_nI (x := 4) c1
          · rw [sf_2, sf_2, sa_n _ _ (by omega)]
            exact c2
          · rw [sf_2, sf_2, sa_n _ _ (by omega)]
            exact c3
          · rw [sf_2, sf_2, sa_n _ _ (by omega)]
            exact c4
          · rw [sf_k _ _ (by omega), sf_k _ _ (by omega)]
            exact c5
          · rw [sf_same, c6, show (1 : Int32) = nI 1 from rfl, nI_sub (by omega), List.length_erase_of_mem hin]
          · intro j hj
            obtain ⟨d1, d2, d3, d4⟩ := c8 j hj
            show up (sp_loseG t g s).2.1 g 4 j ≤ 4 ∧ (up (sp_loseG t g s).2.1 g 4 j = 1 ∨ up (sp_loseG t g s).2.1 g 4 j = 2 → sn j ≤ 24) ∧ (up (sp_loseG t g s).2.1 g 4 j = 1 → sn j = s.2.2.2.1 j) ∧ (up (sp_loseG t g s).2.1 g 4 j = 2 → sn j + 3 + dk gs j = s.2.2.2.2 j)
            by_cases hjk : j = g
            · subst hjk
              rw [up_s]
              exact ⟨by omega, fun z => by omega, fun z => by omega, fun z => by omega⟩
            · rw [up_n _ _ hjk]
              exact ⟨d1, d2, d3, d4⟩
          · rw [sf_k _ _ (by omega), sf_k _ _ (by omega)]
            exact g6
          · rw [sf_k _ _ (by omega), sf_k _ _ (by omega), sa_1, g7]
            congr 1
            apply bN_congr
            intro j hj
            show _ = (up (sp_loseG t g s).2.1 g 4 j == 3)
            by_cases hjk : j = g
            · subst hjk
              rw [up_s, hz, cs]
              rfl
            · rw [up_n _ _ hjk]
          · rw [sf_k _ _ (by omega), sf_same, g8, show (1 : Int32) <<< (nI g &&& 31) = nI (2 ^ g) from nI_bit (by omega), nI_or _ _ (by have := bN_lt (fun k => (sp_loseG t g s).2.1 k == 4) 8; omega) (by have : 2 ^ g ≤ 2 ^ 8 := Nat.pow_le_pow_right (by omega) (by omega); omega), bN_or (g := fun j => up (sp_loseG t g s).2.1 g 4 j == 4) hg (by rw [up_s]; rfl) (fun j hj hjk => by rw [up_n _ _ hjk])]
        · refine i3.tr ⟨fun i j z y => ?_, fun i z => ?_, rfl⟩
          · rw [sf_r _ _ _ _ z, sf_r _ _ _ _ z]
            rfl
          · rw [sf_2, sf_2, sa_n _ _ (by omega)]
    · rw [if_neg (by rw [show (1 : Int32) = nI 1 from rfl]; exact kF cs (by omega) (by omega)), nI_1]
      have e : sp_loseG t (g + 1) s = sp_loseG t g s := lose_no h3 (fun z => cs z.1)
      exact ⟨nI (g + 1), h1, rfl, rfl, by rw [e]; exact i2, i3⟩) 8 0 m 0 h (by omega) (by omega) ⟨rfl, by rw [lose_0]; exact hc, fr_s.rf⟩
  subst e2
  rw [e1, L_X0_losePatience_2, show (8 : Int32) = nI 8 from rfl, if_pos (nI_le (Nat.le_refl _) (by omega))]
  exact ⟨h1, rfl, e3, e4⟩
