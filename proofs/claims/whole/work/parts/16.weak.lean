/-! more variables, in another order -/
def am_sub : LV → LV → Prop
  | [], _ => True
  | q :: l, lv => am_get lv q.1 = some q.2 ∧ am_sub l lv
def am_has (l : LV) (i : Nat) : Bool := match l with
  | [] => false
  | q :: l => Nat.beq q.1 i || am_has l i
def am_nk : LV → Bool
  | [] => true
  | q :: l => !(am_has l q.1) && am_nk l
def am_le (lv lv' : LV) : Prop := ∀ (i : Nat) (v : Value), am_get lv i = some v → am_get lv' i = some v
theorem am_sub_le : ∀ {lv lv' : LV}, am_sub lv lv' → am_le lv lv'
  | [], _, _ => fun _ _ h => by cases h
  | q :: l, lv', hs => by
    intro i v hv
    unfold am_get at hv
    cases hq : Nat.beq q.1 i with
    | true =>
      rw [hq] at hv
      cases hv
      rw [← Nat.eq_of_beq_eq_true hq]
      exact hs.1
    | false =>
      rw [hq] at hv
      exact am_sub_le hs.2 i v hv
theorem am_has_get : ∀ {l : LV} {i : Nat}, am_has l i = false → am_get l i = none
  | [], _, _ => rfl
  | q :: l, i, h => by
    rw [am_has, Bool.or_eq_false_iff] at h
    rw [am_get, h.1]
    exact am_has_get h.2
theorem am_has_filter {f : Nat × Value → Bool} : ∀ {l : LV} {i : Nat}, am_has l i = false → am_has (l.filter f) i = false
  | [], _, _ => rfl
  | q :: l, i, h => by
    rw [am_has, Bool.or_eq_false_iff] at h
    rw [List.filter_cons]
    split
    · rw [am_has, Bool.or_eq_false_iff]
      exact ⟨h.1, am_has_filter h.2⟩
    · exact am_has_filter h.2
theorem am_nk_filter {f : Nat × Value → Bool} : ∀ {l : LV}, am_nk l = true → am_nk (l.filter f) = true
  | [], _ => rfl
  | q :: l, h => by
    rw [am_nk, Bool.and_eq_true, Bool.not_eq_true'] at h
    rw [List.filter_cons]
    split
    · rw [am_nk, Bool.and_eq_true, Bool.not_eq_true']
      exact ⟨am_has_filter h.1, am_nk_filter h.2⟩
    · exact am_nk_filter h.2
theorem am_get_filter {f : Nat × Value → Bool} : ∀ {l : LV} {i : Nat}, am_nk l = true → am_get (l.filter f) i = (am_get l i).bind (fun v => if f (i, v) = true then some v else none)
  | [], _, _ => rfl
  | (j, w) :: l, i, h => by
    rw [am_nk, Bool.and_eq_true, Bool.not_eq_true'] at h
    rw [List.filter_cons]
    cases hq : Nat.beq j i with
    | true =>
      have hji := Nat.eq_of_beq_eq_true hq
      subst hji
      split
      · rename_i hf
        rw [am_get, am_get, hq]
        show some w = (if f (j, w) = true then some w else none)
        rw [if_pos hf]
      · rename_i hf
        rw [am_get_filter h.2, am_has_get h.1, am_get, hq]
        show none = (if f (j, w) = true then some w else none)
        rw [if_neg hf]
    | false =>
      split
      · rw [am_get, am_get, hq]
        exact am_get_filter h.2
      · rw [am_get, hq]
        exact am_get_filter h.2
theorem am_has_self {f : Nat × Value → Bool} {i : Nat} (hf : ∀ v, f (i, v) = false) : ∀ (l : LV), am_has (l.filter f) i = false
  | [] => rfl
  | (j, w) :: l => by
    rw [List.filter_cons]
    split
    · rename_i hj
      rw [am_has, Bool.or_eq_false_iff]
      refine ⟨?_, am_has_self hf l⟩
      cases hq : Nat.beq j i with
      | true =>
        have hji := Nat.eq_of_beq_eq_true hq
        subst hji
        rw [hf w] at hj
        cases hj
      | false => rfl
    · exact am_has_self hf l
/-- storing keeps it -/
theorem am_le_st {f : Nat × Value → Bool} {i : Nat} {v : Value} {lv lv' : LV} (hf : ∀ v, f (i, v) = false) (hle : am_le lv lv') (h1 : am_nk lv = true) (h2 : am_nk lv' = true) : am_le ((i, v) :: lv.filter f) ((i, v) :: lv'.filter f) ∧ am_nk ((i, v) :: lv.filter f) = true ∧ am_nk ((i, v) :: lv'.filter f) = true := by
  refine ⟨fun j w hw => ?_, ?_, ?_⟩
  · unfold am_get at hw ⊢
    cases hq : Nat.beq i j with
    | true =>
      rw [hq] at hw
      exact hw
    | false =>
      simp only [hq, cond_false] at hw ⊢
      rw [am_get_filter h1] at hw
      rw [am_get_filter h2]
      cases hg : am_get lv j with
      | none => rw [hg] at hw; cases hw
      | some u =>
        rw [hg] at hw
        rw [hle j u hg]
        exact hw
  · rw [am_nk, Bool.and_eq_true, Bool.not_eq_true']
    exact ⟨am_has_self hf lv, am_nk_filter h1⟩
  · rw [am_nk, Bool.and_eq_true, Bool.not_eq_true']
    exact ⟨am_has_self hf lv', am_nk_filter h2⟩
/-- what a step does with more variables -/
def am_rel (lv' : LV) : ACT → ACT → Prop
  | .inl B, .inl B' => B.1 = B'.1 ∧ B.2.2 = B'.2.2 ∧ am_le B.2.1 B'.2.1 ∧ am_nk B.2.1 = true ∧ am_nk B'.2.1 = true
  | .inr a, .inr b => a = b
  | _, _ => False
section AMV
variable {sc : Option (Nat × (Nat → Int32))} {R : MR} {pc : Nat} {lv lv' : LV} {st : List Value} {h : AH} {a : ACT}
theorem am_w_load {pv : Value → Bool} {pc' i : Nat} (hle : am_le lv lv') (h1 : am_nk lv = true) (h2 : am_nk lv' = true) (he : am_load pv pc' lv st h i = some a) : ∃ a', am_load pv pc' lv' st h i = some a' ∧ am_rel lv' a a' := by
  unfold am_load at he ⊢
  split at he
  · rename_i v hv
    obtain ⟨hb, he⟩ := am_bifW he
    cases he
    rw [hle i v hv]
    try dsimp only
    rw [hb]
    exact ⟨_, rfl, rfl, rfl, hle, h1, h2⟩
  · cases he
theorem am_w_store {pv : Value → Bool} {L pc' i : Nat} (hle : am_le lv lv') (h1 : am_nk lv = true) (h2 : am_nk lv' = true) (he : am_store pv L pc' lv st h i = some a) : ∃ a', am_store pv L pc' lv' st h i = some a' ∧ am_rel lv' a a' := by
  unfold am_store at he ⊢
  split at he
  · rename_i v r
    obtain ⟨hb, he⟩ := am_bifW he
    cases he
    try dsimp only
    rw [hb]
    have q := am_le_st (f := fun q => !(q.1 == i) && !(q.1 + 1 == i && q.2.category == 2)) (i := i) (v := v) (fun _ => by simp) hle h1 h2
    exact ⟨_, rfl, rfl, rfl, q⟩
  · cases he
theorem am_w_storeL {L pc' i : Nat} (hle : am_le lv lv') (h1 : am_nk lv = true) (h2 : am_nk lv' = true) (he : am_storeL L pc' lv st h i = some a) : ∃ a', am_storeL L pc' lv' st h i = some a' ∧ am_rel lv' a a' := by
  unfold am_storeL at he ⊢
  split at he
  · rename_i v r
    obtain ⟨hb, he⟩ := am_bifW he
    cases he
    try dsimp only
    rw [hb]
    have q := am_le_st (f := fun q => !(q.1 == i) && (!(q.1 == i + 1) && !(q.1 + 1 == i && q.2.category == 2))) (i := i) (v := v) (fun _ => by simp) hle h1 h2
    exact ⟨_, rfl, rfl, rfl, q⟩
  · cases he
set_option maxHeartbeats 8000000 in
theorem am_w_exec {i : Jvm.ClassFile.Instr} {tg : Nat} {ex : List Nat} {sw : List (Int32 × Nat)} {lg : Int64} (hle : am_le lv lv') (h1 : am_nk lv = true) (h2 : am_nk lv' = true) (he : am_exec sc R pc i tg ex sw lg lv st h = some a) : ∃ a', am_exec sc R pc i tg ex sw lg lv' st h = some a' ∧ am_rel lv' a a' := by
  cases i with
  | iload_n k => exact am_w_load hle h1 h2 he
  | iload k => exact am_w_load hle h1 h2 he
  | lload_n k => exact am_w_load hle h1 h2 he
  | lload k => exact am_w_load hle h1 h2 he
  | aload_n k => exact am_w_load hle h1 h2 he
  | aload k => exact am_w_load hle h1 h2 he
  | istore_n k => exact am_w_store hle h1 h2 he
  | istore k => exact am_w_store hle h1 h2 he
  | astore_n k => exact am_w_store hle h1 h2 he
  | astore k => exact am_w_store hle h1 h2 he
  | lstore_n k => exact am_w_storeL hle h1 h2 he
  | lstore k => exact am_w_storeL hle h1 h2 he
  | iinc z z2 =>
    unfold am_exec at he ⊢
    dsimp only at he ⊢
    split at he
    · rename_i x q sw hg
      obtain ⟨hb, he⟩ := am_bifW he
      cases he
      rw [hle z _ hg]
      try dsimp only
      rw [hb]
      have q := am_le_st (f := fun q => !(q.1 == z) && !(q.1 + 1 == z && q.2.category == 2)) (i := z) (v := .int (x + q.1)) (fun _ => by simp) hle h1 h2
      exact ⟨_, rfl, rfl, rfl, q⟩
    · cases he
  | invokestatic idx =>
    unfold am_exec at he ⊢
    dsimp only at he ⊢
    split at he
    · refine ⟨a, he, ?_⟩
      unfold am_callS at he
      split at he
      · obtain ⟨hb, he⟩ := am_bifW he
        cases he
        exact rfl
      · cases he
    · unfold am_copy at he ⊢
      split at he
      · split at he
        · rename_i g1 g2
          obtain ⟨hb, he⟩ := am_bifW he
          obtain ⟨hc, he⟩ := am_bifW he
          cases he
          try dsimp only
          try rw [g1, g2]
          try dsimp only
          rw [hb, hc]
          exact ⟨_, rfl, rfl, rfl, hle, h1, h2⟩
        · cases he
      · cases he
    · unfold am_mm at he ⊢
      split at he
      · obtain ⟨hb, he⟩ := am_bifW he
        cases he
        try dsimp only
        rw [hb]
        exact ⟨_, rfl, rfl, rfl, hle, h1, h2⟩
      · cases he
    · unfold am_mm at he ⊢
      split at he
      · obtain ⟨hb, he⟩ := am_bifW he
        cases he
        try dsimp only
        rw [hb]
        exact ⟨_, rfl, rfl, rfl, hle, h1, h2⟩
      · cases he
    · cases he
  | invokevirtual idx =>
    replace he : am_callV R idx st = some a := he
    refine ⟨a, he, ?_⟩
    unfold am_callV at he
    split at he
    · split at he
      · obtain ⟨hb, he⟩ := am_bifW he
        cases he
        exact rfl
      · cases he
    · cases he
  | iaload =>
    unfold am_exec at he ⊢
    dsimp only at he ⊢
    split at he
    · split at he
      · rename_i hq
        obtain ⟨hb, he⟩ := am_bifW he
        cases he
        try dsimp only
        try rw [hq]
        try dsimp only
        rw [hb]
        exact ⟨_, rfl, rfl, rfl, hle, h1, h2⟩
      · cases he
    · cases he
  | baload =>
    unfold am_exec at he ⊢
    dsimp only at he ⊢
    split at he
    · split at he
      · rename_i hq
        obtain ⟨hb, he⟩ := am_bifW he
        cases he
        try dsimp only
        try rw [hq]
        try dsimp only
        rw [hb]
        exact ⟨_, rfl, rfl, rfl, hle, h1, h2⟩
      · cases he
    · cases he
  | laload =>
    unfold am_exec at he ⊢
    dsimp only at he ⊢
    split at he
    · split at he
      · rename_i hq
        obtain ⟨hb, he⟩ := am_bifW he
        cases he
        try dsimp only
        try rw [hq]
        try dsimp only
        rw [hb]
        exact ⟨_, rfl, rfl, rfl, hle, h1, h2⟩
      · cases he
    · cases he
  | iastore =>
    unfold am_exec at he ⊢
    dsimp only at he ⊢
    split at he
    · split at he
      · rename_i hq
        obtain ⟨hb, he⟩ := am_bifW he
        cases he
        try dsimp only
        try rw [hq]
        try dsimp only
        rw [hb]
        exact ⟨_, rfl, rfl, rfl, hle, h1, h2⟩
      · cases he
    · cases he
  | bastore =>
    unfold am_exec at he ⊢
    dsimp only at he ⊢
    split at he
    · split at he
      · rename_i hq
        obtain ⟨hb, he⟩ := am_bifW he
        cases he
        try dsimp only
        try rw [hq]
        try dsimp only
        rw [hb]
        exact ⟨_, rfl, rfl, rfl, hle, h1, h2⟩
      · cases he
    · cases he
  | lastore =>
    unfold am_exec at he ⊢
    dsimp only at he ⊢
    split at he
    · split at he
      · rename_i hq
        obtain ⟨hb, he⟩ := am_bifW he
        cases he
        try dsimp only
        try rw [hq]
        try dsimp only
        rw [hb]
        exact ⟨_, rfl, rfl, rfl, hle, h1, h2⟩
      · cases he
    · cases he
  | arraylength =>
    unfold am_exec at he ⊢
    dsimp only at he ⊢
    split at he
    · split at he
      · rename_i hq
        cases he
        try dsimp only
        try rw [hq]
        exact ⟨_, rfl, rfl, rfl, hle, h1, h2⟩
      · cases he
    · cases he
  | getfield z =>
    unfold am_exec at he ⊢
    dsimp only at he ⊢
    split at he
    · split at he
      · rename_i hq
        cases he
        try dsimp only
        try rw [hq]
        exact ⟨_, rfl, rfl, rfl, hle, h1, h2⟩
      · cases he
    · cases he
  | putfield z =>
    unfold am_exec at he ⊢
    dsimp only at he ⊢
    split at he
    · obtain ⟨hb, he⟩ := am_bifW he
      cases he
      try dsimp only
      rw [hb]
      exact ⟨_, rfl, rfl, rfl, hle, h1, h2⟩
    · cases he
  | dup =>
    unfold am_exec at he ⊢
    dsimp only at he ⊢
    split at he
    · obtain ⟨hb, he⟩ := am_bifW he
      cases he
      try dsimp only
      rw [hb]
      exact ⟨_, rfl, rfl, rfl, hle, h1, h2⟩
    · cases he
  | dup2 =>
    unfold am_exec at he ⊢
    dsimp only at he ⊢
    split at he
    · obtain ⟨hb, he⟩ := am_bifW he
      cases he
      try dsimp only
      rw [hb]
      exact ⟨_, rfl, rfl, rfl, hle, h1, h2⟩
    · cases he
  | ireturn =>
    unfold am_exec at he ⊢
    dsimp only at he ⊢
    split at he
    · obtain ⟨hb, he⟩ := am_bifW he
      cases he
      try dsimp only
      rw [hb]
      exact ⟨_, rfl, rfl⟩
    · cases he
  | lreturn =>
    unfold am_exec at he ⊢
    dsimp only at he ⊢
    split at he
    · obtain ⟨hb, he⟩ := am_bifW he
      cases he
      try dsimp only
      rw [hb]
      exact ⟨_, rfl, rfl⟩
    · cases he
  | areturn =>
    unfold am_exec at he ⊢
    dsimp only at he ⊢
    split at he
    · obtain ⟨hb, he⟩ := am_bifW he
      cases he
      try dsimp only
      rw [hb]
      exact ⟨_, rfl, rfl⟩
    · cases he
  | return_ =>
    unfold am_exec at he ⊢
    dsimp only at he ⊢
    split at he
    · obtain ⟨hb, he⟩ := am_bifW he
      cases he
      try dsimp only
      rw [hb]
      exact ⟨_, rfl, rfl⟩
    · cases he
  | idiv =>
    unfold am_exec at he ⊢
    dsimp only at he ⊢
    split at he
    · split at he
      · cases he
      · rename_i hy
        cases he
        try dsimp only
        rw [if_neg hy]
        exact ⟨_, rfl, rfl, rfl, hle, h1, h2⟩
    · cases he
  | irem =>
    unfold am_exec at he ⊢
    dsimp only at he ⊢
    split at he
    · split at he
      · cases he
      · rename_i hy
        cases he
        try dsimp only
        rw [if_neg hy]
        exact ⟨_, rfl, rfl, rfl, hle, h1, h2⟩
    · cases he
  | ldiv =>
    unfold am_exec at he ⊢
    dsimp only at he ⊢
    split at he
    · split at he
      · cases he
      · rename_i hy
        cases he
        try dsimp only
        rw [if_neg hy]
        exact ⟨_, rfl, rfl, rfl, hle, h1, h2⟩
    · cases he
  | lrem =>
    unfold am_exec at he ⊢
    dsimp only at he ⊢
    split at he
    · split at he
      · cases he
      · rename_i hy
        cases he
        try dsimp only
        rw [if_neg hy]
        exact ⟨_, rfl, rfl, rfl, hle, h1, h2⟩
    · cases he
  | _ =>
    first
    | exact (am_no he).elim
    | (unfold am_exec at he ⊢
       dsimp only at he ⊢
       (try unfold am_ii at he ⊢)
       (try unfold am_ll at he ⊢)
       repeat' (first
         | exact (am_no he).elim
         | (cases he; exact ⟨_, rfl, rfl, rfl, hle, h1, h2⟩)
         | (split at he)))
end AMV
/-- the same run with more variables -/
theorem am_run_weak : ∀ (n : Nat) (sc : Option (Nat × (Nat → Int32))) (R : MR) (pc : Nat) (lv lv' : LV) (st : List Value) (h : AH) (o : Option Value × AH), am_le lv lv' → am_nk lv = true → am_nk lv' = true → am_run n sc R (pc, lv, st, h) = some o → am_run n sc R (pc, lv', st, h) = some o
  | 0, _, _, _, _, _, _, _, _, _, _, _, hr => by cases hr
  | n + 1, sc, R, pc, lv, lv', st, h, o, hle, h1, h2, hr => by
    have key : ∀ a, am_step sc R (pc, lv, st, h) = some a → ∃ a', am_step sc R (pc, lv', st, h) = some a' ∧ am_rel lv' a a' := by
      intro a ha
      unfold am_step at ha ⊢
      dsimp only at ha ⊢
      cases hq : am_row (mr_c R) pc with
      | none => rw [hq] at ha; cases ha
      | some q =>
        rw [hq] at ha
        exact am_w_exec hle h1 h2 ha
    rw [am_run] at hr ⊢
    split at hr
    · rename_i B hB
      obtain ⟨a', g1, g2⟩ := key _ hB
      rw [g1]
      cases a' with
      | inl B' =>
        obtain ⟨e1, e2, e3, e4, e5⟩ := g2
        obtain ⟨b1, b2, b3, b4⟩ := B
        obtain ⟨c1, c2, c3, c4⟩ := B'
        dsimp only at e1 e2 e3 e4 e5
        subst e1
        cases e2
        exact am_run_weak n sc R _ _ _ _ _ o e3 e4 e5 hr
      | inr _ => exact g2.elim
    · rename_i v hB
      obtain ⟨a', g1, g2⟩ := key _ hB
      rw [g1]
      cases a' with
      | inl _ => exact g2.elim
      | inr b =>
        have g2 : Sum.inl v = b := g2
        subst g2
        exact hr
    · rename_i q hB
      obtain ⟨a', g1, g2⟩ := key _ hB
      rw [g1]
      cases a' with
      | inl _ => exact g2.elim
      | inr b =>
        have g2 : Sum.inr q = b := g2
        subst g2
        dsimp only at hr ⊢
        split at hr
        · rename_i w hw
          try rw [hw]
          exact am_run_weak n sc R _ _ _ _ _ o hle h1 h2 hr
        · cases hr
    · cases hr
theorem Ev.lv {sc : Option (Nat × (Nat → Int32))} {R : MR} {pc : Nat} {lv lv' : LV} {st : List Value} {h h' : AH} {v : Option Value} (hs : am_sub lv lv') (h1 : am_nk lv = true) (h2 : am_nk lv' = true) (k : Ev sc R (pc, lv, st, h) v h') : Ev sc R (pc, lv', st, h) v h' := by
  obtain ⟨n, hn⟩ := k
  exact ⟨n, am_run_weak n sc R pc lv lv' st h _ (am_sub_le hs) h1 h2 hn⟩
