/-! the law from its entry to its loop -/
def h0 : AH := (fun i k => match bm_fin[i]? with
    | some (.inr q) => (match q.2[k]? with
      | some (.int v) => v
      | _ => 0)
    | _ => 0, fun _ _ => 0, fun _ _ => 0)
def bm_f1 (a : Option (Option Nat)) (b : Option Value) (w : Int32) : Bool := match a, b with
  | some (some j), some (.ref r) => decide (j = r)
  | some none, some (.int v) => decide (v = w)
  | _, _ => false
def bm_mt (i : Nat) (a : SP) (b : BC) : Bool := match a, b with
  | .inl x, .inl y => decide (x = y)
  | .inr x, .inr y => decide (x.1 = y.1) && (decide (x.2.length = y.2.length) && (List.range x.2.length).all (fun k => bm_f1 x.2[k]? y.2[k]? (h0.1 i k)))
  | _, _ => false
def bm_m2 (i : Nat) : Bool := match am_shp[i]?, bm_fin[i]? with
  | some a, some b => bm_mt i a b
  | _, _ => false
theorem bm_m2_ok : (List.range 109).all bm_m2 = true := by decide +kernel
theorem bm_lens : am_shp.length = 109 ∧ bm_fin.length = 109 := by decide +kernel
theorem bm_eq (tc : Nat → ClassId) (ad : Nat → Nat) : bm_W tc ad bm_fin = am_W tc ad h0 := by
  apply List.ext_getElem?
  intro i
  unfold bm_W am_W
  rw [List.getElem?_mapIdx, List.getElem?_mapIdx]
  by_cases hi : i < 109
  · have hc := List.all_eq_true.mp bm_m2_ok i (List.mem_range.mpr hi)
    unfold bm_m2 at hc
    split at hc
    · rename_i a b ha hb
      rw [ha, hb]
      show some _ = some _
      congr 1
      unfold bm_mt at hc
      split at hc
      · rename_i x y
        have hc := of_decide_eq_true hc
        subst hc
        unfold bm_ce am_ce
        rfl
      · rename_i x y
        simp only [Bool.and_eq_true, decide_eq_true_eq] at hc
        obtain ⟨h1, h2, h3⟩ := hc
        have e : y.2.map (am_cv ad) = x.2.mapIdx (am_ff ad h0 i) := by
          apply List.ext_getElem?
          intro k
          rw [List.getElem?_map, List.getElem?_mapIdx]
          by_cases hk : k < x.2.length
          · have h4 := List.all_eq_true.mp h3 k (List.mem_range.mpr hk)
            unfold bm_f1 at h4
            split at h4
            · rename_i j r e1 e2
              rw [e1, e2]
              have h4 := of_decide_eq_true h4
              subst h4
              rfl
            · rename_i v e1 e2
              rw [e1, e2]
              have h4 := of_decide_eq_true h4
              subst h4
              rfl
            · cases h4
          · rw [List.getElem?_eq_none (by omega), List.getElem?_eq_none (by omega)]
            rfl
        unfold bm_ce am_ce
        simp only [e, h1]
      · cases hc
    · cases hc
  · rw [List.getElem?_eq_none (by rw [bm_lens.2]; omega), List.getElem?_eq_none (by rw [bm_lens.1]; omega)]
    rfl
theorem w_law (w : Jvm.Cond) {args : Array Value} {s : State} (hts : ∀ w ∈ lw_tbl, w.before args s = true) (p : Nat) (h : lw_tbl[p]? = some w) : w.before args s = true := hts w (List.mem_of_getElem? h)
theorem w_in0 : lw_tbl[243]? = some (Cond.instantiable RX0 9) := by decide +kernel
theorem w_in1 : lw_tbl[110]? = some (Cond.instantiable RX1 4) := by decide +kernel
theorem w_in2 : lw_tbl[212]? = some (Cond.instantiable RX2 11) := by decide +kernel
theorem w_in3 : lw_tbl[218]? = some (Cond.instantiable RX3 4) := by decide +kernel
theorem w_in4 : lw_tbl[175]? = some (Cond.instantiable RX4 6) := by decide +kernel
theorem w_in5 : lw_tbl[360]? = some (Cond.instantiable RX5 4) := by decide +kernel
theorem w_in6 : lw_tbl[103]? = some (Cond.instantiable RX6 6) := by decide +kernel
theorem w_in7 : lw_tbl[331]? = some (Cond.instantiable RX7 5) := by decide +kernel
theorem w_in8 : lw_tbl[95]? = some (Cond.instantiable RX8 13) := by decide +kernel
theorem w_in9 : lw_tbl[957]? = some (Cond.instantiable RX9 53) := by decide +kernel
theorem w_ar_int : lw_tbl[148]? = some (Cond.arrayClass .int) := by decide +kernel
theorem w_ar_long : lw_tbl[358]? = some (Cond.arrayClass .long) := by decide +kernel
theorem w_ar_boolean : lw_tbl[1122]? = some (Cond.arrayClass .boolean) := by decide +kernel
theorem w_ls0 : lw_tbl[462]? = some (Cond.laysStatic "java/lang/String" "COMPACT_STRINGS" "Z") := by decide +kernel
theorem w_ls1 : lw_tbl[649]? = some (Cond.laysStatic "Samovar" "MINUTES_OF_KIND" "[I") := by decide +kernel
theorem w_ls2 : lw_tbl[652]? = some (Cond.laysStatic "Samovar" "FIRE_OF_KIND" "[I") := by decide +kernel
theorem w_ini0 : lw_tbl[85]? = some (Cond.initialized "java/lang/String") := by decide +kernel
theorem w_ini1 : lw_tbl[75]? = some (Cond.initialized "Samovar") := by decide +kernel
theorem w_sr_kbc : lw_tbl[104]? = some (Cond.stringRef "Samovar" bm_s0 "kbc") := by decide +kernel
theorem w_sr_wd : lw_tbl[171]? = some (Cond.stringRef "Samovar" bm_s1 "wd") := by decide +kernel
theorem w_fn1 : lw_tbl[648]? = some (Cond.fieldLinkNest "Samovar$Evening" am_gm "Samovar" "MINUTES_OF_KIND" "[I" "Samovar") := by decide +kernel
theorem w_fn2 : lw_tbl[651]? = some (Cond.fieldLinkNest "Samovar$Evening" am_gf "Samovar" "FIRE_OF_KIND" "[I" "Samovar") := by decide +kernel
theorem w_mn : lw_tbl[646]? = some (Cond.methodLinkNest "Samovar$Evening" am_gw ⟨"Samovar", "within", "(II)Z"⟩ "Samovar") := by decide +kernel
theorem w_nest : ∀ (j : Nat) (q : String × Nat × MethodName), bm_nest[j]? = some q → ∃ p : Nat, lw_tbl[p]? = some (Cond.methodLinkNest q.1 q.2.1 q.2.2 "Samovar") := by
  intro j q hq
  match j, hq with
  | 0, hq => cases hq; exact ⟨219, by decide +kernel⟩
  | 1, hq => cases hq; exact ⟨244, by decide +kernel⟩
  | 2, hq => cases hq; exact ⟨111, by decide +kernel⟩
  | 3, hq => cases hq; exact ⟨338, by decide +kernel⟩
  | 4, hq => cases hq; exact ⟨341, by decide +kernel⟩
  | 5, hq => cases hq; exact ⟨173, by decide +kernel⟩
  | 6, hq => cases hq; exact ⟨213, by decide +kernel⟩
  | 7, hq => cases hq; exact ⟨361, by decide +kernel⟩
  | n + 8, hq => simp [bm_nest] at hq
theorem am_known {args : Array Value} {s : State} (hts : ∀ w ∈ lw_tbl, w.before args s = true) (ci : Nat) : ∃ (cC : ClassId) (iS : Nat → Nat), ∀ q : vw_C, am_cl[ci]? = some q → u_Kn s q.1 q.2.1 q.2.2 cC iS := by
  have hall : ∀ w ∈ am_all, w.before args s = true := fun w hw => hts w (List.mem_filter.mp hw).1
  match ci with
  | 0 => obtain ⟨cC, iS, h⟩ := u_known (C := RX0) (T := TX0) (N := 9) (n := 9) hall inX0 (w_law _ hts _ w_in0); exact ⟨cC, iS, fun q hq => by cases hq; exact h⟩
  | 1 => obtain ⟨cC, iS, h⟩ := u_known (C := RX1) (T := TX1) (N := 4) (n := 4) hall inX1 (w_law _ hts _ w_in1); exact ⟨cC, iS, fun q hq => by cases hq; exact h⟩
  | 2 => obtain ⟨cC, iS, h⟩ := u_known (C := RX2) (T := TX2) (N := 11) (n := 11) hall inX2 (w_law _ hts _ w_in2); exact ⟨cC, iS, fun q hq => by cases hq; exact h⟩
  | 3 => obtain ⟨cC, iS, h⟩ := u_known (C := RX3) (T := TX3) (N := 4) (n := 4) hall inX3 (w_law _ hts _ w_in3); exact ⟨cC, iS, fun q hq => by cases hq; exact h⟩
  | 4 => obtain ⟨cC, iS, h⟩ := u_known (C := RX4) (T := TX4) (N := 6) (n := 6) hall inX4 (w_law _ hts _ w_in4); exact ⟨cC, iS, fun q hq => by cases hq; exact h⟩
  | 5 => obtain ⟨cC, iS, h⟩ := u_known (C := RX5) (T := TX5) (N := 4) (n := 4) hall inX5 (w_law _ hts _ w_in5); exact ⟨cC, iS, fun q hq => by cases hq; exact h⟩
  | 6 => obtain ⟨cC, iS, h⟩ := u_known (C := RX6) (T := TX6) (N := 6) (n := 6) hall inX6 (w_law _ hts _ w_in6); exact ⟨cC, iS, fun q hq => by cases hq; exact h⟩
  | 7 => obtain ⟨cC, iS, h⟩ := u_known (C := RX7) (T := TX7) (N := 5) (n := 5) hall inX7 (w_law _ hts _ w_in7); exact ⟨cC, iS, fun q hq => by cases hq; exact h⟩
  | 8 => obtain ⟨cC, iS, h⟩ := u_known (C := RX8) (T := TX8) (N := 13) (n := 13) hall inX8 (w_law _ hts _ w_in8); exact ⟨cC, iS, fun q hq => by cases hq; exact h⟩
  | 9 => obtain ⟨cC, iS, h⟩ := u_known (C := RX9) (T := TX9) (N := 53) (n := 53) hall inX9 (w_law _ hts _ w_in9); exact ⟨cC, iS, fun q hq => by cases hq; exact h⟩
  | n + 10 => exact ⟨0, fun _ => 0, fun q hq => by simp [am_cl] at hq⟩
theorem am_arr {args : Array Value} {s : State} {ty : FieldType} (h : (Cond.arrayClass ty).before args s = true) : ∃ cA : ClassId, ArrOfT s cA ty ∧ s.vm.findClass ("[" ++ ty.toString) = some cA := by
  obtain ⟨c, k, comp, h1, h2, h3⟩ := Cond.arrayClass_spec h
  exact ⟨c, fun n z => ⟨fun k h => (by cases h), k, h2, comp, h3⟩, h1⟩
theorem am_sl109 : bm_fin.length = 109 ∧ bm_sl bm_fin ≤ 3400 := by decide +kernel
set_option maxHeartbeats 4000000 in
set_option maxRecDepth 100000 in
theorem am_start {p : Program} {e : Env} {s : State} {m : MethodId} {below : List Frame} {meth : Method} {c : Code} (l : Launch) {b L : Nat} {xs : Nat → Int32} (C0 : lw_At p s m meth c b L xs) {h' : AH} (hp : Ev (some (L, xs)) mr_L_law (16, bm_lv, [], h0) (some (.int 1)) h') : W p l e room_1 s m #[Value.ref b] below meth c s.heap [] 0 0 (lw_Z below #[Value.ref b] s) (entryFrame m ([Value.ref b] : List Value).toArray 4) := by
  obtain ⟨hx, hb, hr, hml, hown, hts, hX, hbl, hlocks, hgv⟩ := C0
  have hall : ∀ w ∈ am_all, w.before #[Value.ref b] s = true := fun w hw => hts w (List.mem_filter.mp hw).1
  have hA : ∀ q : Nat, s.heap.size ≤ q → (fun q : Nat => s.heap.size ≤ q) q := fun _ h => h
  have hA0 : ∀ a : Nat, a < s.heap.size → ¬ (fun q : Nat => s.heap.size ≤ q) a := fun _ h => Nat.not_le.mpr h
  have hs := flat_of_before _ hgv
  obtain ⟨adK, adV, hvk, hvt⟩ := vk_Sof (args := #[Value.ref b]) (s := s) (N := 2) (tm := fun i => if i = 0 then Term.string "Samovar" bm_s0 else Term.string "Samovar" bm_s1) (len := [3, 2]) (byt := [[107, 98, 99], [119, 100]]) (A := fun q : Nat => s.heap.size ≤ q)
    (fun i hi => by rcases (show i = 0 ∨ i = 1 by omega) with rfl | rfl <;> decide)
    (fun i hi => by rcases (show i = 0 ∨ i = 1 by omega) with rfl | rfl <;> exact hs _ (by decide +kernel))
    (fun i hi => by rcases (show i = 0 ∨ i = 1 by omega) with rfl | rfl <;> exact hs _ (by decide +kernel))
    (fun i hi => by rcases (show i = 0 ∨ i = 1 by omega) with rfl | rfl <;> exact hs _ (by decide +kernel))
    (fun i hi => by rcases (show i = 0 ∨ i = 1 by omega) with rfl | rfl <;> exact hs _ (by decide +kernel))
    (fun i hi j hj => by
      rcases (show i = 0 ∨ i = 1 by omega) with rfl | rfl
      · have hj : j < 3 := hj
        rcases (show j = 0 ∨ j = 1 ∨ j = 2 by omega) with rfl | rfl | rfl <;> exact hs _ (by decide +kernel)
      · have hj : j < 2 := hj
        rcases (show j = 0 ∨ j = 1 by omega) with rfl | rfl <;> exact hs _ (by decide +kernel))
    (fun i j hi hj hij => by
      rcases (show i = 0 ∧ j = 1 ∨ i = 1 ∧ j = 0 by omega) with ⟨rfl, rfl⟩ | ⟨rfl, rfl⟩
      · exact Or.inl (hs _ (by decide +kernel))
      · exact Or.inr (hs _ (by decide +kernel))) hA0
  obtain ⟨t1, ht1, hT1⟩ := va_Tof (args := #[Value.ref b]) (s := s) (tm := Term.static "Samovar" "MINUTES_OF_KIND" "[I") (ty := .int) (N := 3) (f := fun j => .int ([3, 5, 9].getD j 0)) (A := fun q : Nat => s.heap.size ≤ q) (by decide) (hs _ (by decide +kernel)) (va_eqt (hs _ (by decide +kernel))) (fun j hj => by rcases (show j = 0 ∨ j = 1 ∨ j = 2 by omega) with rfl | rfl | rfl <;> exact va_eqt (hs _ (by decide +kernel))) hA0
  obtain ⟨t2, ht2, hT2⟩ := va_Tof (args := #[Value.ref b]) (s := s) (tm := Term.static "Samovar" "FIRE_OF_KIND" "[I") (ty := .int) (N := 3) (f := fun j => .int ([3, 4, 3].getD j 0)) (A := fun q : Nat => s.heap.size ≤ q) (by decide) (hs _ (by decide +kernel)) (va_eqt (hs _ (by decide +kernel))) (fun j hj => by rcases (show j = 0 ∨ j = 1 ∨ j = 2 by omega) with rfl | rfl | rfl <;> exact va_eqt (hs _ (by decide +kernel))) hA0
  obtain ⟨ad0, a200, a201, a202, a203, a204, a205, a206⟩ : ∃ ad0 : Nat → Nat, ad0 200 = adK 0 ∧ ad0 201 = adK 1 ∧ ad0 202 = t1 ∧ ad0 203 = t2 ∧ ad0 204 = adV 0 ∧ ad0 205 = adV 1 ∧ ad0 206 = b := ⟨fun i => if i = 200 then adK 0 else if i = 201 then adK 1 else if i = 202 then t1 else if i = 203 then t2 else if i = 204 then adV 0 else if i = 205 then adV 1 else b, rfl, rfl, rfl, rfl, rfl, rfl, rfl⟩
  have hRO : am_RO ad0 (fun q : Nat => s.heap.size ≤ q) s s.heap := by
    refine ⟨⟨fun i hi => ?_, fun i j hi hj hij => ?_⟩, va_Zof (w_law _ hts _ w_ls0) (w_law _ hts _ w_ini0) (va_eqi (hs _ (by decide +kernel))) hA0, ⟨?_, by rw [a202]; exact hT1⟩, ⟨?_, by rw [a203]; exact hT2⟩, va_Nw.of rfl (w_law _ hts _ w_fn1), va_Nw.of rfl (w_law _ hts _ w_fn2), va_Nw.of rfl (w_law _ hts _ w_mn)⟩
    · rcases (show i = 0 ∨ i = 1 by omega) with rfl | rfl
      · show va_O _ (ad0 200) _ _ _ ∧ va_OF _ _ _ _ (ad0 200) _ _ _ ∧ va_OF _ _ _ (.ref (ad0 204)) (ad0 200) _ _ _ ∧ va_T _ (ad0 204) _ _ _ _ _
        rw [a200, a204]
        exact hvk.1 0 (by omega)
      · show va_O _ (ad0 201) _ _ _ ∧ va_OF _ _ _ _ (ad0 201) _ _ _ ∧ va_OF _ _ _ (.ref (ad0 205)) (ad0 201) _ _ _ ∧ va_T _ (ad0 205) _ _ _ _ _
        rw [a201, a205]
        exact hvk.1 1 (by omega)
    · rcases (show i = 0 ∨ i = 1 by omega) with rfl | rfl <;> rcases (show j = 0 ∨ j = 1 by omega) with rfl | rfl
      · rfl
      · have hij : ad0 200 = ad0 201 := hij
        rw [a200, a201] at hij
        exact hvk.2 0 1 (by omega) (by omega) hij
      · have hij : ad0 201 = ad0 200 := hij
        rw [a200, a201] at hij
        exact hvk.2 1 0 (by omega) (by omega) hij
      · rfl
    · rw [a202]
      exact va_Zref (w_law _ hts _ w_ls1) (w_law _ hts _ w_ini1) ht1 hA0
    · rw [a203]
      exact va_Zref (w_law _ hts _ w_ls2) (w_law _ hts _ w_ini1) ht2 hA0
  have hRB : bm_RO ad0 s := by
    refine ⟨?_, ?_, fun j q hq => ?_⟩
    · rw [a200]
      have z := hvt 0 (by omega)
      rw [if_pos rfl] at z
      exact vk_R.of (w_law _ hts _ w_sr_kbc) z
    · rw [a201]
      have z := hvt 1 (by omega)
      rw [if_neg (by omega)] at z
      exact vk_R.of (w_law _ hts _ w_sr_wd) z
    · obtain ⟨pp, hpp⟩ := w_nest j q hq
      exact va_Nw.of rfl (w_law _ hts _ hpp)
  obtain ⟨cI, gI1, gI2⟩ := am_arr (w_law _ hts _ w_ar_int)
  obtain ⟨cJ, gJ1, gJ2⟩ := am_arr (w_law _ hts _ w_ar_long)
  obtain ⟨cZ, gZ1, gZ2⟩ := am_arr (w_law _ hts _ w_ar_boolean)
  obtain ⟨tc, e0, e1, e2⟩ : ∃ tc : Nat → ClassId, tc 0 = cI ∧ tc 1 = cJ ∧ tc 2 = cZ := ⟨fun k => if k = 0 then cI else if k = 1 then cJ else cZ, rfl, rfl, rfl⟩
  obtain ⟨dC, dI, hKc⟩ : ∃ (dC : Nat → ClassId) (dI : Nat → Nat → Nat), ∀ (k : Nat) (q : vw_C), am_cl[k]? = some q → u_Kn s q.1 q.2.1 q.2.2 (dC k) (dI k) := ⟨fun k => Classical.choose (am_known hts k), fun k => Classical.choose (Classical.choose_spec (am_known hts k)), fun k q hq => Classical.choose_spec (Classical.choose_spec (am_known hts k)) q hq⟩
  have hK : va_K (dC, dI) am_cl (am_tys tc) s := by
    refine ⟨hKc, fun k q hq => ?_⟩
    match k, hq with
    | 0, hq => cases hq; rw [e0]; exact ⟨gI1, gI2⟩
    | 1, hq => cases hq; rw [e1]; exact ⟨gJ1, gJ2⟩
    | 2, hq => cases hq; rw [e2]; exact ⟨gZ1, gZ2⟩
    | n + 3, hq => simp [am_tys] at hq
  have hP : va_P (dC, dI) am_cl (bm_W tc ad0 []) s.heap := fun k q h => by simp [bm_W] at h
  have hD : va_D (fun q : Nat => s.heap.size ≤ q) (bm_W tc ad0 []) := ⟨fun i j p q h => by simp [bm_W] at h, fun k q h => by simp [bm_W] at h⟩
  have hl := lv_entry ([.ref b]) (n := 4) (Nat.le_of_ble_eq_true rfl)
  rw [lg_entry_eq]
  have XB : bm_FX p s m #[Value.ref b] meth c room_1 (dC, dI) tc (fun q : Nat => s.heap.size ≤ q) mc_L := ⟨hx, hb, hml, hown, hall, hK, hA, ⟨by decide, by decide⟩, gc_L, fun z => absurd z (by decide)⟩
  have hlen := am_sl109
  have main := bm_sound l 1000 p e room_1 s m #[Value.ref b] below meth c (lw_Z below #[Value.ref b] s) (dC, dI) tc ad0 (fun q : Nat => s.heap.size ≤ q) mc_L 0 0 (some 16) (0, [(0, .ref 206)], [], []) (16, bm_lv, [], bm_fin) XB hRB bm_runs (Nat.zero_le _) (Nat.zero_le _) ⟨by rw [hlen.1]; decide, by show bm_sl bm_fin - 0 ≤ 3400; omega⟩ (fun ad' hag _ => ?_)
  · have g := main _ s.heap [] (by show lv_has _ 4 [(0, am_cv ad0 (.ref 206))]; rw [show am_cv ad0 (.ref 206) = .ref b by show Value.ref _ = _; rw [a206]]; exact hl) hP hD va_S.rf
    exact g
  · intro ls H locs hl hP hD hS
    obtain ⟨n, hn⟩ := hp
    have hag2 : ∀ i, 200 ≤ i → ad' i = ad0 i := fun i hi => hag i (Or.inr hi)
    have hRO' : am_RO ad' (fun q : Nat => s.heap.size ≤ q) s s.heap := by
      obtain ⟨⟨r1, r2⟩, r3, ⟨r4, r5⟩, ⟨r6, r7⟩, r8⟩ := hRO
      refine ⟨⟨fun i hi => ?_, fun i j hi hj hij => ?_⟩, r3, ⟨?_, ?_⟩, ⟨?_, ?_⟩, r8⟩
      · have z := r1 i hi
        dsimp only at z ⊢
        rw [hag2 (200 + i) (by omega), hag2 (204 + i) (by omega)]
        exact z
      · dsimp only at hij
        rw [hag2 (200 + i) (by omega), hag2 (200 + j) (by omega)] at hij
        exact r2 i j hi hj hij
      · rw [hag2 202 (by omega)]; exact r4
      · rw [hag2 202 (by omega)]; exact r5
      · rw [hag2 203 (by omega)]; exact r6
      · rw [hag2 203 (by omega)]; exact r7
    dsimp only at hP hD
    rw [bm_eq] at hP hD
    have XA : am_FX p s m #[Value.ref b] c room_1 (bm_fin.length - 0) (bm_sl bm_fin - 0) (dC, dI) tc ad' (fun q : Nat => s.heap.size ≤ q) (some (L, xs)) mr_L_law := ⟨hx, hb, hml, hown, hall, hK, hRO', fun h => am_D_any hD h, hA, ⟨by decide, by decide, by rw [hlen.1]; decide, by show bm_sl bm_fin - 0 ≤ 3400; omega⟩, fun L2 xs2 hq => by
      cases hq
      have e6 : ad' 206 = b := by rw [hag2 206 (by omega), a206]
      rw [e6]
      exact ⟨hX, hbl, Nat.not_le.mpr hbl⟩, gk_L_law⟩
    refine am_sound l n p e room_1 s m #[Value.ref b] below meth c (bm_fin.length - 0) (bm_sl bm_fin - 0) (lw_Z below #[Value.ref b] s) (dC, dI) tc ad' (fun q : Nat => s.heap.size ≤ q) mr_L_law (some (L, xs)) (16, bm_lv, [], h0) (some (.int 1)) h' XA hn (fun pc lv st hst => ?_) ls H locs hl hP hS
    unfold am_step at hst
    split at hst
    case h_2 => cases hst
    rename_i rw hrow
    obtain ⟨i, tg, ex, sw, lg⟩ := rw
    obtain ⟨⟨k9, hd, hn9⟩, hw⟩ := am_dec XA hrow
    rcases am_exec_ret hst with ⟨rfl, x, h1, h2, h3⟩ | ⟨rfl, x, h1, h2, h3⟩ | ⟨rfl, x, h1, h2, h3, h4⟩ | ⟨rfl, h1, h2, h3⟩
    · have hn9 : k9 = 1 := hn9.resolve_left (fun q => am_ft q)
      subst hn9
      have h1 : st = [.int x] := h1
      have hx1 : (1 : Int32) = x := by
        have z := Option.some.inj h2
        injection z
      subst hx1
      subst h1
      intro ls H locs hl hP hS
      refine va_forget (fun q hq => hS.2.2 q hq) ?_
      refine W.widen (k := 109) (n := 3400) (by rw [hlen.1]; exact Nat.le_refl _) (by omega) ?_
      exact lw_ret hx hb hr hlocks hd
    · exact absurd h3 (by decide)
    · exact absurd h4 (by decide)
    · cases h2
