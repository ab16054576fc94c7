set_option maxRecDepth 20000 in
theorem cw_L_add : Cond.codeWith y_L_add b_L_add 9 (some .int) [(0, 16, 19, 13), (0, 16, 23, 15)] ∈ TT := tt_of (i := 291) rfl rfl
set_option maxRecDepth 20000 in
theorem cw_L_lend : Cond.codeWith y_L_lend b_L_lend 5 (some .int) [(0, 10, 13, 13)] ∈ TT := tt_of (i := 499) rfl rfl
set_option maxRecDepth 20000 in
theorem cw_L_end : Cond.codeWith y_L_end b_L_end 5 (some .int) [(0, 10, 13, 24), (0, 10, 17, 13)] ∈ TT := tt_of (i := 511) rfl rfl
set_option maxRecDepth 20000 in
theorem cw_L_tick : Cond.codeWith y_L_tick b_L_tick 4 (some .int) [(0, 9, 12, 13)] ∈ TT := tt_of (i := 550) rfl rfl
set_option maxRecDepth 20000 in
theorem cw_L_task : Cond.codeWith y_L_task b_L_task 5 (some .int) [(0, 10, 13, 24)] ∈ TT := tt_of (i := 558) rfl rfl
set_option maxHeartbeats 4000000 in
set_option maxRecDepth 100000 in
theorem c_L_lend (l : Launch) (hl0 : l.stackTraces = false) {D : va_G} {kk : Nat → ClassId} {ws : va_W} {H : Heap} {e0 mi B : Nat} (hP : va_P D vwCl ws H) (hD : va_D (fun q => B ≤ q) ws) (hB : B ≤ H.size) {xa qad gad tad : Nat → Nat} {time tok : Int32} {n : Nat} {f : FF} {ky : Nat → Int64} {h : FF} {qar gar arr : Nat → Option Nat} {ea cap : Nat} {md : Int32} (hX : PX kk xa qad gad tad e0 time tok n f ky h qar gar arr ea cap md ws) {oa : Nat} {go : Nat → Int64} (ho9 : zin ws oa (.inl (kk 1, 1, .inr (.inl go)))) (v q : Int32) (hl4 : cnt (pTo f v) n ≤ 4) : Met l y_L_lend (Cond.codeWith y_L_lend b_L_lend 5 (some .int) [(0, 10, 13, 13)] :: TT) ({ frames := 7, cells := 1, slots := 6, locals := 280 }) (zPw [.ref (xa 0), .int v, .int q, .ref oa] H D vwCl (TY kk) e0 mi B) (zR D vwCl B (some (.int (if cLend v q = true then 0 else 1))) (WR kk oa (fun ws' => XS kk xa qad gad e0 qar gar time (tLend f time n v q tok) n (mLend f time n v q tok) ky ws') (cLend v q = true) (rLend f time n v q tok) ws)) 1 6 (fun q => B ≤ q) := by
  refine z_bodyW (by decide) (Nat.le_of_ble_eq_true rfl) ?_
  intro p e s m below meth c ls C0 htab hH hKN hZB hl
  obtain ⟨hx, hb, hr, hts, hown, hlocks, hml⟩ := C0
  subst hH
  have hK := hKN.1
  have hN := hKN.2
  have hZA := hZB.1
  have hn := PX_n hX
  have hS : va_S (fun q => B ≤ q) s.heap s.heap [] := va_S.rf
  have hA0 : ∀ q : Nat, s.heap.size ≤ q → (fun q => B ≤ q) q := fun q h => Nat.le_trans hB h
  by_cases hc : cLend v q = true
  · refine W.widen (k := 1) (n := 6) (Nat.zero_le _) (Nat.zero_le _) ?_
    have hl : lv_has ls 5 [(0, .ref (xa 0)), (1, .int v), (2, .int q), (3, .ref oa)] := hl
    refine lv_aload_n hx hb d_L_lend_0 rfl (zl hl rfl) ?_
    refine lv_iconst (v := 0) hx hb d_L_lend_1 (by decide) ?_
    refine lv_aload_n hx hb d_L_lend_2 rfl (zl hl rfl) ?_
    refine lv_iload_n hx hb d_L_lend_3 rfl (zl hl rfl) ?_
    refine lv_iload_n hx hb d_L_lend_4 rfl (zl hl rfl) ?_
    refine z_call (va_runV (As := [.int v, .int q]) (rest := [.int 0, .ref oa]) ⟨hx, hb, hml, hown, hts⟩ (c_X_lend l hP hX hD v q hc hl4) (cwV 2 hts (tt_V tw_503 tw_500 tw_501 tw_502 tw_30) rfl rfl rfl (by decide +kernel) ⟨Nat.le_of_ble_eq_true rfl, Nat.le_of_ble_eq_true rfl⟩) (zPc_V hKN hP (ci := 3) (q := (R_X, F_X, 5)) rfl (PX_x hX)) rfl rfl hl.1 rfl (lv_room (Nat.le_of_ble_eq_true rfl)) d_L_lend_5 ⟨Nat.le_of_ble_eq_true rfl, Nat.le_of_ble_eq_true rfl⟩) hS (fun ws H locs hR hP hD hz9 hS => ?_)
    obtain ⟨⟨h9, hX9⟩, hF9⟩ := hR
    refine lv_i2l (v := (rLend f time n v q tok).toInt64) hx hb d_L_lend_8 rfl ?_
    have hD0 := hD
    have hO := hF9 _ _ rfl ho9
    refine z_last hx hb hK hP hD hS 1 hO rfl 0 rfl (by decide) (by decide) d_L_lend_9 (fun ws H locs hP hD hS u => ?_)
    refine lv_goto (tgt := 17) hx hb d_L_lend_10 (by decide) ?_
    refine lv_iconst (v := 0) hx hb d_L_lend_17 (by decide) ?_
    have hX8 := PX_keep hX9 (fun b fe hk hz => u.2 _ _ (zin_ne hD0 hz hO (fun z => by rw [z] at hk; cases hk)) hz)
    exact z_iretR hx hb hr hlocks hP hD hS (by rw [if_pos hc]) ⟨⟨tad, arr, ea, cap, md, h9, hX8⟩, ⟨_, u.1, fun _ => if_pos rfl⟩, fun b fe hk hb hz => u.2 _ _ hb (hF9 _ _ hk hz)⟩ d_L_lend_18
  · have hc : cLend v q = false := by simpa using hc
    have hl : lv_has ls 5 [(0, .ref (xa 0)), (1, .int v), (2, .int q), (3, .ref oa)] := hl
    refine lv_aload_n hx hb d_L_lend_0 rfl (zl hl rfl) ?_
    refine lv_iconst (v := 0) hx hb d_L_lend_1 (by decide) ?_
    refine lv_aload_n hx hb d_L_lend_2 rfl (zl hl rfl) ?_
    refine lv_iload_n hx hb d_L_lend_3 rfl (zl hl rfl) ?_
    refine lv_iload_n hx hb d_L_lend_4 rfl (zl hl rfl) ?_
    refine z_throwV (As := [.int v, .int q]) (rest := [.int 0, .ref oa]) (pc := 5) (hpc := 13) ⟨hx, hb, hml, hown, hts⟩ (c_X_lend_T l hl0 hP hX v q hc) (cwV 2 hts (tt_V tw_503 tw_500 tw_501 tw_502 tw_30) rfl rfl rfl (by decide +kernel) ⟨Nat.le_of_ble_eq_true rfl, Nat.le_of_ble_eq_true rfl⟩) (zPx_V hKN hZB hP (ci := 3) (q := (R_X, F_X, 5)) rfl (PX_x hX)) rfl hl.1 (Nat.le_of_ble_eq_true rfl) d_L_lend_5 ⟨Nat.le_of_ble_eq_true rfl, Nat.le_of_ble_eq_true rfl⟩ (fun U q9 cell9 h1 h2 h3 h4 h5 h6 h7 => zFind_1 (E := "java/lang/IllegalArgumentException") (C1 := "java/lang/IllegalArgumentException") h7 h1 h2 h3 h4 h5 h6 hown htab ⟨by show 0 ≤ 5; decide, by show 5 < 10; decide⟩ (by decide) (hts _ tw_292) (hZB.2.1.1 (.castable "java/lang/IllegalArgumentException" "java/lang/IllegalArgumentException") (by simp [zTW]) _ s (Vm.Alike.refl _) (fun _ _ => rfl))) (fun q9 H1 hsz hkp => ?_)
    have hP1 : va_P D vwCl ws H1 := va_P.kept hP (fun k x hx => hkp x.1 ((hP k x hx).lt))
    have hS1 : va_S (fun q => B ≤ q) s.heap H1 [] := ⟨hsz, fun q h1 _ => hkp q h1, fun q h => nomatch h⟩
    refine lv_astore (lv' := [(4, .ref q9), (0, .ref (xa 0)), (1, .int v), (2, .int q), (3, .ref oa)]) hx hb d_L_lend_13 hl (by decide) rfl (fun ls hl => ?_)
    refine lv_iconst (v := 1) hx hb d_L_lend_15 (by decide) ?_
    exact z_iretR hx hb hr hlocks hP1 hD hS1 (by rw [hc]; rfl) ⟨⟨tad, arr, ea, cap, md, h, by unfold tLend mLend; rw [hc]; exact hX⟩, ⟨go, ho9, fun z => absurd z (by rw [hc]; decide)⟩, fun b fe _ _ hz => hz⟩ d_L_lend_16
set_option maxHeartbeats 4000000 in
set_option maxRecDepth 100000 in
theorem c_L_task (l : Launch) (hl0 : l.stackTraces = false) {D : va_G} {kk : Nat → ClassId} {ws : va_W} {H : Heap} {e0 mi B : Nat} (hP : va_P D vwCl ws H) (hD : va_D (fun q => B ≤ q) ws) (hB : B ≤ H.size) {xa qad gad tad : Nat → Nat} {time tok : Int32} {n : Nat} {f : FF} {ky : Nat → Int64} {h : FF} {qar gar arr : Nat → Option Nat} {ea cap : Nat} {md : Int32} (hX : PX kk xa qad gad tad e0 time tok n f ky h qar gar arr ea cap md ws) {oa : Nat} {go : Nat → Int64} (ho9 : zin ws oa (.inl (kk 1, 1, .inr (.inl go)))) (v q : Int32) : Met l y_L_task (Cond.codeWith y_L_task b_L_task 5 (some .int) [(0, 10, 13, 24)] :: TT) ({ frames := 7, cells := 1, slots := 6, locals := 280 }) (zPw [.ref (xa 0), .int v, .int q, .ref oa] H D vwCl (TY kk) e0 mi B) (zR D vwCl B (some (.int (if cTask n v q = true then 0 else 1))) (WR kk oa (fun ws' => XS kk xa qad gad e0 qar gar time tok n f ky ws') (cTask n v q = true) (mTask f time n v q) ws)) 1 6 (fun q => B ≤ q) := by
  refine z_bodyW (by decide) (Nat.le_of_ble_eq_true rfl) ?_
  intro p e s m below meth c ls C0 htab hH hKN hZB hl
  obtain ⟨hx, hb, hr, hts, hown, hlocks, hml⟩ := C0
  subst hH
  have hK := hKN.1
  have hN := hKN.2
  have hZA := hZB.1
  have hn := PX_n hX
  have hS : va_S (fun q => B ≤ q) s.heap s.heap [] := va_S.rf
  have hA0 : ∀ q : Nat, s.heap.size ≤ q → (fun q => B ≤ q) q := fun q h => Nat.le_trans hB h
  by_cases hc : cTask n v q = true
  · refine W.widen (k := 1) (n := 6) (Nat.zero_le _) (Nat.zero_le _) ?_
    have hl : lv_has ls 5 [(0, .ref (xa 0)), (1, .int v), (2, .int q), (3, .ref oa)] := hl
    refine lv_aload_n hx hb d_L_task_0 rfl (zl hl rfl) ?_
    refine lv_iconst (v := 0) hx hb d_L_task_1 (by decide) ?_
    refine lv_aload_n hx hb d_L_task_2 rfl (zl hl rfl) ?_
    refine lv_iload_n hx hb d_L_task_3 rfl (zl hl rfl) ?_
    refine lv_iload_n hx hb d_L_task_4 rfl (zl hl rfl) ?_
    refine z_calli (va_runV (As := [.int v, .int q]) (rest := [.int 0, .ref oa]) ⟨hx, hb, hml, hown, hts⟩ (c_X_task l hP hX v q hc) (cwV 2 hts (tt_V tw_562 tw_559 tw_560 tw_561 tw_30) rfl rfl rfl (by decide +kernel) ⟨Nat.le_of_ble_eq_true rfl, Nat.le_of_ble_eq_true rfl⟩) (zPc_V hKN hP (ci := 3) (q := (R_X, F_X, 5)) rfl (PX_x hX)) rfl rfl hl.1 rfl (lv_room (Nat.le_of_ble_eq_true rfl)) d_L_task_5 ⟨Nat.le_of_ble_eq_true rfl, Nat.le_of_ble_eq_true rfl⟩) hS (fun locs hS => ?_)
    have hX9 := hX
    have hF9 : zfrX ws ws := zfrX_rf
    refine lv_i2l (v := (mTask f time n v q).toInt64) hx hb d_L_task_8 rfl ?_
    have hD0 := hD
    have hO := hF9 _ _ rfl ho9
    refine z_last hx hb hK hP hD hS 1 hO rfl 0 rfl (by decide) (by decide) d_L_task_9 (fun ws H locs hP hD hS u => ?_)
    refine lv_goto (tgt := 17) hx hb d_L_task_10 (by decide) ?_
    refine lv_iconst (v := 0) hx hb d_L_task_17 (by decide) ?_
    have hX8 := PX_keep hX9 (fun b fe hk hz => u.2 _ _ (zin_ne hD0 hz hO (fun z => by rw [z] at hk; cases hk)) hz)
    exact z_iretR hx hb hr hlocks hP hD hS (by rw [if_pos hc]) ⟨⟨tad, arr, ea, cap, md, h, hX8⟩, ⟨_, u.1, fun _ => if_pos rfl⟩, fun b fe hk hb hz => u.2 _ _ hb (hF9 _ _ hk hz)⟩ d_L_task_18
  · have hc : cTask n v q = false := by simpa using hc
    have hl : lv_has ls 5 [(0, .ref (xa 0)), (1, .int v), (2, .int q), (3, .ref oa)] := hl
    refine lv_aload_n hx hb d_L_task_0 rfl (zl hl rfl) ?_
    refine lv_iconst (v := 0) hx hb d_L_task_1 (by decide) ?_
    refine lv_aload_n hx hb d_L_task_2 rfl (zl hl rfl) ?_
    refine lv_iload_n hx hb d_L_task_3 rfl (zl hl rfl) ?_
    refine lv_iload_n hx hb d_L_task_4 rfl (zl hl rfl) ?_
    refine z_throwV (As := [.int v, .int q]) (rest := [.int 0, .ref oa]) (pc := 5) (hpc := 13) ⟨hx, hb, hml, hown, hts⟩ (c_X_task_T l hl0 hP hX v q hc) (cwV 2 hts (tt_V tw_562 tw_559 tw_560 tw_561 tw_30) rfl rfl rfl (by decide +kernel) ⟨Nat.le_of_ble_eq_true rfl, Nat.le_of_ble_eq_true rfl⟩) (zPx_V hKN hZB hP (ci := 3) (q := (R_X, F_X, 5)) rfl (PX_x hX)) rfl hl.1 (Nat.le_of_ble_eq_true rfl) d_L_task_5 ⟨Nat.le_of_ble_eq_true rfl, Nat.le_of_ble_eq_true rfl⟩ (fun U q9 cell9 h1 h2 h3 h4 h5 h6 h7 => zFind_1 (E := "java/util/NoSuchElementException") (C1 := "java/util/NoSuchElementException") h7 h1 h2 h3 h4 h5 h6 hown htab ⟨by show 0 ≤ 5; decide, by show 5 < 10; decide⟩ (by decide) (hts _ tw_512) (hZB.2.1.1 (.castable "java/util/NoSuchElementException" "java/util/NoSuchElementException") (by simp [zTW]) _ s (Vm.Alike.refl _) (fun _ _ => rfl))) (fun q9 H1 hsz hkp => ?_)
    have hP1 : va_P D vwCl ws H1 := va_P.kept hP (fun k x hx => hkp x.1 ((hP k x hx).lt))
    have hS1 : va_S (fun q => B ≤ q) s.heap H1 [] := ⟨hsz, fun q h1 _ => hkp q h1, fun q h => nomatch h⟩
    refine lv_astore (lv' := [(4, .ref q9), (0, .ref (xa 0)), (1, .int v), (2, .int q), (3, .ref oa)]) hx hb d_L_task_13 hl (by decide) rfl (fun ls hl => ?_)
    refine lv_iconst (v := 1) hx hb d_L_task_15 (by decide) ?_
    exact z_iretR hx hb hr hlocks hP1 hD hS1 (by rw [hc]; rfl) ⟨⟨tad, arr, ea, cap, md, h, hX⟩, ⟨go, ho9, fun z => absurd z (by rw [hc]; decide)⟩, fun b fe _ _ hz => hz⟩ d_L_task_16
set_option maxHeartbeats 4000000 in
set_option maxRecDepth 100000 in
theorem c_L_tick (l : Launch) (hl0 : l.stackTraces = false) {D : va_G} {kk : Nat → ClassId} {ws : va_W} {H : Heap} {e0 mi B : Nat} (hP : va_P D vwCl ws H) (hD : va_D (fun q => B ≤ q) ws) (hB : B ≤ H.size) {xa qad gad tad : Nat → Nat} {time tok : Int32} {n : Nat} {f : FF} {ky : Nat → Int64} {h : FF} {qar gar arr : Nat → Option Nat} {ea cap : Nat} {md : Int32} (hX : PX kk xa qad gad tad e0 time tok n f ky h qar gar arr ea cap md ws) {oa : Nat} {go : Nat → Int64} (ho9 : zin ws oa (.inl (kk 1, 1, .inr (.inl go)))) (v : Int32) (tm : Nat) (htime : time = nI tm) (htm : tm < 2 ^ 29) (hE : okE f tm n) (hA : okA f n) (hT : okT f) : Met l y_L_tick (Cond.codeWith y_L_tick b_L_tick 4 (some .int) [(0, 9, 12, 13)] :: TT) ({ frames := 7, cells := 1, slots := 6, locals := 280 }) (zPw [.ref (xa 0), .int v, .ref oa] H D vwCl (TY kk) e0 mi B) (zR D vwCl B (some (.int (if sWithin v 1 1000 = true then 0 else 1))) (WR kk oa (fun ws' => XS kk xa qad gad e0 qar gar (if sWithin v 1 1000 = true then time + v else time) tok n (if sWithin v 1 1000 = true then outF f time n (tx v) else f) ky ws') (sWithin v 1 1000 = true) (if sWithin v 1 1000 = true then nI (outC f time n (tx v)) else 0) ws)) 1 6 (fun q => B ≤ q) := by
  refine z_bodyW (by decide) (Nat.le_of_ble_eq_true rfl) ?_
  intro p e s m below meth c ls C0 htab hH hKN hZB hl
  obtain ⟨hx, hb, hr, hts, hown, hlocks, hml⟩ := C0
  subst hH
  have hK := hKN.1
  have hN := hKN.2
  have hZA := hZB.1
  have hn := PX_n hX
  have hS : va_S (fun q => B ≤ q) s.heap s.heap [] := va_S.rf
  have hA0 : ∀ q : Nat, s.heap.size ≤ q → (fun q => B ≤ q) q := fun q h => Nat.le_trans hB h
  by_cases hc : sWithin v 1 1000 = true
  · subst htime
    refine W.widen (k := 1) (n := 6) (Nat.zero_le _) (Nat.zero_le _) ?_
    have hl : lv_has ls 4 [(0, .ref (xa 0)), (1, .int v), (2, .ref oa)] := hl
    refine lv_aload_n hx hb d_L_tick_0 rfl (zl hl rfl) ?_
    refine lv_iconst (v := 0) hx hb d_L_tick_1 (by decide) ?_
    refine lv_aload_n hx hb d_L_tick_2 rfl (zl hl rfl) ?_
    refine lv_iload_n hx hb d_L_tick_3 rfl (zl hl rfl) ?_
    refine z_call (va_runV (As := [.int v]) (rest := [.int 0, .ref oa]) ⟨hx, hb, hml, hown, hts⟩ (c_X_tick l hP hX hD v hc tm rfl htm hE hA hT) (cwV 1 hts (tt_V tw_554 tw_551 tw_552 tw_553 tw_30) rfl rfl rfl (by decide +kernel) ⟨Nat.le_of_ble_eq_true rfl, Nat.le_of_ble_eq_true rfl⟩) (zPc_V hKN hP (ci := 3) (q := (R_X, F_X, 5)) rfl (PX_x hX)) rfl rfl hl.1 rfl (lv_room (Nat.le_of_ble_eq_true rfl)) d_L_tick_4 ⟨Nat.le_of_ble_eq_true rfl, Nat.le_of_ble_eq_true rfl⟩) hS (fun ws H locs hR hP hD hz9 hS => ?_)
    obtain ⟨⟨h9, hX9⟩, hF9⟩ := hR
    refine lv_i2l (v := (nI (outC f (nI tm) n (tx v))).toInt64) hx hb d_L_tick_7 rfl ?_
    have hD0 := hD
    have hO := hF9 _ _ rfl ho9
    refine z_last hx hb hK hP hD hS 1 hO rfl 0 rfl (by decide) (by decide) d_L_tick_8 (fun ws H locs hP hD hS u => ?_)
    refine lv_goto (tgt := 15) hx hb d_L_tick_9 (by decide) ?_
    refine lv_iconst (v := 0) hx hb d_L_tick_15 (by decide) ?_
    have hX8 := PX_keep hX9 (fun b fe hk hz => u.2 _ _ (zin_ne hD0 hz hO (fun z => by rw [z] at hk; cases hk)) hz)
    exact z_iretR hx hb hr hlocks hP hD hS (by rw [if_pos hc]) ⟨⟨tad, arr, ea, cap, md, h9, by rw [if_pos hc, if_pos hc]; exact hX8⟩, ⟨_, u.1, fun _ => by rw [if_pos hc]; exact if_pos rfl⟩, fun b fe hk hb hz => u.2 _ _ hb (hF9 _ _ hk hz)⟩ d_L_tick_16
  · have hc : sWithin v 1 1000 = false := by simpa using hc
    have hl : lv_has ls 4 [(0, .ref (xa 0)), (1, .int v), (2, .ref oa)] := hl
    refine lv_aload_n hx hb d_L_tick_0 rfl (zl hl rfl) ?_
    refine lv_iconst (v := 0) hx hb d_L_tick_1 (by decide) ?_
    refine lv_aload_n hx hb d_L_tick_2 rfl (zl hl rfl) ?_
    refine lv_iload_n hx hb d_L_tick_3 rfl (zl hl rfl) ?_
    refine z_throwV (As := [.int v]) (rest := [.int 0, .ref oa]) (pc := 4) (hpc := 12) ⟨hx, hb, hml, hown, hts⟩ (c_X_tick_T l hl0 hP hX v hc) (cwV 1 hts (tt_V tw_554 tw_551 tw_552 tw_553 tw_30) rfl rfl rfl (by decide +kernel) ⟨Nat.le_of_ble_eq_true rfl, Nat.le_of_ble_eq_true rfl⟩) (zPx_V hKN hZB hP (ci := 3) (q := (R_X, F_X, 5)) rfl (PX_x hX)) rfl hl.1 (Nat.le_of_ble_eq_true rfl) d_L_tick_4 ⟨Nat.le_of_ble_eq_true rfl, Nat.le_of_ble_eq_true rfl⟩ (fun U q9 cell9 h1 h2 h3 h4 h5 h6 h7 => zFind_1 (E := "java/lang/IllegalArgumentException") (C1 := "java/lang/IllegalArgumentException") h7 h1 h2 h3 h4 h5 h6 hown htab ⟨by show 0 ≤ 4; decide, by show 4 < 9; decide⟩ (by decide) (hts _ tw_292) (hZB.2.1.1 (.castable "java/lang/IllegalArgumentException" "java/lang/IllegalArgumentException") (by simp [zTW]) _ s (Vm.Alike.refl _) (fun _ _ => rfl))) (fun q9 H1 hsz hkp => ?_)
    have hP1 : va_P D vwCl ws H1 := va_P.kept hP (fun k x hx => hkp x.1 ((hP k x hx).lt))
    have hS1 : va_S (fun q => B ≤ q) s.heap H1 [] := ⟨hsz, fun q h1 _ => hkp q h1, fun q h => nomatch h⟩
    refine lv_astore_n (lv' := [(3, .ref q9), (0, .ref (xa 0)), (1, .int v), (2, .ref oa)]) hx hb d_L_tick_12 rfl hl (by decide) rfl (fun ls hl => ?_)
    refine lv_iconst (v := 1) hx hb d_L_tick_13 (by decide) ?_
    exact z_iretR hx hb hr hlocks hP1 hD hS1 (by rw [hc]; rfl) ⟨⟨tad, arr, ea, cap, md, h, by rw [hc]; exact hX⟩, ⟨go, ho9, fun z => absurd z (by rw [hc]; decide)⟩, fun b fe _ _ hz => hz⟩ d_L_tick_14
theorem xEnd_3 (f : FF) (n : Nat) (v how : Int32) : xEnd f n v how = 0 ∨ xEnd f n v how = 1 ∨ xEnd f n v how = 2 := by
  unfold xEnd
  split
  · exact Or.inr (Or.inl rfl)
  · split
    · exact Or.inl rfl
    · exact Or.inr (Or.inr rfl)
theorem mEnd_no {f : FF} {time : Int32} {n : Nat} {v how : Int32} (h : ¬ xEnd f n v how = 0) : mEnd f time n v how = f := by
  unfold xEnd at h
  unfold mEnd
  cases ho : fnd (pTok f v) 0 n with
  | none => rfl
  | some t =>
    rw [ho] at h
    show (if sWithin how 0 2 = true then mEnd1 f time how t else f) = f
    have h : ¬ (if sWithin how 0 2 = true then (0 : Int32) else 2) = 0 := h
    by_cases hs : sWithin how 0 2 = true
    · rw [if_pos hs] at h
      exact absurd rfl h
    · exact if_neg hs
theorem xAdd_3 (f : FF) (ky : Nat → Int64) (time : Int32) (n : Nat) (q r g : Int32) (k : Int64) (delay : Int32) : xAdd f ky time n q r g k delay = 0 ∨ xAdd f ky time n q r g k delay = 1 ∨ xAdd f ky time n q r g k delay = 2 := by
  unfold xAdd
  split
  · split
    · split
      · exact Or.inr (Or.inr rfl)
      · exact Or.inl rfl
    · exact Or.inl rfl
  · exact Or.inr (Or.inl rfl)
theorem cNew_no {f : FF} {ky : Nat → Int64} {time : Int32} {n : Nat} {q r g : Int32} {k : Int64} {delay : Int32} (h : ¬ xAdd f ky time n q r g k delay = 0) : cNew f ky time n q r g k delay = false := by
  unfold xAdd at h
  unfold cNew
  by_cases hc : cAdd q r g delay = true
  · rw [if_pos hc] at h
    split at h
    · rename_i ho
      by_cases hf : fullA f n = true
      · rw [hf]
        simp
      · rw [if_neg hf] at h
        exact absurd rfl h
    · exact absurd rfl h
  · simp [hc]
set_option maxHeartbeats 4000000 in
set_option maxRecDepth 100000 in
theorem c_L_end (l : Launch) (hl0 : l.stackTraces = false) {D : va_G} {kk : Nat → ClassId} {ws : va_W} {H : Heap} {e0 mi B : Nat} (hP : va_P D vwCl ws H) (hD : va_D (fun q => B ≤ q) ws) (hB : B ≤ H.size) {xa qad gad tad : Nat → Nat} {time tok : Int32} {n : Nat} {f : FF} {ky : Nat → Int64} {h : FF} {qar gar arr : Nat → Option Nat} {ea cap : Nat} {md : Int32} (hX : PX kk xa qad gad tad e0 time tok n f ky h qar gar arr ea cap md ws) {oa : Nat} {go : Nat → Int64} (ho9 : zin ws oa (.inl (kk 1, 1, .inr (.inl go)))) (v how : Int32) (hA : okA f n) (hT : okT f) : Met l y_L_end (Cond.codeWith y_L_end b_L_end 5 (some .int) [(0, 10, 13, 24), (0, 10, 17, 13)] :: TT) ({ frames := 7, cells := 1, slots := 6, locals := 280 }) (zPw [.ref (xa 0), .int v, .int how, .ref oa] H D vwCl (TY kk) e0 mi B) (zR D vwCl B (some (.int (xEnd f n v how))) (WR kk oa (fun ws' => XS kk xa qad gad e0 qar gar time tok n (mEnd f time n v how) ky ws') (xEnd f n v how = 0) (rEnd f n v how) ws)) 1 6 (fun q => B ≤ q) := by
  refine z_bodyW (by decide) (Nat.le_of_ble_eq_true rfl) ?_
  intro p e s m below meth c ls C0 htab hH hKN hZB hl
  obtain ⟨hx, hb, hr, hts, hown, hlocks, hml⟩ := C0
  subst hH
  have hK := hKN.1
  have hN := hKN.2
  have hZA := hZB.1
  have hn := PX_n hX
  have hS : va_S (fun q => B ≤ q) s.heap s.heap [] := va_S.rf
  have hA0 : ∀ q : Nat, s.heap.size ≤ q → (fun q => B ≤ q) q := fun q h => Nat.le_trans hB h
  rcases xEnd_3 f n v how with hc | hc | hc
  · refine W.widen (k := 1) (n := 6) (Nat.zero_le _) (Nat.zero_le _) ?_
    have hl : lv_has ls 5 [(0, .ref (xa 0)), (1, .int v), (2, .int how), (3, .ref oa)] := hl
    refine lv_aload_n hx hb d_L_end_0 rfl (zl hl rfl) ?_
    refine lv_iconst (v := 0) hx hb d_L_end_1 (by decide) ?_
    refine lv_aload_n hx hb d_L_end_2 rfl (zl hl rfl) ?_
    refine lv_iload_n hx hb d_L_end_3 rfl (zl hl rfl) ?_
    refine lv_iload_n hx hb d_L_end_4 rfl (zl hl rfl) ?_
    refine z_call (va_runV (As := [.int v, .int how]) (rest := [.int 0, .ref oa]) ⟨hx, hb, hml, hown, hts⟩ (c_X_end l hP hX hD v how hc hA hT) (cwV 2 hts (tt_V tw_516 tw_513 tw_514 tw_515 tw_30) rfl rfl rfl (by decide +kernel) ⟨Nat.le_of_ble_eq_true rfl, Nat.le_of_ble_eq_true rfl⟩) (zPc_V hKN hP (ci := 3) (q := (R_X, F_X, 5)) rfl (PX_x hX)) rfl rfl hl.1 rfl (lv_room (Nat.le_of_ble_eq_true rfl)) d_L_end_5 ⟨Nat.le_of_ble_eq_true rfl, Nat.le_of_ble_eq_true rfl⟩) hS (fun ws H locs hR hP hD hz9 hS => ?_)
    obtain ⟨⟨h9, hX9⟩, hF9⟩ := hR
    refine lv_i2l (v := (rEnd f n v how).toInt64) hx hb d_L_end_8 rfl ?_
    have hD0 := hD
    have hO := hF9 _ _ rfl ho9
    refine z_last hx hb hK hP hD hS 1 hO rfl 0 rfl (by decide) (by decide) d_L_end_9 (fun ws H locs hP hD hS u => ?_)
    refine lv_goto (tgt := 21) hx hb d_L_end_10 (by decide) ?_
    refine lv_iconst (v := 0) hx hb d_L_end_21 (by decide) ?_
    have hX8 := PX_keep hX9 (fun b fe hk hz => u.2 _ _ (zin_ne hD0 hz hO (fun z => by rw [z] at hk; cases hk)) hz)
    exact z_iretR hx hb hr hlocks hP hD hS (hc.symm) ⟨⟨tad, arr, ea, cap, md, h9, hX8⟩, ⟨_, u.1, fun _ => if_pos rfl⟩, fun b fe hk hb hz => u.2 _ _ hb (hF9 _ _ hk hz)⟩ d_L_end_22
  · have hl : lv_has ls 5 [(0, .ref (xa 0)), (1, .int v), (2, .int how), (3, .ref oa)] := hl
    refine lv_aload_n hx hb d_L_end_0 rfl (zl hl rfl) ?_
    refine lv_iconst (v := 0) hx hb d_L_end_1 (by decide) ?_
    refine lv_aload_n hx hb d_L_end_2 rfl (zl hl rfl) ?_
    refine lv_iload_n hx hb d_L_end_3 rfl (zl hl rfl) ?_
    refine lv_iload_n hx hb d_L_end_4 rfl (zl hl rfl) ?_
    refine z_throwV (As := [.int v, .int how]) (rest := [.int 0, .ref oa]) (pc := 5) (hpc := 13) ⟨hx, hb, hml, hown, hts⟩ (c_X_end_T1 l hl0 hP hX v how hc) (cwV 2 hts (tt_V tw_516 tw_513 tw_514 tw_515 tw_30) rfl rfl rfl (by decide +kernel) ⟨Nat.le_of_ble_eq_true rfl, Nat.le_of_ble_eq_true rfl⟩) (zPx_V hKN hZB hP (ci := 3) (q := (R_X, F_X, 5)) rfl (PX_x hX)) rfl hl.1 (Nat.le_of_ble_eq_true rfl) d_L_end_5 ⟨Nat.le_of_ble_eq_true rfl, Nat.le_of_ble_eq_true rfl⟩ (fun U q9 cell9 h1 h2 h3 h4 h5 h6 h7 => zFind_1 (E := "java/util/NoSuchElementException") (C1 := "java/util/NoSuchElementException") h7 h1 h2 h3 h4 h5 h6 hown htab ⟨by show 0 ≤ 5; decide, by show 5 < 10; decide⟩ (by decide) (hts _ tw_512) (hZB.2.1.1 (.castable "java/util/NoSuchElementException" "java/util/NoSuchElementException") (by simp [zTW]) _ s (Vm.Alike.refl _) (fun _ _ => rfl))) (fun q9 H1 hsz hkp => ?_)
    have hP1 : va_P D vwCl ws H1 := va_P.kept hP (fun k x hx => hkp x.1 ((hP k x hx).lt))
    have hS1 : va_S (fun q => B ≤ q) s.heap H1 [] := ⟨hsz, fun q h1 _ => hkp q h1, fun q h => nomatch h⟩
    refine lv_astore (lv' := [(4, .ref q9), (0, .ref (xa 0)), (1, .int v), (2, .int how), (3, .ref oa)]) hx hb d_L_end_13 hl (by decide) rfl (fun ls hl => ?_)
    refine lv_iconst (v := 1) hx hb d_L_end_15 (by decide) ?_
    exact z_iretR hx hb hr hlocks hP1 hD hS1 (hc.symm) ⟨⟨tad, arr, ea, cap, md, h, by rw [mEnd_no (by rw [hc]; decide)]; exact hX⟩, ⟨go, ho9, fun z => absurd z (by rw [hc]; decide)⟩, fun b fe _ _ hz => hz⟩ d_L_end_16
  · have hl : lv_has ls 5 [(0, .ref (xa 0)), (1, .int v), (2, .int how), (3, .ref oa)] := hl
    refine lv_aload_n hx hb d_L_end_0 rfl (zl hl rfl) ?_
    refine lv_iconst (v := 0) hx hb d_L_end_1 (by decide) ?_
    refine lv_aload_n hx hb d_L_end_2 rfl (zl hl rfl) ?_
    refine lv_iload_n hx hb d_L_end_3 rfl (zl hl rfl) ?_
    refine lv_iload_n hx hb d_L_end_4 rfl (zl hl rfl) ?_
    refine z_throwV (As := [.int v, .int how]) (rest := [.int 0, .ref oa]) (pc := 5) (hpc := 17) ⟨hx, hb, hml, hown, hts⟩ (c_X_end_T2 l hl0 hP hX v how hc) (cwV 2 hts (tt_V tw_516 tw_513 tw_514 tw_515 tw_30) rfl rfl rfl (by decide +kernel) ⟨Nat.le_of_ble_eq_true rfl, Nat.le_of_ble_eq_true rfl⟩) (zPx_V hKN hZB hP (ci := 3) (q := (R_X, F_X, 5)) rfl (PX_x hX)) rfl hl.1 (Nat.le_of_ble_eq_true rfl) d_L_end_5 ⟨Nat.le_of_ble_eq_true rfl, Nat.le_of_ble_eq_true rfl⟩ (fun U q9 cell9 h1 h2 h3 h4 h5 h6 h7 => zFind_2 (E := "java/lang/IllegalArgumentException") (C1 := "java/util/NoSuchElementException") (C2 := "java/lang/IllegalArgumentException") h7 h1 h2 h3 h4 h5 h6 hown htab ⟨by show 0 ≤ 5; decide, by show 5 < 10; decide⟩ ⟨by show 0 ≤ 5; decide, by show 5 < 10; decide⟩ (by decide) (by decide) (hts _ tw_512) hZB.2.2.2 (hts _ tw_292) (hZB.2.1.1 (.castable "java/lang/IllegalArgumentException" "java/lang/IllegalArgumentException") (by simp [zTW]) _ s (Vm.Alike.refl _) (fun _ _ => rfl))) (fun q9 H1 hsz hkp => ?_)
    have hP1 : va_P D vwCl ws H1 := va_P.kept hP (fun k x hx => hkp x.1 ((hP k x hx).lt))
    have hS1 : va_S (fun q => B ≤ q) s.heap H1 [] := ⟨hsz, fun q h1 _ => hkp q h1, fun q h => nomatch h⟩
    refine lv_astore (lv' := [(4, .ref q9), (0, .ref (xa 0)), (1, .int v), (2, .int how), (3, .ref oa)]) hx hb d_L_end_17 hl (by decide) rfl (fun ls hl => ?_)
    refine lv_iconst (v := 2) hx hb d_L_end_19 (by decide) ?_
    exact z_iretR hx hb hr hlocks hP1 hD hS1 (hc.symm) ⟨⟨tad, arr, ea, cap, md, h, by rw [mEnd_no (by rw [hc]; decide)]; exact hX⟩, ⟨go, ho9, fun z => absurd z (by rw [hc]; decide)⟩, fun b fe _ _ hz => hz⟩ d_L_end_20
set_option maxHeartbeats 4000000 in
set_option maxRecDepth 100000 in
theorem c_L_add (l : Launch) (hl0 : l.stackTraces = false) {D : va_G} {kk : Nat → ClassId} {ws : va_W} {H : Heap} {e0 mi B : Nat} (hP : va_P D vwCl ws H) (hD : va_D (fun q => B ≤ q) ws) (hB : B ≤ H.size) {xa qad gad tad : Nat → Nat} {time tok : Int32} {n : Nat} {f : FF} {ky : Nat → Int64} {h : FF} {qar gar arr : Nat → Option Nat} {ea cap : Nat} {md : Int32} (hX : PX kk xa qad gad tad e0 time tok n f ky h qar gar arr ea cap md ws) {oa : Nat} {go : Nat → Int64} (ho9 : zin ws oa (.inl (kk 1, 1, .inr (.inl go)))) (q r g : Int32) (kv : Int64) (delay : Int32) (hlv : cnt (pLive f) n ≤ 64) : Met l y_L_add (Cond.codeWith y_L_add b_L_add 9 (some .int) [(0, 16, 19, 13), (0, 16, 23, 15)] :: TT) ({ frames := 10, cells := 2, slots := 612, locals := 400 }) (zPw [.ref (xa 0), .int q, .int r, .int g, .long kv, .int delay, .ref oa] H D vwCl (TY kk) e0 mi B) (zR D vwCl B (some (.int (xAdd f ky time n q r g kv delay))) (WR kk oa (fun ws' => XS kk xa qad gad e0 qar gar time tok (if cNew f ky time n q r g kv delay = true then n + 1 else n) (if cNew f ky time n q r g kv delay = true then mAdd f n q r g time delay else f) (if cNew f ky time n q r g kv delay = true then vp_updL ky n kv else ky) ws') (xAdd f ky time n q r g kv delay = 0) (rAdd f ky time n q r g kv delay) ws)) 2 612 (fun q => B ≤ q) := by
  refine z_bodyW (by decide) (Nat.le_of_ble_eq_true rfl) ?_
  intro p e s m below meth c ls C0 htab hH hKN hZB hl
  obtain ⟨hx, hb, hr, hts, hown, hlocks, hml⟩ := C0
  subst hH
  have hK := hKN.1
  have hN := hKN.2
  have hZA := hZB.1
  have hn := PX_n hX
  have hS : va_S (fun q => B ≤ q) s.heap s.heap [] := va_S.rf
  have hA0 : ∀ q : Nat, s.heap.size ≤ q → (fun q => B ≤ q) q := fun q h => Nat.le_trans hB h
  rcases xAdd_3 f ky time n q r g kv delay with hc | hc | hc
  · have hl : lv_has ls 9 [(0, .ref (xa 0)), (1, .int q), (2, .int r), (3, .int g), (4, .long kv), (6, .int delay), (7, .ref oa)] := hl
    refine lv_aload hx hb d_L_add_0 (zl hl rfl) ?_
    refine lv_iconst (v := 0) hx hb d_L_add_2 (by decide) ?_
    refine lv_aload_n hx hb d_L_add_3 rfl (zl hl rfl) ?_
    refine lv_iload_n hx hb d_L_add_4 rfl (zl hl rfl) ?_
    refine lv_iload_n hx hb d_L_add_5 rfl (zl hl rfl) ?_
    refine lv_iload_n hx hb d_L_add_6 rfl (zl hl rfl) ?_
    refine lv_lload hx hb d_L_add_7 (zl hl rfl) ?_
    refine lv_iload hx hb d_L_add_9 (zl hl rfl) ?_
    refine z_call (va_runV (As := [.int q, .int r, .int g, .long kv, .int delay]) (rest := [.int 0, .ref oa]) ⟨hx, hb, hml, hown, hts⟩ (c_X_add l hP hD hB hX q r g kv delay hc hlv) (cwV 5 hts (tt_V tw_297 tw_294 tw_295 tw_296 tw_30) rfl rfl rfl (by decide +kernel) ⟨Nat.le_of_ble_eq_true rfl, Nat.le_of_ble_eq_true rfl⟩) (zPa_V hKN (hZA.on hS) hP (ci := 3) (q := (R_X, F_X, 5)) rfl (PX_x hX)) rfl rfl hl.1 rfl (lv_room (Nat.le_of_ble_eq_true rfl)) d_L_add_11 ⟨Nat.le_of_ble_eq_true rfl, Nat.le_of_ble_eq_true rfl⟩) hS (fun ws H locs hR hP hD hz9 hS => ?_)
    obtain ⟨⟨tad', arr', ea', cap', md', h9, hX9⟩, hF9⟩ := hR
    refine lv_i2l (v := (rAdd f ky time n q r g kv delay).toInt64) hx hb d_L_add_14 rfl ?_
    have hD0 := hD
    have hO := hF9 _ _ rfl ho9
    refine z_last hx hb hK hP hD hS 1 hO rfl 0 rfl (by decide) (by decide) d_L_add_15 (fun ws H locs hP hD hS u => ?_)
    refine lv_goto (tgt := 27) hx hb d_L_add_16 (by decide) ?_
    refine lv_iconst (v := 0) hx hb d_L_add_27 (by decide) ?_
    have hX8 := PX_keep hX9 (fun b fe hk hz => u.2 _ _ (zin_ne hD0 hz hO (fun z => by rw [z] at hk; cases hk)) hz)
    exact z_iretR hx hb hr hlocks hP hD hS (hc.symm) ⟨⟨tad', arr', ea', cap', md', h9, hX8⟩, ⟨_, u.1, fun _ => if_pos rfl⟩, fun b fe hk hb hz => u.2 _ _ hb (hF9 _ _ hk hz)⟩ d_L_add_28
  · have hl : lv_has ls 9 [(0, .ref (xa 0)), (1, .int q), (2, .int r), (3, .int g), (4, .long kv), (6, .int delay), (7, .ref oa)] := hl
    refine lv_aload hx hb d_L_add_0 (zl hl rfl) ?_
    refine lv_iconst (v := 0) hx hb d_L_add_2 (by decide) ?_
    refine lv_aload_n hx hb d_L_add_3 rfl (zl hl rfl) ?_
    refine lv_iload_n hx hb d_L_add_4 rfl (zl hl rfl) ?_
    refine lv_iload_n hx hb d_L_add_5 rfl (zl hl rfl) ?_
    refine lv_iload_n hx hb d_L_add_6 rfl (zl hl rfl) ?_
    refine lv_lload hx hb d_L_add_7 (zl hl rfl) ?_
    refine lv_iload hx hb d_L_add_9 (zl hl rfl) ?_
    refine z_throwV (As := [.int q, .int r, .int g, .long kv, .int delay]) (rest := [.int 0, .ref oa]) (pc := 11) (hpc := 19) ⟨hx, hb, hml, hown, hts⟩ (c_X_add_T1 l hl0 hP hX q r g kv delay hc) (cwV 5 hts (tt_V tw_297 tw_294 tw_295 tw_296 tw_30) rfl rfl rfl (by decide +kernel) ⟨Nat.le_of_ble_eq_true rfl, Nat.le_of_ble_eq_true rfl⟩) (zPx_V hKN hZB hP (ci := 3) (q := (R_X, F_X, 5)) rfl (PX_x hX)) rfl hl.1 (Nat.le_of_ble_eq_true rfl) d_L_add_11 ⟨Nat.le_of_ble_eq_true rfl, Nat.le_of_ble_eq_true rfl⟩ (fun U q9 cell9 h1 h2 h3 h4 h5 h6 h7 => zFind_1 (E := "java/lang/IllegalArgumentException") (C1 := "java/lang/IllegalArgumentException") h7 h1 h2 h3 h4 h5 h6 hown htab ⟨by show 0 ≤ 11; decide, by show 11 < 16; decide⟩ (by decide) (hts _ tw_292) (hZB.2.1.1 (.castable "java/lang/IllegalArgumentException" "java/lang/IllegalArgumentException") (by simp [zTW]) _ s (Vm.Alike.refl _) (fun _ _ => rfl))) (fun q9 H1 hsz hkp => ?_)
    have hP1 : va_P D vwCl ws H1 := va_P.kept hP (fun k x hx => hkp x.1 ((hP k x hx).lt))
    have hS1 : va_S (fun q => B ≤ q) s.heap H1 [] := ⟨hsz, fun q h1 _ => hkp q h1, fun q h => nomatch h⟩
    refine W.widen (k := 2) (n := 612) (Nat.le_of_ble_eq_true rfl) (Nat.le_of_ble_eq_true rfl) ?_
    refine lv_astore (lv' := [(8, .ref q9), (0, .ref (xa 0)), (1, .int q), (2, .int r), (3, .int g), (4, .long kv), (6, .int delay), (7, .ref oa)]) hx hb d_L_add_19 hl (by decide) rfl (fun ls hl => ?_)
    refine lv_iconst (v := 1) hx hb d_L_add_21 (by decide) ?_
    exact z_iretR hx hb hr hlocks hP1 hD hS1 (hc.symm) ⟨⟨tad, arr, ea, cap, md, h, by rw [cNew_no (by rw [hc]; decide)]; exact hX⟩, ⟨go, ho9, fun z => absurd z (by rw [hc]; decide)⟩, fun b fe _ _ hz => hz⟩ d_L_add_22
  · have hl : lv_has ls 9 [(0, .ref (xa 0)), (1, .int q), (2, .int r), (3, .int g), (4, .long kv), (6, .int delay), (7, .ref oa)] := hl
    refine lv_aload hx hb d_L_add_0 (zl hl rfl) ?_
    refine lv_iconst (v := 0) hx hb d_L_add_2 (by decide) ?_
    refine lv_aload_n hx hb d_L_add_3 rfl (zl hl rfl) ?_
    refine lv_iload_n hx hb d_L_add_4 rfl (zl hl rfl) ?_
    refine lv_iload_n hx hb d_L_add_5 rfl (zl hl rfl) ?_
    refine lv_iload_n hx hb d_L_add_6 rfl (zl hl rfl) ?_
    refine lv_lload hx hb d_L_add_7 (zl hl rfl) ?_
    refine lv_iload hx hb d_L_add_9 (zl hl rfl) ?_
    refine z_throwV (As := [.int q, .int r, .int g, .long kv, .int delay]) (rest := [.int 0, .ref oa]) (pc := 11) (hpc := 23) ⟨hx, hb, hml, hown, hts⟩ (c_X_add_T2 l hl0 hP hX q r g kv delay hc hlv) (cwV 5 hts (tt_V tw_297 tw_294 tw_295 tw_296 tw_30) rfl rfl rfl (by decide +kernel) ⟨Nat.le_of_ble_eq_true rfl, Nat.le_of_ble_eq_true rfl⟩) (zPx_V hKN hZB hP (ci := 3) (q := (R_X, F_X, 5)) rfl (PX_x hX)) rfl hl.1 (Nat.le_of_ble_eq_true rfl) d_L_add_11 ⟨Nat.le_of_ble_eq_true rfl, Nat.le_of_ble_eq_true rfl⟩ (fun U q9 cell9 h1 h2 h3 h4 h5 h6 h7 => zFind_2 (E := "java/lang/IllegalStateException") (C1 := "java/lang/IllegalArgumentException") (C2 := "java/lang/IllegalStateException") h7 h1 h2 h3 h4 h5 h6 hown htab ⟨by show 0 ≤ 11; decide, by show 11 < 16; decide⟩ ⟨by show 0 ≤ 11; decide, by show 11 < 16; decide⟩ (by decide) (by decide) (hts _ tw_292) hZB.2.2.1 (hts _ tw_293) (hZB.2.1.1 (.castable "java/lang/IllegalStateException" "java/lang/IllegalStateException") (by simp [zTW]) _ s (Vm.Alike.refl _) (fun _ _ => rfl))) (fun q9 H1 hsz hkp => ?_)
    have hP1 : va_P D vwCl ws H1 := va_P.kept hP (fun k x hx => hkp x.1 ((hP k x hx).lt))
    have hS1 : va_S (fun q => B ≤ q) s.heap H1 [] := ⟨hsz, fun q h1 _ => hkp q h1, fun q h => nomatch h⟩
    refine W.widen (k := 2) (n := 612) (Nat.le_of_ble_eq_true rfl) (Nat.le_of_ble_eq_true rfl) ?_
    refine lv_astore (lv' := [(8, .ref q9), (0, .ref (xa 0)), (1, .int q), (2, .int r), (3, .int g), (4, .long kv), (6, .int delay), (7, .ref oa)]) hx hb d_L_add_23 hl (by decide) rfl (fun ls hl => ?_)
    refine lv_iconst (v := 2) hx hb d_L_add_25 (by decide) ?_
    exact z_iretR hx hb hr hlocks hP1 hD hS1 (hc.symm) ⟨⟨tad, arr, ea, cap, md, h, by rw [cNew_no (by rw [hc]; decide)]; exact hX⟩, ⟨go, ho9, fun z => absurd z (by rw [hc]; decide)⟩, fun b fe _ _ hz => hz⟩ d_L_add_26
