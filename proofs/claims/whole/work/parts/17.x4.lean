def mXBeat (f : FF) (time : Int32) (t : Nat) : FF := w1 f 7 t (time + f 10 (6 * qx f t))
theorem w1_s {f : FF} {j t : Nat} {v : Int32} : w1 f j t v j t = v := by simp [w1, va_up, upd]
theorem w1_o {f : FF} {j t : Nat} {v : Int32} {i : Nat} (h : i ≠ t) (c : Nat) : w1 f j t v c i = f c i := by
  unfold w1 va_up
  by_cases e : c = j
  · rw [if_pos e, e]
    exact if_neg h
  · rw [if_neg e]
theorem w1_c {f : FF} {j t : Nat} {v : Int32} {c : Nat} (h : c ≠ j) : w1 f j t v c = f c := by
  unfold w1 va_up
  exact if_neg h
set_option maxHeartbeats 4000000 in
set_option maxRecDepth 100000 in
theorem c_X_cancel (l : Launch) {D : va_G} {ws : va_W} {H : Heap} (hP : va_P D vwCl ws H) {kk : Nat → ClassId} {xa qad gad tad : Nat → Nat} {e0 : Nat} {time tok : Int32} {n : Nat} {f : FF} {ky : Nat → Int64} {h : FF} {qar gar arr : Nat → Option Nat} {ea cap : Nat} {md : Int32} (hX : PX kk xa qad gad tad e0 time tok n f ky h qar gar arr ea cap md ws) {B : Nat} (hD : va_D (fun q => B ≤ q) ws) (v : Int32) : Met l y_X_cancel (Cond.code y_X_cancel b_X_cancel 3 (some .boolean) :: TT) ({ frames := 5, cells := 0, slots := 0, locals := 200 }) (zPc [.ref (xa 0), .int v] H D vwCl (TY kk)) (zR D vwCl B (some (.int (zb (cCan f n v)))) (fun ws' => XR kk xa qad gad tad e0 time tok n (mCan f n v) ky qar gar arr ea cap md ws ws')) 0 0 (fun q => B ≤ q) := by
  refine z_body (by decide) (Nat.le_of_ble_eq_true rfl) ?_
  intro p e s m below meth c ls C0 hH hKN hl
  obtain ⟨hx, hb, hr, hts, hown, hlocks, hml⟩ := C0
  subst hH
  have hK := hKN.1
  have hN := hKN.2
  have hS : va_S (fun q => B ≤ q) s.heap s.heap [] := va_S.rf
  have hn := PX_n hX
  have hl : lv_has ls 3 [(0, .ref (xa 0)), (1, .int v)] := hl
  refine lv_aload_n hx hb d_X_cancel_0 rfl (zl hl rfl) ?_
  refine lv_iload_n hx hb d_X_cancel_1 rfl (zl hl rfl) ?_
  by_cases bq_1 : sTask v n = true
  · obtain ⟨x_2, hx_3, rfl⟩ := sTask_t (by omega) bq_1
    have ht_4 : tx (nI x_2) = x_2 := tx_nI (by omega)
    have hr_5 : tRef tad n (nI x_2) = some (tad x_2) := by rw [tRef, if_pos bq_1, ht_4]
    refine z_callq (va_runV (As := [.int (nI x_2)]) (rest := []) ⟨hx, hb, hml, hown, hts⟩ (c_X_taskAt l hP hX (nI x_2)) (cwV 1 hts (tt_V tw_183 tw_180 tw_182 tw_1 tw_30) rfl rfl rfl (by decide +kernel) ⟨Nat.le_of_ble_eq_true rfl, Nat.le_of_ble_eq_true rfl⟩) (zPc_V hKN hP (ci := 3) (q := (R_X, F_X, 5)) rfl (PX_x hX)) rfl rfl hl.1 rfl (lv_room (Nat.le_of_ble_eq_true rfl)) d_X_cancel_2 ⟨Nat.zero_le _, Nat.zero_le _⟩) hS (fun locs hS => ?_)
    rw [hr_5]
    refine lv_astore_n (lv' := [(2, .ref (tad x_2)), (0, .ref (xa 0)), (1, .int (nI x_2))]) hx hb d_X_cancel_5 rfl hl (by decide) rfl (fun ls hl => ?_)
    refine lv_aload_n hx hb d_X_cancel_6 rfl (zl hl rfl) ?_
    refine lv_ifnull hx hb d_X_cancel_7 ?_
    refine lv_aload_n hx hb d_X_cancel_10 rfl (zl hl rfl) ?_
    refine z_calli (va_runV (As := []) (rest := []) ⟨hx, hb, hml, hown, hts⟩ (c_T_isLive l hP (PX_t hX (k := x_2) (by omega))) (cwV 0 hts (tt_V tw_190 tw_187 tw_188 tw_189 tw_44) rfl rfl rfl (by decide +kernel) ⟨Nat.le_of_ble_eq_true rfl, Nat.le_of_ble_eq_true rfl⟩) (zPc_V hKN hP (ci := 2) (q := (R_T, F_T, 12)) rfl (PX_t hX (k := x_2) (by omega))) rfl rfl hl.1 rfl (lv_room (Nat.le_of_ble_eq_true rfl)) d_X_cancel_11 ⟨Nat.zero_le _, Nat.zero_le _⟩) hS (fun locs hS => ?_)
    refine lv_if_ne (tgt := 19) hx hb d_X_cancel_14 (by decide) (fun c_6 => ?_) (fun c_6 => ?_)
    · have b2 := zb_t c_6
      refine lv_aload_n hx hb d_X_cancel_19 rfl (zl hl rfl) ?_
      refine lv_iconst (v := 4) hx hb d_X_cancel_20 (by decide) ?_
      have hD0 := hD
      refine z_call (va_runV (As := [.int 4]) (rest := []) ⟨hx, hb, hml, hown, hts⟩ (c_T_become l hP (PX_t hX (k := x_2) (by omega)) (PX_tg hX (k := x_2) (by omega)) hD 4) (cwV 1 hts (tt_V tw_194 tw_191 tw_192 tw_193 tw_44) rfl rfl rfl (by decide +kernel) ⟨Nat.le_of_ble_eq_true rfl, Nat.le_of_ble_eq_true rfl⟩) (zPc_V hKN hP (ci := 2) (q := (R_T, F_T, 12)) rfl (PX_t hX (k := x_2) (by omega))) rfl rfl hl.1 rfl (lv_room (Nat.le_of_ble_eq_true rfl)) d_X_cancel_21 ⟨Nat.le_of_ble_eq_true rfl, Nat.le_of_ble_eq_true rfl⟩) hS (fun ws H locs hR hP hD hz9 hS => ?_)
      obtain ⟨hz1, hg1, hFr⟩ := hR
      have hXR := PX_task (f' := w1 f 6 x_2 4) hD0 hX (by omega) hz1 hg1 hFr w1_s rfl (fun j h5 h6 h7 h8 h9 => by simp only [w1_c h5, w1_c h6, w1_c h7, w1_c h8, w1_c h9]) (fun i hi j => by simp only [w1_o hi]) ⟨fun h => absurd h (by decide), fun h => absurd h (by decide), fun h => absurd h (by decide)⟩
      refine lv_iconst (v := 1) hx hb d_X_cancel_24 (by decide) ?_
      exact z_zretR hx hb hr hlocks hP hD hS (by simp [cCan, zb, *]) (by rw [show mCan f n (nI x_2) = w1 f 6 x_2 4 by simp [mCan, cCan, *]]; exact hXR) d_X_cancel_25
    · have b2 := zb_f c_6
      refine lv_iconst (v := 0) hx hb d_X_cancel_17 (by decide) ?_
      exact z_zretR hx hb hr hlocks hP hD hS (by simp [cCan, zb, *]) (⟨⟨h, by first | (simp only [mCan, cCan, *, reduceIte, Bool.true_and, Bool.false_and, Bool.and_false, Bool.and_true, Bool.false_eq_true, Option.isSome]; done) | (simp only [mCan, cCan, *, reduceIte, Bool.true_and, Bool.false_and, Bool.and_false, Bool.and_true, Bool.false_eq_true]; exact hX)⟩, zfrX_rf⟩) d_X_cancel_18
  · have bq_1 : sTask v n = false := by simpa using bq_1
    have hr_5 : tRef tad n v = none := by rw [tRef, if_neg (by rw [bq_1]; decide)]
    refine z_callq (va_runV (As := [.int v]) (rest := []) ⟨hx, hb, hml, hown, hts⟩ (c_X_taskAt l hP hX v) (cwV 1 hts (tt_V tw_183 tw_180 tw_182 tw_1 tw_30) rfl rfl rfl (by decide +kernel) ⟨Nat.le_of_ble_eq_true rfl, Nat.le_of_ble_eq_true rfl⟩) (zPc_V hKN hP (ci := 3) (q := (R_X, F_X, 5)) rfl (PX_x hX)) rfl rfl hl.1 rfl (lv_room (Nat.le_of_ble_eq_true rfl)) d_X_cancel_2 ⟨Nat.zero_le _, Nat.zero_le _⟩) hS (fun locs hS => ?_)
    rw [hr_5]
    refine lv_astore_nN (lv' := [(2, .null), (0, .ref (xa 0)), (1, .int v)]) hx hb d_X_cancel_5 rfl hl (by decide) rfl (fun ls hl => ?_)
    refine lv_aload_nN hx hb d_X_cancel_6 rfl (zl hl rfl) ?_
    refine lv_ifnullN (tgt := 17) hx hb d_X_cancel_7 (by decide) ?_
    refine lv_iconst (v := 0) hx hb d_X_cancel_17 (by decide) ?_
    exact z_zretR hx hb hr hlocks hP hD hS (by simp [cCan, zb, *]) (⟨⟨h, by first | (simp only [mCan, cCan, *, reduceIte, Bool.true_and, Bool.false_and, Bool.and_false, Bool.and_true, Bool.false_eq_true, Option.isSome]; done) | (simp only [mCan, cCan, *, reduceIte, Bool.true_and, Bool.false_and, Bool.and_false, Bool.and_true, Bool.false_eq_true]; exact hX)⟩, zfrX_rf⟩) d_X_cancel_18
set_option maxHeartbeats 4000000 in
set_option maxRecDepth 100000 in
theorem c_X_beat (l : Launch) {D : va_G} {ws : va_W} {H : Heap} (hP : va_P D vwCl ws H) {kk : Nat → ClassId} {xa qad gad tad : Nat → Nat} {e0 : Nat} {time tok : Int32} {n : Nat} {f : FF} {ky : Nat → Int64} {h : FF} {qar gar arr : Nat → Option Nat} {ea cap : Nat} {md : Int32} (hX : PX kk xa qad gad tad e0 time tok n f ky h qar gar arr ea cap md ws) {B : Nat} (hD : va_D (fun q => B ≤ q) ws) (v : Int32) : Met l y_X_beat (Cond.code y_X_beat b_X_beat 3 (some .boolean) :: TT) ({ frames := 5, cells := 0, slots := 0, locals := 200 }) (zPc [.ref (xa 0), .int v] H D vwCl (TY kk)) (zR D vwCl B (some (.int (zb (fnd (pTok f v) 0 n).isSome))) (fun ws' => XR kk xa qad gad tad e0 time tok n (mBeat f time (fnd (pTok f v) 0 n)) ky qar gar arr ea cap md ws ws')) 0 0 (fun q => B ≤ q) := by
  refine z_body (by decide) (Nat.le_of_ble_eq_true rfl) ?_
  intro p e s m below meth c ls C0 hH hKN hl
  obtain ⟨hx, hb, hr, hts, hown, hlocks, hml⟩ := C0
  subst hH
  have hK := hKN.1
  have hN := hKN.2
  have hS : va_S (fun q => B ≤ q) s.heap s.heap [] := va_S.rf
  have hn := PX_n hX
  have hl : lv_has ls 3 [(0, .ref (xa 0)), (1, .int v)] := hl
  refine lv_aload_n hx hb d_X_beat_0 rfl (zl hl rfl) ?_
  refine lv_iload_n hx hb d_X_beat_1 rfl (zl hl rfl) ?_
  refine z_callq (va_runV (As := [.int v]) (rest := []) ⟨hx, hb, hml, hown, hts⟩ (c_X_lentWith l hP hX v) (cwV 1 hts (tt_V tw_156 tw_153 tw_155 tw_0 tw_30) rfl rfl rfl (by decide +kernel) ⟨Nat.le_of_ble_eq_true rfl, Nat.le_of_ble_eq_true rfl⟩) (zPc_V hKN hP (ci := 3) (q := (R_X, F_X, 5)) rfl (PX_x hX)) rfl rfl hl.1 rfl (lv_room (Nat.le_of_ble_eq_true rfl)) d_X_beat_2 ⟨Nat.zero_le _, Nat.zero_le _⟩) hS (fun locs hS => ?_)
  rcases ho : fnd (pTok f v) 0 n with _ | t
  · have hm1 : True := trivial
    refine lv_astore_nN (lv' := [(2, .null), (0, .ref (xa 0)), (1, .int v)]) hx hb d_X_beat_5 rfl hl (by decide) rfl (fun ls hl => ?_)
    refine lv_aload_nN hx hb d_X_beat_6 rfl (zl hl rfl) ?_
    refine lv_ifnonnullN hx hb d_X_beat_7 ?_
    refine lv_iconst (v := 0) hx hb d_X_beat_10 (by decide) ?_
    exact z_zretR hx hb hr hlocks hP hD hS rfl (⟨⟨h, hX⟩, zfrX_rf⟩) d_X_beat_11
  · have hto := fnd_some ho
    refine lv_astore_n (lv' := [(2, .ref (tad t)), (0, .ref (xa 0)), (1, .int v)]) hx hb d_X_beat_5 rfl hl (by decide) rfl (fun ls hl => ?_)
    refine lv_aload_n hx hb d_X_beat_6 rfl (zl hl rfl) ?_
    refine lv_ifnonnull (tgt := 12) hx hb d_X_beat_7 (by decide) ?_
    refine lv_aload_n hx hb d_X_beat_12 rfl (zl hl rfl) ?_
    refine lv_aload_n hx hb d_X_beat_13 rfl (zl hl rfl) ?_
    refine z_get (C := R_X) (T := F_X) (N := 5) (v := .int time) hx hb hts inT_X hown hK hP (PX_x hX) rfl 3 (by decide) tw_136 (fun _ h => h) rfl d_X_beat_14 ?_
    refine lv_aload_n hx hb d_X_beat_17 rfl (zl hl rfl) ?_
    refine z_get (C := R_T) (T := F_T) (N := 12) (v := .ref (qad (qx f t))) hx hb hts inT_T hown hK hP (PX_t hX (k := t) (by omega)) rfl 1 (by decide) tw_400 (fun _ h => h) rfl d_X_beat_18 ?_
    refine z_get (C := R_Q) (T := F_Q) (N := 6) (v := .int (f 10 (6 * (qx f t)))) hx hb hts inT_Q hown hK hP (PX_q hX (i := (qx f t)) (PX_okq hX t (by omega)).2) rfl 0 (by decide) tw_94 (fun _ h => h) rfl d_X_beat_21 ?_
    refine lv_iadd hx hb d_X_beat_24 ?_
    have hto1 : f 6 t = 1 := by have := hto.2.2; simp only [pTok, Bool.and_eq_true, decide_eq_true_eq] at this; exact this.1
    have hrl := (PX_rel hX t (by omega)).2.1 hto1
    have hD0 := hD
    refine z_put (C := R_T) (T := F_T) (N := 12) (v := .int (time + (f 10 (6 * (qx f t))))) hx hb hts inT_T ft_T ft_T_ok fn_T hown hK hP hD hS (PX_t hX (k := t) (by omega)) rfl 8 (by decide) tw_412 (fun _ h => h) rfl rfl rfl (by simp) d_X_beat_25 (fun ws H locs hP hD hS u => ?_)
    have hXR := PX_task (f' := mXBeat f time t) (v6 := f 6 t) (v5 := f 5 t) (u0 := h 0 t) (u1 := time + f 10 (6 * qx f t)) (u2 := h 2 t) (u3 := h 3 t) (u4 := h 4 t) hD0 hX (by omega) u.1 (fun g hg => by rw [hto1, show gNew 1 1 (nI (cnt (pLent f (f 3 t)) n)) = nI (cnt (pLent f (f 3 t)) n) from Int32.sub_add_cancel _ _]; exact u.2 _ _ (zin_ne hD0 (PX_tg hX (by omega) g hg) (PX_t hX (by omega)) (by intro h; cases h)) (PX_tg hX (by omega) g hg)) (zfrT_a zfrT_rf u) rfl rfl (fun j h5 h6 h7 h8 h9 => w1_c h7) (fun i hi j => w1_o hi j) ⟨fun h => absurd (h.symm.trans hto1) (by decide), fun _ => ⟨w1_s.symm, hrl.2.1, hrl.2.2⟩, fun h => absurd (h.symm.trans hto1) (by decide)⟩
    refine lv_iconst (v := 1) hx hb d_X_beat_28 (by decide) ?_
    exact z_zretR hx hb hr hlocks hP hD hS rfl hXR d_X_beat_29
