def tx (t : Int32) : Nat := t.toNatClampNeg
theorem tx_nI {k : Nat} (h : k < 2 ^ 31) : tx (nI k) = k := nI_clamp h
theorem sWithin_nI {x : Int32} {h : Nat} (hh : h < 2 ^ 31) (hw : sWithin x 0 (nI h) = true) : ∃ a : Nat, a ≤ h ∧ x = nI a := by
  simp only [sWithin, Bool.and_eq_true, decide_eq_true_eq] at hw
  obtain ⟨j, hj, rfl⟩ := nI_of (x := x) (Int32.not_lt.mpr hw.1)
  exact ⟨j, (nI_leI hj hh).mp hw.2, rfl⟩
abbrev FF : Type := Nat → Nat → Int32
def w1 (f : FF) (j t : Nat) (v : Int32) : FF := va_up f j (upd (f j) t v)
def mBeat (f : FF) (time : Int32) (o : Option Nat) : FF := match o with
  | none => f
  | some t => w1 f 7 t (time + f 10 (6 * qx f t))
def cCan (f : FF) (n : Nat) (t : Int32) : Bool := sTask t n && sLive (f 6 (tx t))
def mCan (f : FF) (n : Nat) (t : Int32) : FF := if cCan f n t = true then w1 f 6 (tx t) 4 else f
def cRev (f : FF) (n : Nat) (t : Int32) : Bool := sTask t n && decide (f 6 (tx t) = 3) && !decide (nI (cnt (pLive f) n) = 64)
def mRev (f : FF) (n : Nat) (time t : Int32) : FF := if cRev f n t = true then w1 (w1 (w1 f 6 (tx t) 0) 7 (tx t) time) 5 (tx t) 0 else f
def cSet (what which v : Int32) : Bool := sWithin what 0 6 && sWithin which 0 (if 6 ≤ what then 7 else 3) && sWithin v (sLeast what) (sGreat what)
def mSet (f : FF) (what which v : Int32) : FF := if cSet what which v = true then (if 6 ≤ what then w1 f 11 (tx which) v else w1 f 10 (6 * tx which + tx what) v) else f
def nxs (f : FF) (time : Int32) : Nat → Int32
  | 0 => -1
  | k + 1 => if (sLive (f 6 k) && decide (time < f 7 k) && (decide (nxs f time k = -1) || decide (f 7 k < nxs f time k))) = true then f 7 k else nxs f time k
def cTask (n : Nat) (t what : Int32) : Bool := sTask t n && sWithin what 0 6
def mTask (f : FF) (time : Int32) (n : Nat) (t what : Int32) : Int32 := if cTask n t what = true then
    (if what = 0 then f 6 (tx t) else if what = 1 then f 5 (tx t) else if what = 2 then (if f 6 (tx t) = 0 then f 7 (tx t) else -1) else if what = 3 then (if f 6 (tx t) = 1 then f 7 (tx t) else -1)
      else if what = 4 then (if f 6 (tx t) = 1 then f 8 (tx t) else -1) else if what = 5 then (if f 6 (tx t) = 1 then f 9 (tx t) else -1) else if f 6 (tx t) = 0 ∧ f 7 (tx t) ≤ time then wgt f time (tx t) else -1) else 0
def mCount (f : FF) (time : Int32) (n : Nat) (what : Int32) : Int32 := if sWithin what 5 12 = true then nI (cnt (pTo f (what - 5)) n) else if sWithin what 13 20 = true then nI (cnt (pLent f (what - 13)) n) else if sWithin what 21 24 = true then nI (cnt (pWq f (what - 21)) n)
  else if what = 0 then time else if what = 1 then nI n else if what = 2 then nI (cnt (pLive f) n) else if what = 3 then nI (cnt (pSt f 1) n) else if what = 4 then nI (cnt (pSt f 3) n) else -1
def mFirst (f : FF) (time : Int32) (n : Nat) (q : Int32) : Int32 := if sWithin q 0 3 = true then oI (fst f time n q n) else -1
set_option maxHeartbeats 4000000 in
set_option maxRecDepth 100000 in
theorem c_M_raise (l : Launch) {D : va_G} {ws : va_W} {H : Heap} (hP : va_P D vwCl ws H) {kk : Nat → ClassId} {ad : Nat → Nat} {thr time tok : Int32} {n : Nat} {f : Nat → Nat → Int32} {ky : Nat → Int64} (hM : PM kk ad thr time n tok f ky ws)  {B : Nat} (hD : va_D (fun q => B ≤ q) ws) (v : Int32) : Met l y_M_raise (Cond.code y_M_raise b_M_raise 2 (some .int) :: TT) ({ frames := 1, cells := 0, slots := 0, locals := 40 }) (zPc [.ref (ad 0), .int v] H D vwCl (TY kk)) (zR D vwCl B (some (.int 0)) (fun ws' => PM kk ad v time n tok f ky ws' ∧ zfrM ws ws')) 0 0 (fun q => B ≤ q) := by
  refine z_body (by decide) (Nat.le_of_ble_eq_true rfl) ?_
  intro p e s m below meth c ls C0 hH hKN hl
  obtain ⟨hx, hb, hr, hts, hown, hlocks, hml⟩ := C0
  subst hH
  have hK := hKN.1
  have hN := hKN.2
  have hS : va_S (fun q => B ≤ q) s.heap s.heap [] := va_S.rf
  have hF : zfrM ws ws := zfrM_rf
  have hl : lv_has ls 2 [(0, .ref (ad 0)), (1, .int v)] := hl
  refine lv_aload_n hx hb d_M_raise_0 rfl (zl hl rfl) ?_
  refine lv_iload_n hx hb d_M_raise_1 rfl (zl hl rfl) ?_
  have hD0 := hD
  refine z_put (C := R_M) (T := F_M) (N := 15) (v := .int v) hx hb hts inT_M ft_M ft_M_ok fn_M hown hK hP hD hS (PM_o hM) rfl 0 (by decide) tw_573 (fun _ h => h) rfl rfl rfl (by simp) d_M_raise_2 (fun ws H locs hP hD hS u_1 => ?_)
  have hF := zfrM_tr hF (zfrM_up hD0 (PM_o hM) rfl u_1)
  have hM := PM_wo (thr' := v) (time' := time) (n' := n) (tok' := tok) hM u_1
  refine lv_iconst (v := 0) hx hb d_M_raise_5 (by decide) ?_
  exact z_iretR hx hb hr hlocks hP hD hS (rfl) (⟨hM, hF⟩) d_M_raise_6
set_option maxHeartbeats 4000000 in
set_option maxRecDepth 100000 in
theorem c_M_beat (l : Launch) {D : va_G} {ws : va_W} {H : Heap} (hP : va_P D vwCl ws H) {kk : Nat → ClassId} {ad : Nat → Nat} {thr time tok : Int32} {n : Nat} {f : Nat → Nat → Int32} {ky : Nat → Int64} (hM : PM kk ad thr time n tok f ky ws)  {B : Nat} (hD : va_D (fun q => B ≤ q) ws) (v : Int32) (hn : n ≤ 400) (hq : okq f n) : Met l y_M_beat (Cond.code y_M_beat b_M_beat 3 (some .boolean) :: TT) ({ frames := 2, cells := 0, slots := 0, locals := 80 }) (zPc [.ref (ad 0), .int v] H D vwCl (TY kk)) (zR D vwCl B (some (.int (zb (fnd (pTok f v) 0 n).isSome))) (fun ws' => PM kk ad 0 time n tok (mBeat f time (fnd (pTok f v) 0 n)) ky ws' ∧ zfrM ws ws')) 0 0 (fun q => B ≤ q) := by
  refine z_body (by decide) (Nat.le_of_ble_eq_true rfl) ?_
  intro p e s m below meth c ls C0 hH hKN hl
  obtain ⟨hx, hb, hr, hts, hown, hlocks, hml⟩ := C0
  subst hH
  have hK := hKN.1
  have hN := hKN.2
  have hS : va_S (fun q => B ≤ q) s.heap s.heap [] := va_S.rf
  have hF : zfrM ws ws := zfrM_rf
  have hl : lv_has ls 3 [(0, .ref (ad 0)), (1, .int v)] := hl
  refine lv_aload_n hx hb d_M_beat_0 rfl (zl hl rfl) ?_
  refine lv_iconst (v := 0) hx hb d_M_beat_1 (by decide) ?_
  have hD0 := hD
  refine z_put (C := R_M) (T := F_M) (N := 15) (v := .int 0) hx hb hts inT_M ft_M ft_M_ok fn_M hown hK hP hD hS (PM_o hM) rfl 0 (by decide) tw_573 (fun _ h => h) rfl rfl rfl (by simp) d_M_beat_2 (fun ws H locs hP hD hS u_1 => ?_)
  have hF := zfrM_tr hF (zfrM_up hD0 (PM_o hM) rfl u_1)
  have hM := PM_wo (thr' := 0) (time' := time) (n' := n) (tok' := tok) hM u_1
  refine lv_aload_n hx hb d_M_beat_5 rfl (zl hl rfl) ?_
  refine lv_iload_n hx hb d_M_beat_6 rfl (zl hl rfl) ?_
  refine z_calli (va_runV (As := [.int v]) (rest := []) ⟨hx, hb, hml, hown, hts⟩ (c_M_lentWith l hP hM v hn) (cwV 1 hts (tt_V tw_679 tw_676 tw_678 tw_24 tw_36) rfl rfl rfl (by decide +kernel) ⟨Nat.le_of_ble_eq_true rfl, Nat.le_of_ble_eq_true rfl⟩) (zPc_V hKN hP (ci := 4) (q := (R_M, F_M, 15)) rfl (PM_o hM)) rfl rfl hl.1 rfl (lv_room (Nat.le_of_ble_eq_true rfl)) d_M_beat_7 ⟨Nat.zero_le _, Nat.zero_le _⟩) hS (fun locs hS => ?_)
  rcases ho : fnd (pTok f v) 0 n with _ | t
  · have hm1 : True := trivial
    refine lv_istore_n (lv' := [(2, .int (-1)), (0, .ref (ad 0)), (1, .int v)]) hx hb d_M_beat_10 rfl hl (by decide) rfl (fun ls hl => ?_)
    refine lv_iload_n hx hb d_M_beat_11 rfl (zl hl rfl) ?_
    refine lv_iconst (v := (-1)) hx hb d_M_beat_12 (by decide) ?_
    refine lv_icmp_ne (tgt := 18) hx hb d_M_beat_13 (by decide) (fun c_2 => ?_) (fun c_2 => ?_)
    · exact absurd rfl c_2
    · refine lv_iconst (v := 0) hx hb d_M_beat_16 (by decide) ?_
      exact z_zretR hx hb hr hlocks hP hD hS (rfl) (⟨hM, hF⟩) d_M_beat_17
  · have hto := fnd_some ho
    refine lv_istore_n (lv' := [(2, .int (nI t)), (0, .ref (ad 0)), (1, .int v)]) hx hb d_M_beat_10 rfl hl (by decide) rfl (fun ls hl => ?_)
    refine lv_iload_n hx hb d_M_beat_11 rfl (zl hl rfl) ?_
    refine lv_iconst (v := (-1)) hx hb d_M_beat_12 (by decide) ?_
    refine lv_icmp_ne (tgt := 18) hx hb d_M_beat_13 (by decide) (fun c_3 => ?_) (fun c_3 => ?_)
    · refine lv_aload_n hx hb d_M_beat_18 rfl (zl hl rfl) ?_
      refine z_get (C := R_M) (T := F_M) (N := 15) (v := .ref (ad 7)) hx hb hts inT_M hown hK hP (PM_o hM) rfl 10 (by decide) tw_583 (fun _ h => h) rfl d_M_beat_19 ?_
      refine lv_iload_n hx hb d_M_beat_22 rfl (zl hl rfl) ?_
      refine lv_aload_n hx hb d_M_beat_23 rfl (zl hl rfl) ?_
      refine z_get (C := R_M) (T := F_M) (N := 15) (v := .int time) hx hb hts inT_M hown hK hP (PM_o hM) rfl 1 (by decide) tw_574 (fun _ h => h) rfl d_M_beat_24 ?_
      refine lv_aload_n hx hb d_M_beat_27 rfl (zl hl rfl) ?_
      refine z_get (C := R_M) (T := F_M) (N := 15) (v := .ref (ad 10)) hx hb hts inT_M hown hK hP (PM_o hM) rfl 13 (by decide) tw_586 (fun _ h => h) rfl d_M_beat_28 ?_
      refine lv_bipush (v := 6) hx hb d_M_beat_31 (by decide) ?_
      refine lv_aload_n hx hb d_M_beat_33 rfl (zl hl rfl) ?_
      refine z_get (C := R_M) (T := F_M) (N := 15) (v := .ref (ad 1)) hx hb hts inT_M hown hK hP (PM_o hM) rfl 4 (by decide) tw_577 (fun _ h => h) rfl d_M_beat_34 ?_
      refine lv_iload_n hx hb d_M_beat_37 rfl (zl hl rfl) ?_
      refine z_iald hx hb hK hP 0 (PM_1 hM) rfl t rfl (by omega) (by decide) d_M_beat_38 ?_
      refine lv_imul hx hb d_M_beat_39 ?_
      refine z_iald hx hb hK hP 0 (PM_10 hM) rfl (6 * qx f t) (by rw [(hq t (by omega)).1]; exact z_idx0 (qx f t)) (by have := (hq t (by omega)).2; omega) (by decide) d_M_beat_40 ?_
      refine lv_iadd hx hb d_M_beat_41 ?_
      have hD0 := hD
      refine z_iast hx hb hK hP hD hS 0 (PM_7 hM) rfl t rfl (by omega) (by decide) d_M_beat_42 (fun ws H locs hP hD hS u_4 => ?_)
      have hF := zfrM_tr hF (zfrM_up hD0 (PM_7 hM) rfl u_4)
      have hM := PM_wa hM 7 (by decide) (by decide) (by decide) rfl u_4
      refine lv_iconst (v := 1) hx hb d_M_beat_43 (by decide) ?_
      exact z_zretR hx hb hr hlocks hP hD hS (rfl) (⟨hM, hF⟩) d_M_beat_44
    · exact absurd c_3 (nI_m1 (by omega))
set_option maxHeartbeats 4000000 in
set_option maxRecDepth 100000 in
theorem c_M_cancel (l : Launch) {D : va_G} {ws : va_W} {H : Heap} (hP : va_P D vwCl ws H) {kk : Nat → ClassId} {ad : Nat → Nat} {thr time tok : Int32} {n : Nat} {f : Nat → Nat → Int32} {ky : Nat → Int64} (hM : PM kk ad thr time n tok f ky ws)  {B : Nat} (hD : va_D (fun q => B ≤ q) ws) (t : Int32) (hn : n ≤ 400) : Met l y_M_cancel (Cond.code y_M_cancel b_M_cancel 2 (some .boolean) :: TT) ({ frames := 2, cells := 0, slots := 0, locals := 80 }) (zPc [.ref (ad 0), .int t] H D vwCl (TY kk)) (zR D vwCl B (some (.int (zb (cCan f n t)))) (fun ws' => PM kk ad 0 time n tok (mCan f n t) ky ws' ∧ zfrM ws ws')) 0 0 (fun q => B ≤ q) := by
  refine z_body (by decide) (Nat.le_of_ble_eq_true rfl) ?_
  intro p e s m below meth c ls C0 hH hKN hl
  obtain ⟨hx, hb, hr, hts, hown, hlocks, hml⟩ := C0
  subst hH
  have hK := hKN.1
  have hN := hKN.2
  have hS : va_S (fun q => B ≤ q) s.heap s.heap [] := va_S.rf
  have hF : zfrM ws ws := zfrM_rf
  have hl : lv_has ls 2 [(0, .ref (ad 0)), (1, .int t)] := hl
  refine lv_aload_n hx hb d_M_cancel_0 rfl (zl hl rfl) ?_
  refine lv_iconst (v := 0) hx hb d_M_cancel_1 (by decide) ?_
  have hD0 := hD
  refine z_put (C := R_M) (T := F_M) (N := 15) (v := .int 0) hx hb hts inT_M ft_M ft_M_ok fn_M hown hK hP hD hS (PM_o hM) rfl 0 (by decide) tw_573 (fun _ h => h) rfl rfl rfl (by simp) d_M_cancel_2 (fun ws H locs hP hD hS u_1 => ?_)
  have hF := zfrM_tr hF (zfrM_up hD0 (PM_o hM) rfl u_1)
  have hM := PM_wo (thr' := 0) (time' := time) (n' := n) (tok' := tok) hM u_1
  refine lv_aload_n hx hb d_M_cancel_5 rfl (zl hl rfl) ?_
  refine lv_iload_n hx hb d_M_cancel_6 rfl (zl hl rfl) ?_
  refine z_calli (va_runV (As := [.int t]) (rest := []) ⟨hx, hb, hml, hown, hts⟩ (c_M_isTask l hP hM t) (cwV 1 hts (tt_V tw_699 tw_696 tw_698 tw_26 tw_36) rfl rfl rfl (by decide +kernel) ⟨Nat.le_of_ble_eq_true rfl, Nat.le_of_ble_eq_true rfl⟩) (zPc_V hKN hP (ci := 4) (q := (R_M, F_M, 15)) rfl (PM_o hM)) rfl rfl hl.1 rfl (lv_room (Nat.le_of_ble_eq_true rfl)) d_M_cancel_7 ⟨Nat.zero_le _, Nat.zero_le _⟩) hS (fun locs hS => ?_)
  refine lv_if_eq (tgt := 21) hx hb d_M_cancel_10 (by decide) (fun c_2 => ?_) (fun c_2 => ?_)
  · have b1 := zb_f c_2
    refine lv_iconst (v := 0) hx hb d_M_cancel_21 (by decide) ?_
    exact z_zretR hx hb hr hlocks hP hD hS (by simp [cCan, zb, *]) (⟨by unfold mCan; first | (simp only [cCan, *, reduceIte, Bool.true_and, Bool.false_and, Bool.and_false, Bool.and_true, Bool.false_eq_true]; done) | (simp only [cCan, *, reduceIte, Bool.true_and, Bool.false_and, Bool.and_false, Bool.and_true, Bool.false_eq_true]; exact hM), hF⟩) d_M_cancel_22
  · have b1 := zb_t c_2
    obtain ⟨k, hk, rfl⟩ := sTask_t (by omega) b1
    have htx : tx (nI k) = k := tx_nI (by omega)
    refine lv_aload_n hx hb d_M_cancel_13 rfl (zl hl rfl) ?_
    refine lv_iload_n hx hb d_M_cancel_14 rfl (zl hl rfl) ?_
    refine z_calli (va_runV (As := [.int (nI k)]) (rest := []) ⟨hx, hb, hml, hown, hts⟩ (c_M_isLive l hP hM k (by omega)) (cwV 1 hts (tt_V tw_643 tw_640 tw_642 tw_17 tw_36) rfl rfl rfl (by decide +kernel) ⟨Nat.le_of_ble_eq_true rfl, Nat.le_of_ble_eq_true rfl⟩) (zPc_V hKN hP (ci := 4) (q := (R_M, F_M, 15)) rfl (PM_o hM)) rfl rfl hl.1 rfl (lv_room (Nat.le_of_ble_eq_true rfl)) d_M_cancel_15 ⟨Nat.zero_le _, Nat.zero_le _⟩) hS (fun locs hS => ?_)
    refine lv_if_ne (tgt := 23) hx hb d_M_cancel_18 (by decide) (fun c_3 => ?_) (fun c_3 => ?_)
    · have b2 := zb_t c_3
      refine lv_aload_n hx hb d_M_cancel_23 rfl (zl hl rfl) ?_
      refine z_get (C := R_M) (T := F_M) (N := 15) (v := .ref (ad 6)) hx hb hts inT_M hown hK hP (PM_o hM) rfl 9 (by decide) tw_582 (fun _ h => h) rfl d_M_cancel_24 ?_
      refine lv_iload_n hx hb d_M_cancel_27 rfl (zl hl rfl) ?_
      refine lv_iconst (v := 4) hx hb d_M_cancel_28 (by decide) ?_
      have hD0 := hD
      refine z_iast hx hb hK hP hD hS 0 (PM_6 hM) rfl k rfl (by omega) (by decide) d_M_cancel_29 (fun ws H locs hP hD hS u_4 => ?_)
      have hF := zfrM_tr hF (zfrM_up hD0 (PM_6 hM) rfl u_4)
      have hM := PM_wa hM 6 (by decide) (by decide) (by decide) rfl u_4
      refine lv_iconst (v := 1) hx hb d_M_cancel_30 (by decide) ?_
      exact z_zretR hx hb hr hlocks hP hD hS (by simp [cCan, zb, *]) (⟨by unfold mCan; first | (simp only [cCan, *, reduceIte, Bool.true_and, Bool.false_and, Bool.and_false, Bool.and_true, Bool.false_eq_true]; done) | (simp only [cCan, *, reduceIte, Bool.true_and, Bool.false_and, Bool.and_false, Bool.and_true, Bool.false_eq_true]; exact hM), hF⟩) d_M_cancel_31
    · have b2 := zb_f c_3
      refine lv_iconst (v := 0) hx hb d_M_cancel_21 (by decide) ?_
      exact z_zretR hx hb hr hlocks hP hD hS (by simp [cCan, zb, *]) (⟨by unfold mCan; first | (simp only [cCan, *, reduceIte, Bool.true_and, Bool.false_and, Bool.and_false, Bool.and_true, Bool.false_eq_true]; done) | (simp only [cCan, *, reduceIte, Bool.true_and, Bool.false_and, Bool.and_false, Bool.and_true, Bool.false_eq_true]; exact hM), hF⟩) d_M_cancel_22
set_option maxHeartbeats 4000000 in
set_option maxRecDepth 100000 in
theorem c_M_revive (l : Launch) {D : va_G} {ws : va_W} {H : Heap} (hP : va_P D vwCl ws H) {kk : Nat → ClassId} {ad : Nat → Nat} {thr time tok : Int32} {n : Nat} {f : Nat → Nat → Int32} {ky : Nat → Int64} (hM : PM kk ad thr time n tok f ky ws)  {B : Nat} (hD : va_D (fun q => B ≤ q) ws) (t : Int32) (hn : n ≤ 400) : Met l y_M_revive (Cond.code y_M_revive b_M_revive 2 (some .boolean) :: TT) ({ frames := 3, cells := 0, slots := 0, locals := 120 }) (zPc [.ref (ad 0), .int t] H D vwCl (TY kk)) (zR D vwCl B (some (.int (zb (cRev f n t)))) (fun ws' => PM kk ad 0 time n tok (mRev f n time t) ky ws' ∧ zfrM ws ws')) 0 0 (fun q => B ≤ q) := by
  refine z_body (by decide) (Nat.le_of_ble_eq_true rfl) ?_
  intro p e s m below meth c ls C0 hH hKN hl
  obtain ⟨hx, hb, hr, hts, hown, hlocks, hml⟩ := C0
  subst hH
  have hK := hKN.1
  have hN := hKN.2
  have hS : va_S (fun q => B ≤ q) s.heap s.heap [] := va_S.rf
  have hF : zfrM ws ws := zfrM_rf
  have hl : lv_has ls 2 [(0, .ref (ad 0)), (1, .int t)] := hl
  refine lv_aload_n hx hb d_M_revive_0 rfl (zl hl rfl) ?_
  refine lv_iconst (v := 0) hx hb d_M_revive_1 (by decide) ?_
  have hD0 := hD
  refine z_put (C := R_M) (T := F_M) (N := 15) (v := .int 0) hx hb hts inT_M ft_M ft_M_ok fn_M hown hK hP hD hS (PM_o hM) rfl 0 (by decide) tw_573 (fun _ h => h) rfl rfl rfl (by simp) d_M_revive_2 (fun ws H locs hP hD hS u_1 => ?_)
  have hF := zfrM_tr hF (zfrM_up hD0 (PM_o hM) rfl u_1)
  have hM := PM_wo (thr' := 0) (time' := time) (n' := n) (tok' := tok) hM u_1
  refine lv_aload_n hx hb d_M_revive_5 rfl (zl hl rfl) ?_
  refine lv_iload_n hx hb d_M_revive_6 rfl (zl hl rfl) ?_
  refine z_calli (va_runV (As := [.int t]) (rest := []) ⟨hx, hb, hml, hown, hts⟩ (c_M_isTask l hP hM t) (cwV 1 hts (tt_V tw_699 tw_696 tw_698 tw_26 tw_36) rfl rfl rfl (by decide +kernel) ⟨Nat.le_of_ble_eq_true rfl, Nat.le_of_ble_eq_true rfl⟩) (zPc_V hKN hP (ci := 4) (q := (R_M, F_M, 15)) rfl (PM_o hM)) rfl rfl hl.1 rfl (lv_room (Nat.le_of_ble_eq_true rfl)) d_M_revive_7 ⟨Nat.zero_le _, Nat.zero_le _⟩) hS (fun locs hS => ?_)
  refine lv_if_eq (tgt := 32) hx hb d_M_revive_10 (by decide) (fun c_2 => ?_) (fun c_2 => ?_)
  · have b1 := zb_f c_2
    refine lv_iconst (v := 0) hx hb d_M_revive_32 (by decide) ?_
    exact z_zretR hx hb hr hlocks hP hD hS (by simp [cRev, zb, *]) (⟨by unfold mRev; first | (simp only [cRev, *, reduceIte, Bool.true_and, Bool.false_and, Bool.and_false, Bool.and_true, Bool.false_eq_true]; done) | (simp only [cRev, *, reduceIte, Bool.true_and, Bool.false_and, Bool.and_false, Bool.and_true, Bool.false_eq_true]; exact hM), hF⟩) d_M_revive_33
  · have b1 := zb_t c_2
    obtain ⟨k, hk, rfl⟩ := sTask_t (by omega) b1
    have htx : tx (nI k) = k := tx_nI (by omega)
    refine lv_aload_n hx hb d_M_revive_13 rfl (zl hl rfl) ?_
    refine z_get (C := R_M) (T := F_M) (N := 15) (v := .ref (ad 6)) hx hb hts inT_M hown hK hP (PM_o hM) rfl 9 (by decide) tw_582 (fun _ h => h) rfl d_M_revive_14 ?_
    refine lv_iload_n hx hb d_M_revive_17 rfl (zl hl rfl) ?_
    refine z_iald hx hb hK hP 0 (PM_6 hM) rfl k rfl (by omega) (by decide) d_M_revive_18 ?_
    refine lv_iconst (v := 3) hx hb d_M_revive_19 (by decide) ?_
    refine lv_icmp_ne (tgt := 32) hx hb d_M_revive_20 (by decide) (fun c_3 => ?_) (fun c_3 => ?_)
    · refine lv_iconst (v := 0) hx hb d_M_revive_32 (by decide) ?_
      exact z_zretR hx hb hr hlocks hP hD hS (by simp [cRev, zb, *]) (⟨by unfold mRev; first | (simp only [cRev, *, reduceIte, Bool.true_and, Bool.false_and, Bool.and_false, Bool.and_true, Bool.false_eq_true]; done) | (simp only [cRev, *, reduceIte, Bool.true_and, Bool.false_and, Bool.and_false, Bool.and_true, Bool.false_eq_true]; exact hM), hF⟩) d_M_revive_33
    · refine lv_aload_n hx hb d_M_revive_23 rfl (zl hl rfl) ?_
      refine z_calli (va_runV (As := []) (rest := []) ⟨hx, hb, hml, hown, hts⟩ (c_M_lives l hP hM hn) (cwV 0 hts (tt_V tw_647 tw_644 tw_646 tw_18 tw_36) rfl rfl rfl (by decide +kernel) ⟨Nat.le_of_ble_eq_true rfl, Nat.le_of_ble_eq_true rfl⟩) (zPc_V hKN hP (ci := 4) (q := (R_M, F_M, 15)) rfl (PM_o hM)) rfl rfl hl.1 rfl (lv_room (Nat.le_of_ble_eq_true rfl)) d_M_revive_24 ⟨Nat.zero_le _, Nat.zero_le _⟩) hS (fun locs hS => ?_)
      refine lv_bipush (v := 64) hx hb d_M_revive_27 (by decide) ?_
      refine lv_icmp_ne (tgt := 34) hx hb d_M_revive_29 (by decide) (fun c_4 => ?_) (fun c_4 => ?_)
      · refine lv_aload_n hx hb d_M_revive_34 rfl (zl hl rfl) ?_
        refine z_get (C := R_M) (T := F_M) (N := 15) (v := .ref (ad 6)) hx hb hts inT_M hown hK hP (PM_o hM) rfl 9 (by decide) tw_582 (fun _ h => h) rfl d_M_revive_35 ?_
        refine lv_iload_n hx hb d_M_revive_38 rfl (zl hl rfl) ?_
        refine lv_iconst (v := 0) hx hb d_M_revive_39 (by decide) ?_
        have hD0 := hD
        refine z_iast hx hb hK hP hD hS 0 (PM_6 hM) rfl k rfl (by omega) (by decide) d_M_revive_40 (fun ws H locs hP hD hS u_5 => ?_)
        have hF := zfrM_tr hF (zfrM_up hD0 (PM_6 hM) rfl u_5)
        have hM := PM_wa hM 6 (by decide) (by decide) (by decide) rfl u_5
        refine lv_aload_n hx hb d_M_revive_41 rfl (zl hl rfl) ?_
        refine z_get (C := R_M) (T := F_M) (N := 15) (v := .ref (ad 7)) hx hb hts inT_M hown hK hP (PM_o hM) rfl 10 (by decide) tw_583 (fun _ h => h) rfl d_M_revive_42 ?_
        refine lv_iload_n hx hb d_M_revive_45 rfl (zl hl rfl) ?_
        refine lv_aload_n hx hb d_M_revive_46 rfl (zl hl rfl) ?_
        refine z_get (C := R_M) (T := F_M) (N := 15) (v := .int time) hx hb hts inT_M hown hK hP (PM_o hM) rfl 1 (by decide) tw_574 (fun _ h => h) rfl d_M_revive_47 ?_
        have hD0 := hD
        refine z_iast hx hb hK hP hD hS 0 (PM_7 hM) rfl k rfl (by omega) (by decide) d_M_revive_50 (fun ws H locs hP hD hS u_6 => ?_)
        have hF := zfrM_tr hF (zfrM_up hD0 (PM_7 hM) rfl u_6)
        have hM := PM_wa hM 7 (by decide) (by decide) (by decide) rfl u_6
        refine lv_aload_n hx hb d_M_revive_51 rfl (zl hl rfl) ?_
        refine z_get (C := R_M) (T := F_M) (N := 15) (v := .ref (ad 5)) hx hb hts inT_M hown hK hP (PM_o hM) rfl 8 (by decide) tw_581 (fun _ h => h) rfl d_M_revive_52 ?_
        refine lv_iload_n hx hb d_M_revive_55 rfl (zl hl rfl) ?_
        refine lv_iconst (v := 0) hx hb d_M_revive_56 (by decide) ?_
        have hD0 := hD
        refine z_iast hx hb hK hP hD hS 0 (PM_5 hM) rfl k rfl (by omega) (by decide) d_M_revive_57 (fun ws H locs hP hD hS u_7 => ?_)
        have hF := zfrM_tr hF (zfrM_up hD0 (PM_5 hM) rfl u_7)
        have hM := PM_wa hM 5 (by decide) (by decide) (by decide) rfl u_7
        refine lv_iconst (v := 1) hx hb d_M_revive_58 (by decide) ?_
        exact z_zretR hx hb hr hlocks hP hD hS (by simp [cRev, zb, *]) (⟨by unfold mRev; first | (simp only [cRev, *, reduceIte, Bool.true_and, Bool.false_and, Bool.and_false, Bool.and_true, Bool.false_eq_true]; done) | (simp only [cRev, *, reduceIte, Bool.true_and, Bool.false_and, Bool.and_false, Bool.and_true, Bool.false_eq_true]; exact hM), hF⟩) d_M_revive_59
      · refine lv_iconst (v := 0) hx hb d_M_revive_32 (by decide) ?_
        exact z_zretR hx hb hr hlocks hP hD hS (by simp [cRev, zb, *]) (⟨by unfold mRev; first | (simp only [cRev, *, reduceIte, Bool.true_and, Bool.false_and, Bool.and_false, Bool.and_true, Bool.false_eq_true]; done) | (simp only [cRev, *, reduceIte, Bool.true_and, Bool.false_and, Bool.and_false, Bool.and_true, Bool.false_eq_true]; exact hM), hF⟩) d_M_revive_33
set_option maxHeartbeats 4000000 in
set_option maxRecDepth 100000 in
theorem c_M_first (l : Launch) {D : va_G} {ws : va_W} {H : Heap} (hP : va_P D vwCl ws H) {kk : Nat → ClassId} {ad : Nat → Nat} {thr time tok : Int32} {n : Nat} {f : Nat → Nat → Int32} {ky : Nat → Int64} (hM : PM kk ad thr time n tok f ky ws)  {B : Nat} (hD : va_D (fun q => B ≤ q) ws) (q : Int32) (hn : n ≤ 400) (hq : okq f n) (hg : okg f n) : Met l y_M_first (Cond.code y_M_first b_M_first 2 (some .int) :: TT) ({ frames := 4, cells := 0, slots := 0, locals := 160 }) (zPc [.ref (ad 0), .int q] H D vwCl (TY kk)) (zR D vwCl B (some (.int (mFirst f time n q))) (fun ws' => PM kk ad 0 time n tok f ky ws' ∧ zfrM ws ws')) 0 0 (fun q => B ≤ q) := by
  refine z_body (by decide) (Nat.le_of_ble_eq_true rfl) ?_
  intro p e s m below meth c ls C0 hH hKN hl
  obtain ⟨hx, hb, hr, hts, hown, hlocks, hml⟩ := C0
  subst hH
  have hK := hKN.1
  have hN := hKN.2
  have hS : va_S (fun q => B ≤ q) s.heap s.heap [] := va_S.rf
  have hF : zfrM ws ws := zfrM_rf
  have hl : lv_has ls 2 [(0, .ref (ad 0)), (1, .int q)] := hl
  refine lv_aload_n hx hb d_M_first_0 rfl (zl hl rfl) ?_
  refine lv_iconst (v := 0) hx hb d_M_first_1 (by decide) ?_
  have hD0 := hD
  refine z_put (C := R_M) (T := F_M) (N := 15) (v := .int 0) hx hb hts inT_M ft_M ft_M_ok fn_M hown hK hP hD hS (PM_o hM) rfl 0 (by decide) tw_573 (fun _ h => h) rfl rfl rfl (by simp) d_M_first_2 (fun ws H locs hP hD hS u_1 => ?_)
  have hF := zfrM_tr hF (zfrM_up hD0 (PM_o hM) rfl u_1)
  have hM := PM_wo (thr' := 0) (time' := time) (n' := n) (tok' := tok) hM u_1
  refine lv_iload_n hx hb d_M_first_5 rfl (zl hl rfl) ?_
  refine lv_iconst (v := 0) hx hb d_M_first_6 (by decide) ?_
  refine lv_iconst (v := 3) hx hb d_M_first_7 (by decide) ?_
  refine z_calli (va_runS (As := [.int q, .int 0, .int 3]) (rest := []) ⟨hx, hb, hml, hown, hts⟩ (c_M_within l hP q 0 3) (va_cwS 3 hts (tt_S tw_631 tw_629 tw_630 tw_36) rfl rfl rfl (by decide +kernel) ⟨Nat.le_of_ble_eq_true rfl, Nat.le_of_ble_eq_true rfl⟩) (zPc_S hKN) rfl rfl hl.1 rfl (lv_room (Nat.le_of_ble_eq_true rfl)) d_M_first_8 ⟨Nat.zero_le _, Nat.zero_le _⟩) hS (fun locs hS => ?_)
  refine lv_if_eq (tgt := 22) hx hb d_M_first_11 (by decide) (fun c_2 => ?_) (fun c_2 => ?_)
  · have b1 := zb_f c_2
    refine lv_iconst (v := (-1)) hx hb d_M_first_22 (by decide) ?_
    exact z_iretR hx hb hr hlocks hP hD hS (by simp [mFirst, *]) (⟨hM, hF⟩) d_M_first_23
  · have b1 := zb_t c_2
    refine lv_aload_n hx hb d_M_first_14 rfl (zl hl rfl) ?_
    refine lv_iload_n hx hb d_M_first_15 rfl (zl hl rfl) ?_
    refine z_calli (va_runV (As := [.int q]) (rest := []) ⟨hx, hb, hml, hown, hts⟩ (c_M_firstOf l hP hM q hn hq hg) (cwV 1 hts (tt_V tw_655 tw_652 tw_654 tw_19 tw_36) rfl rfl rfl (by decide +kernel) ⟨Nat.le_of_ble_eq_true rfl, Nat.le_of_ble_eq_true rfl⟩) (zPc_V hKN hP (ci := 4) (q := (R_M, F_M, 15)) rfl (PM_o hM)) rfl rfl hl.1 rfl (lv_room (Nat.le_of_ble_eq_true rfl)) d_M_first_16 ⟨Nat.zero_le _, Nat.zero_le _⟩) hS (fun locs hS => ?_)
    refine lv_goto (tgt := 23) hx hb d_M_first_19 (by decide) ?_
    exact z_iretR hx hb hr hlocks hP hD hS (by simp [mFirst, *]) (⟨hM, hF⟩) d_M_first_23
set_option maxHeartbeats 4000000 in
set_option maxRecDepth 100000 in
theorem c_M_task (l : Launch) {D : va_G} {ws : va_W} {H : Heap} (hP : va_P D vwCl ws H) {kk : Nat → ClassId} {ad : Nat → Nat} {thr time tok : Int32} {n : Nat} {f : Nat → Nat → Int32} {ky : Nat → Int64} (hM : PM kk ad thr time n tok f ky ws)  {B : Nat} (hD : va_D (fun q => B ≤ q) ws) (t what : Int32) (hn : n ≤ 400) (hq : okq f n) : Met l y_M_task (Cond.code y_M_task b_M_task 5 (some .int) :: TT) ({ frames := 2, cells := 0, slots := 0, locals := 80 }) (zPc [.ref (ad 0), .int t, .int what] H D vwCl (TY kk)) (zR D vwCl B (some (.int (mTask f time n t what))) (fun ws' => PM kk ad (if cTask n t what = true then 0 else 1) time n tok f ky ws' ∧ zfrM ws ws')) 0 0 (fun q => B ≤ q) := by
  refine z_body (by decide) (Nat.le_of_ble_eq_true rfl) ?_
  intro p e s m below meth c ls C0 hH hKN hl
  obtain ⟨hx, hb, hr, hts, hown, hlocks, hml⟩ := C0
  subst hH
  have hK := hKN.1
  have hN := hKN.2
  have hS : va_S (fun q => B ≤ q) s.heap s.heap [] := va_S.rf
  have hF : zfrM ws ws := zfrM_rf
  have hl : lv_has ls 5 [(0, .ref (ad 0)), (1, .int t), (2, .int what)] := hl
  refine lv_aload_n hx hb d_M_task_0 rfl (zl hl rfl) ?_
  refine lv_aload_n hx hb d_M_task_1 rfl (zl hl rfl) ?_
  refine lv_iload_n hx hb d_M_task_2 rfl (zl hl rfl) ?_
  refine z_calli (va_runV (As := [.int t]) (rest := [.ref (ad 0)]) ⟨hx, hb, hml, hown, hts⟩ (c_M_isTask l hP hM t) (cwV 1 hts (tt_V tw_699 tw_696 tw_698 tw_26 tw_36) rfl rfl rfl (by decide +kernel) ⟨Nat.le_of_ble_eq_true rfl, Nat.le_of_ble_eq_true rfl⟩) (zPc_V hKN hP (ci := 4) (q := (R_M, F_M, 15)) rfl (PM_o hM)) rfl rfl hl.1 rfl (lv_room (Nat.le_of_ble_eq_true rfl)) d_M_task_3 ⟨Nat.zero_le _, Nat.zero_le _⟩) hS (fun locs hS => ?_)
  refine lv_if_eq (tgt := 19) hx hb d_M_task_6 (by decide) (fun c_1 => ?_) (fun c_1 => ?_)
  · have b1 := zb_f c_1
    refine lv_iconst (v := 1) hx hb d_M_task_19 (by decide) ?_
    refine lv_goto (tgt := 24) hx hb d_M_task_20 (by decide) ?_
    have hD0 := hD
    refine z_put (C := R_M) (T := F_M) (N := 15) (v := .int 1) hx hb hts inT_M ft_M ft_M_ok fn_M hown hK hP hD hS (PM_o hM) rfl 0 (by decide) tw_573 (fun _ h => h) rfl rfl rfl (by simp) d_M_task_24 (fun ws H locs hP hD hS u_2 => ?_)
    have hF := zfrM_tr hF (zfrM_up hD0 (PM_o hM) rfl u_2)
    have hM := PM_wo (thr' := 1) (time' := time) (n' := n) (tok' := tok) hM u_2
    refine lv_aload_n hx hb d_M_task_27 rfl (zl hl rfl) ?_
    refine z_get (C := R_M) (T := F_M) (N := 15) (v := .int 1) hx hb hts inT_M hown hK hP (PM_o hM) rfl 0 (by decide) tw_573 (fun _ h => h) rfl d_M_task_28 ?_
    refine lv_if_le (tgt := 36) hx hb d_M_task_31 (by decide) (fun c_3 => ?_) (fun c_3 => ?_)
    · exact absurd c_3 (by decide)
    · refine lv_iconst (v := 0) hx hb d_M_task_34 (by decide) ?_
      exact z_iretR hx hb hr hlocks hP hD hS (by simp [mTask, cTask, *]) (⟨by first | (simp only [cTask, *, reduceIte, Bool.true_and, Bool.false_and, Bool.and_false, Bool.and_true, Bool.false_eq_true]; done) | (simp only [cTask, *, reduceIte, Bool.true_and, Bool.false_and, Bool.and_false, Bool.and_true, Bool.false_eq_true]; exact hM), hF⟩) d_M_task_35
  · have b1 := zb_t c_1
    obtain ⟨k, hk, rfl⟩ := sTask_t (by omega) b1
    have htx : tx (nI k) = k := tx_nI (by omega)
    refine lv_iload_n hx hb d_M_task_9 rfl (zl hl rfl) ?_
    refine lv_iconst (v := 0) hx hb d_M_task_10 (by decide) ?_
    refine lv_bipush (v := 6) hx hb d_M_task_11 (by decide) ?_
    refine z_calli (va_runS (As := [.int what, .int 0, .int 6]) (rest := [.ref (ad 0)]) ⟨hx, hb, hml, hown, hts⟩ (c_M_within l hP what 0 6) (va_cwS 3 hts (tt_S tw_631 tw_629 tw_630 tw_36) rfl rfl rfl (by decide +kernel) ⟨Nat.le_of_ble_eq_true rfl, Nat.le_of_ble_eq_true rfl⟩) (zPc_S hKN) rfl rfl hl.1 rfl (lv_room (Nat.le_of_ble_eq_true rfl)) d_M_task_13 ⟨Nat.zero_le _, Nat.zero_le _⟩) hS (fun locs hS => ?_)
    refine lv_if_ne (tgt := 23) hx hb d_M_task_16 (by decide) (fun c_4 => ?_) (fun c_4 => ?_)
    · have b2 := zb_t c_4
      refine lv_iconst (v := 0) hx hb d_M_task_23 (by decide) ?_
      have hD0 := hD
      refine z_put (C := R_M) (T := F_M) (N := 15) (v := .int 0) hx hb hts inT_M ft_M ft_M_ok fn_M hown hK hP hD hS (PM_o hM) rfl 0 (by decide) tw_573 (fun _ h => h) rfl rfl rfl (by simp) d_M_task_24 (fun ws H locs hP hD hS u_5 => ?_)
      have hF := zfrM_tr hF (zfrM_up hD0 (PM_o hM) rfl u_5)
      have hM := PM_wo (thr' := 0) (time' := time) (n' := n) (tok' := tok) hM u_5
      refine lv_aload_n hx hb d_M_task_27 rfl (zl hl rfl) ?_
      refine z_get (C := R_M) (T := F_M) (N := 15) (v := .int 0) hx hb hts inT_M hown hK hP (PM_o hM) rfl 0 (by decide) tw_573 (fun _ h => h) rfl d_M_task_28 ?_
      refine lv_if_le (tgt := 36) hx hb d_M_task_31 (by decide) (fun c_6 => ?_) (fun c_6 => ?_)
      · refine lv_aload_n hx hb d_M_task_36 rfl (zl hl rfl) ?_
        refine z_get (C := R_M) (T := F_M) (N := 15) (v := .ref (ad 6)) hx hb hts inT_M hown hK hP (PM_o hM) rfl 9 (by decide) tw_582 (fun _ h => h) rfl d_M_task_37 ?_
        refine lv_iload_n hx hb d_M_task_40 rfl (zl hl rfl) ?_
        refine z_iald hx hb hK hP 0 (PM_6 hM) rfl k rfl (by omega) (by decide) d_M_task_41 ?_
        refine lv_if_ne (tgt := 49) hx hb d_M_task_42 (by decide) (fun c_7 => ?_) (fun c_7 => ?_)
        · refine lv_iconst (v := 0) hx hb d_M_task_49 (by decide) ?_
          refine lv_istore_n (lv' := [(3, .int 0), (0, .ref (ad 0)), (1, .int (nI k)), (2, .int what)]) hx hb d_M_task_50 rfl hl (by decide) rfl (fun ls hl => ?_)
          refine lv_aload_n hx hb d_M_task_51 rfl (zl hl rfl) ?_
          refine z_get (C := R_M) (T := F_M) (N := 15) (v := .ref (ad 6)) hx hb hts inT_M hown hK hP (PM_o hM) rfl 9 (by decide) tw_582 (fun _ h => h) rfl d_M_task_52 ?_
          refine lv_iload_n hx hb d_M_task_55 rfl (zl hl rfl) ?_
          refine z_iald hx hb hK hP 0 (PM_6 hM) rfl k rfl (by omega) (by decide) d_M_task_56 ?_
          refine lv_iconst (v := 1) hx hb d_M_task_57 (by decide) ?_
          refine lv_icmp_ne (tgt := 65) hx hb d_M_task_58 (by decide) (fun c_8 => ?_) (fun c_8 => ?_)
          · refine lv_iconst (v := 0) hx hb d_M_task_65 (by decide) ?_
            refine lv_istore (lv' := [(4, .int 0), (3, .int 0), (0, .ref (ad 0)), (1, .int (nI k)), (2, .int what)]) hx hb d_M_task_66 hl (by decide) rfl (fun ls hl => ?_)
            refine lv_iload_n hx hb d_M_task_68 rfl (zl hl rfl) ?_
            rcases z_sw what 5 (by decide) with d_9 | ⟨k9, hk9, hkk⟩
            · have n_10 : ¬ what = 0 := fun h => absurd (h ▸ d_9) (by decide)
              have n_11 : ¬ what = 1 := fun h => absurd (h ▸ d_9) (by decide)
              have n_12 : ¬ what = 2 := fun h => absurd (h ▸ d_9) (by decide)
              have n_13 : ¬ what = 3 := fun h => absurd (h ▸ d_9) (by decide)
              have n_14 : ¬ what = 4 := fun h => absurd (h ▸ d_9) (by decide)
              have n_15 : ¬ what = 5 := fun h => absurd (h ▸ d_9) (by decide)
              refine lv_tableOut (tgt := 185) hx hb d_M_task_69 d_9 (by decide) ?_
              refine lv_iload_n hx hb d_M_task_185 rfl (zl hl rfl) ?_
              refine lv_if_eq (tgt := 210) hx hb d_M_task_186 (by decide) (fun c_16 => ?_) (fun c_16 => ?_)
              · refine lv_iconst (v := (-1)) hx hb d_M_task_210 (by decide) ?_
                exact z_iretR hx hb hr hlocks hP hD hS (by simp [mTask, cTask, *]) (⟨by first | (simp only [cTask, *, reduceIte, Bool.true_and, Bool.false_and, Bool.and_false, Bool.and_true, Bool.false_eq_true]; done) | (simp only [cTask, *, reduceIte, Bool.true_and, Bool.false_and, Bool.and_false, Bool.and_true, Bool.false_eq_true]; exact hM), hF⟩) d_M_task_211
              · exact absurd rfl c_16
            · obtain rfl | rfl | rfl | rfl | rfl | rfl : k9 = 0 ∨ k9 = 1 ∨ k9 = 2 ∨ k9 = 3 ∨ k9 = 4 ∨ k9 = 5 := by omega
              · have e9 : what = 0 := hkk
                clear hkk
                subst e9
                refine lv_tableIn (tgt := 108) hx hb d_M_task_69 (by decide) (by decide) rfl (by decide) ?_
                refine lv_aload_n hx hb d_M_task_108 rfl (zl hl rfl) ?_
                refine z_get (C := R_M) (T := F_M) (N := 15) (v := .ref (ad 6)) hx hb hts inT_M hown hK hP (PM_o hM) rfl 9 (by decide) tw_582 (fun _ h => h) rfl d_M_task_109 ?_
                refine lv_iload_n hx hb d_M_task_112 rfl (zl hl rfl) ?_
                refine z_iald hx hb hK hP 0 (PM_6 hM) rfl k rfl (by omega) (by decide) d_M_task_113 ?_
                exact z_iretR hx hb hr hlocks hP hD hS (by simp [mTask, cTask, *]) (⟨by first | (simp only [cTask, *, reduceIte, Bool.true_and, Bool.false_and, Bool.and_false, Bool.and_true, Bool.false_eq_true]; done) | (simp only [cTask, *, reduceIte, Bool.true_and, Bool.false_and, Bool.and_false, Bool.and_true, Bool.false_eq_true]; exact hM), hF⟩) d_M_task_114
              · have e9 : what = 1 := hkk
                clear hkk
                subst e9
                refine lv_tableIn (tgt := 115) hx hb d_M_task_69 (by decide) (by decide) rfl (by decide) ?_
                refine lv_aload_n hx hb d_M_task_115 rfl (zl hl rfl) ?_
                refine z_get (C := R_M) (T := F_M) (N := 15) (v := .ref (ad 5)) hx hb hts inT_M hown hK hP (PM_o hM) rfl 8 (by decide) tw_581 (fun _ h => h) rfl d_M_task_116 ?_
                refine lv_iload_n hx hb d_M_task_119 rfl (zl hl rfl) ?_
                refine z_iald hx hb hK hP 0 (PM_5 hM) rfl k rfl (by omega) (by decide) d_M_task_120 ?_
                exact z_iretR hx hb hr hlocks hP hD hS (by simp [mTask, cTask, *]) (⟨by first | (simp only [cTask, *, reduceIte, Bool.true_and, Bool.false_and, Bool.and_false, Bool.and_true, Bool.false_eq_true]; done) | (simp only [cTask, *, reduceIte, Bool.true_and, Bool.false_and, Bool.and_false, Bool.and_true, Bool.false_eq_true]; exact hM), hF⟩) d_M_task_121
              · have e9 : what = 2 := hkk
                clear hkk
                subst e9
                refine lv_tableIn (tgt := 122) hx hb d_M_task_69 (by decide) (by decide) rfl (by decide) ?_
                refine lv_iload_n hx hb d_M_task_122 rfl (zl hl rfl) ?_
                refine lv_if_eq (tgt := 135) hx hb d_M_task_123 (by decide) (fun c_17 => ?_) (fun c_17 => ?_)
                · refine lv_iconst (v := (-1)) hx hb d_M_task_135 (by decide) ?_
                  exact z_iretR hx hb hr hlocks hP hD hS (by simp [mTask, cTask, *]) (⟨by first | (simp only [cTask, *, reduceIte, Bool.true_and, Bool.false_and, Bool.and_false, Bool.and_true, Bool.false_eq_true]; done) | (simp only [cTask, *, reduceIte, Bool.true_and, Bool.false_and, Bool.and_false, Bool.and_true, Bool.false_eq_true]; exact hM), hF⟩) d_M_task_136
                · exact absurd rfl c_17
              · have e9 : what = 3 := hkk
                clear hkk
                subst e9
                refine lv_tableIn (tgt := 137) hx hb d_M_task_69 (by decide) (by decide) rfl (by decide) ?_
                refine lv_iload hx hb d_M_task_137 (zl hl rfl) ?_
                refine lv_if_eq (tgt := 151) hx hb d_M_task_139 (by decide) (fun c_18 => ?_) (fun c_18 => ?_)
                · refine lv_iconst (v := (-1)) hx hb d_M_task_151 (by decide) ?_
                  exact z_iretR hx hb hr hlocks hP hD hS (by simp [mTask, cTask, *]) (⟨by first | (simp only [cTask, *, reduceIte, Bool.true_and, Bool.false_and, Bool.and_false, Bool.and_true, Bool.false_eq_true]; done) | (simp only [cTask, *, reduceIte, Bool.true_and, Bool.false_and, Bool.and_false, Bool.and_true, Bool.false_eq_true]; exact hM), hF⟩) d_M_task_152
                · exact absurd rfl c_18
              · have e9 : what = 4 := hkk
                clear hkk
                subst e9
                refine lv_tableIn (tgt := 153) hx hb d_M_task_69 (by decide) (by decide) rfl (by decide) ?_
                refine lv_iload hx hb d_M_task_153 (zl hl rfl) ?_
                refine lv_if_eq (tgt := 167) hx hb d_M_task_155 (by decide) (fun c_19 => ?_) (fun c_19 => ?_)
                · refine lv_iconst (v := (-1)) hx hb d_M_task_167 (by decide) ?_
                  exact z_iretR hx hb hr hlocks hP hD hS (by simp [mTask, cTask, *]) (⟨by first | (simp only [cTask, *, reduceIte, Bool.true_and, Bool.false_and, Bool.and_false, Bool.and_true, Bool.false_eq_true]; done) | (simp only [cTask, *, reduceIte, Bool.true_and, Bool.false_and, Bool.and_false, Bool.and_true, Bool.false_eq_true]; exact hM), hF⟩) d_M_task_168
                · exact absurd rfl c_19
              · have e9 : what = 5 := hkk
                clear hkk
                subst e9
                refine lv_tableIn (tgt := 169) hx hb d_M_task_69 (by decide) (by decide) rfl (by decide) ?_
                refine lv_iload hx hb d_M_task_169 (zl hl rfl) ?_
                refine lv_if_eq (tgt := 183) hx hb d_M_task_171 (by decide) (fun c_20 => ?_) (fun c_20 => ?_)
                · refine lv_iconst (v := (-1)) hx hb d_M_task_183 (by decide) ?_
                  exact z_iretR hx hb hr hlocks hP hD hS (by simp [mTask, cTask, *]) (⟨by first | (simp only [cTask, *, reduceIte, Bool.true_and, Bool.false_and, Bool.and_false, Bool.and_true, Bool.false_eq_true]; done) | (simp only [cTask, *, reduceIte, Bool.true_and, Bool.false_and, Bool.and_false, Bool.and_true, Bool.false_eq_true]; exact hM), hF⟩) d_M_task_184
                · exact absurd rfl c_20
          · refine lv_iconst (v := 1) hx hb d_M_task_61 (by decide) ?_
            refine lv_goto (tgt := 66) hx hb d_M_task_62 (by decide) ?_
            refine lv_istore (lv' := [(4, .int 1), (3, .int 0), (0, .ref (ad 0)), (1, .int (nI k)), (2, .int what)]) hx hb d_M_task_66 hl (by decide) rfl (fun ls hl => ?_)
            refine lv_iload_n hx hb d_M_task_68 rfl (zl hl rfl) ?_
            rcases z_sw what 5 (by decide) with d_21 | ⟨k9, hk9, hkk⟩
            · have n_22 : ¬ what = 0 := fun h => absurd (h ▸ d_21) (by decide)
              have n_23 : ¬ what = 1 := fun h => absurd (h ▸ d_21) (by decide)
              have n_24 : ¬ what = 2 := fun h => absurd (h ▸ d_21) (by decide)
              have n_25 : ¬ what = 3 := fun h => absurd (h ▸ d_21) (by decide)
              have n_26 : ¬ what = 4 := fun h => absurd (h ▸ d_21) (by decide)
              have n_27 : ¬ what = 5 := fun h => absurd (h ▸ d_21) (by decide)
              refine lv_tableOut (tgt := 185) hx hb d_M_task_69 d_21 (by decide) ?_
              refine lv_iload_n hx hb d_M_task_185 rfl (zl hl rfl) ?_
              refine lv_if_eq (tgt := 210) hx hb d_M_task_186 (by decide) (fun c_28 => ?_) (fun c_28 => ?_)
              · refine lv_iconst (v := (-1)) hx hb d_M_task_210 (by decide) ?_
                exact z_iretR hx hb hr hlocks hP hD hS (by simp [mTask, cTask, *]) (⟨by first | (simp only [cTask, *, reduceIte, Bool.true_and, Bool.false_and, Bool.and_false, Bool.and_true, Bool.false_eq_true]; done) | (simp only [cTask, *, reduceIte, Bool.true_and, Bool.false_and, Bool.and_false, Bool.and_true, Bool.false_eq_true]; exact hM), hF⟩) d_M_task_211
              · exact absurd rfl c_28
            · obtain rfl | rfl | rfl | rfl | rfl | rfl : k9 = 0 ∨ k9 = 1 ∨ k9 = 2 ∨ k9 = 3 ∨ k9 = 4 ∨ k9 = 5 := by omega
              · have e9 : what = 0 := hkk
                clear hkk
                subst e9
                refine lv_tableIn (tgt := 108) hx hb d_M_task_69 (by decide) (by decide) rfl (by decide) ?_
                refine lv_aload_n hx hb d_M_task_108 rfl (zl hl rfl) ?_
                refine z_get (C := R_M) (T := F_M) (N := 15) (v := .ref (ad 6)) hx hb hts inT_M hown hK hP (PM_o hM) rfl 9 (by decide) tw_582 (fun _ h => h) rfl d_M_task_109 ?_
                refine lv_iload_n hx hb d_M_task_112 rfl (zl hl rfl) ?_
                refine z_iald hx hb hK hP 0 (PM_6 hM) rfl k rfl (by omega) (by decide) d_M_task_113 ?_
                exact z_iretR hx hb hr hlocks hP hD hS (by simp [mTask, cTask, *]) (⟨by first | (simp only [cTask, *, reduceIte, Bool.true_and, Bool.false_and, Bool.and_false, Bool.and_true, Bool.false_eq_true]; done) | (simp only [cTask, *, reduceIte, Bool.true_and, Bool.false_and, Bool.and_false, Bool.and_true, Bool.false_eq_true]; exact hM), hF⟩) d_M_task_114
              · have e9 : what = 1 := hkk
                clear hkk
                subst e9
                refine lv_tableIn (tgt := 115) hx hb d_M_task_69 (by decide) (by decide) rfl (by decide) ?_
                refine lv_aload_n hx hb d_M_task_115 rfl (zl hl rfl) ?_
                refine z_get (C := R_M) (T := F_M) (N := 15) (v := .ref (ad 5)) hx hb hts inT_M hown hK hP (PM_o hM) rfl 8 (by decide) tw_581 (fun _ h => h) rfl d_M_task_116 ?_
                refine lv_iload_n hx hb d_M_task_119 rfl (zl hl rfl) ?_
                refine z_iald hx hb hK hP 0 (PM_5 hM) rfl k rfl (by omega) (by decide) d_M_task_120 ?_
                exact z_iretR hx hb hr hlocks hP hD hS (by simp [mTask, cTask, *]) (⟨by first | (simp only [cTask, *, reduceIte, Bool.true_and, Bool.false_and, Bool.and_false, Bool.and_true, Bool.false_eq_true]; done) | (simp only [cTask, *, reduceIte, Bool.true_and, Bool.false_and, Bool.and_false, Bool.and_true, Bool.false_eq_true]; exact hM), hF⟩) d_M_task_121
              · have e9 : what = 2 := hkk
                clear hkk
                subst e9
                refine lv_tableIn (tgt := 122) hx hb d_M_task_69 (by decide) (by decide) rfl (by decide) ?_
                refine lv_iload_n hx hb d_M_task_122 rfl (zl hl rfl) ?_
                refine lv_if_eq (tgt := 135) hx hb d_M_task_123 (by decide) (fun c_29 => ?_) (fun c_29 => ?_)
                · refine lv_iconst (v := (-1)) hx hb d_M_task_135 (by decide) ?_
                  exact z_iretR hx hb hr hlocks hP hD hS (by simp [mTask, cTask, *]) (⟨by first | (simp only [cTask, *, reduceIte, Bool.true_and, Bool.false_and, Bool.and_false, Bool.and_true, Bool.false_eq_true]; done) | (simp only [cTask, *, reduceIte, Bool.true_and, Bool.false_and, Bool.and_false, Bool.and_true, Bool.false_eq_true]; exact hM), hF⟩) d_M_task_136
                · exact absurd rfl c_29
              · have e9 : what = 3 := hkk
                clear hkk
                subst e9
                refine lv_tableIn (tgt := 137) hx hb d_M_task_69 (by decide) (by decide) rfl (by decide) ?_
                refine lv_iload hx hb d_M_task_137 (zl hl rfl) ?_
                refine lv_if_eq (tgt := 151) hx hb d_M_task_139 (by decide) (fun c_30 => ?_) (fun c_30 => ?_)
                · exact absurd c_30 (by decide)
                · refine lv_aload_n hx hb d_M_task_142 rfl (zl hl rfl) ?_
                  refine z_get (C := R_M) (T := F_M) (N := 15) (v := .ref (ad 7)) hx hb hts inT_M hown hK hP (PM_o hM) rfl 10 (by decide) tw_583 (fun _ h => h) rfl d_M_task_143 ?_
                  refine lv_iload_n hx hb d_M_task_146 rfl (zl hl rfl) ?_
                  refine z_iald hx hb hK hP 0 (PM_7 hM) rfl k rfl (by omega) (by decide) d_M_task_147 ?_
                  refine lv_goto (tgt := 152) hx hb d_M_task_148 (by decide) ?_
                  exact z_iretR hx hb hr hlocks hP hD hS (by simp [mTask, cTask, *]) (⟨by first | (simp only [cTask, *, reduceIte, Bool.true_and, Bool.false_and, Bool.and_false, Bool.and_true, Bool.false_eq_true]; done) | (simp only [cTask, *, reduceIte, Bool.true_and, Bool.false_and, Bool.and_false, Bool.and_true, Bool.false_eq_true]; exact hM), hF⟩) d_M_task_152
              · have e9 : what = 4 := hkk
                clear hkk
                subst e9
                refine lv_tableIn (tgt := 153) hx hb d_M_task_69 (by decide) (by decide) rfl (by decide) ?_
                refine lv_iload hx hb d_M_task_153 (zl hl rfl) ?_
                refine lv_if_eq (tgt := 167) hx hb d_M_task_155 (by decide) (fun c_31 => ?_) (fun c_31 => ?_)
                · exact absurd c_31 (by decide)
                · refine lv_aload_n hx hb d_M_task_158 rfl (zl hl rfl) ?_
                  refine z_get (C := R_M) (T := F_M) (N := 15) (v := .ref (ad 8)) hx hb hts inT_M hown hK hP (PM_o hM) rfl 11 (by decide) tw_584 (fun _ h => h) rfl d_M_task_159 ?_
                  refine lv_iload_n hx hb d_M_task_162 rfl (zl hl rfl) ?_
                  refine z_iald hx hb hK hP 0 (PM_8 hM) rfl k rfl (by omega) (by decide) d_M_task_163 ?_
                  refine lv_goto (tgt := 168) hx hb d_M_task_164 (by decide) ?_
                  exact z_iretR hx hb hr hlocks hP hD hS (by simp [mTask, cTask, *]) (⟨by first | (simp only [cTask, *, reduceIte, Bool.true_and, Bool.false_and, Bool.and_false, Bool.and_true, Bool.false_eq_true]; done) | (simp only [cTask, *, reduceIte, Bool.true_and, Bool.false_and, Bool.and_false, Bool.and_true, Bool.false_eq_true]; exact hM), hF⟩) d_M_task_168
              · have e9 : what = 5 := hkk
                clear hkk
                subst e9
                refine lv_tableIn (tgt := 169) hx hb d_M_task_69 (by decide) (by decide) rfl (by decide) ?_
                refine lv_iload hx hb d_M_task_169 (zl hl rfl) ?_
                refine lv_if_eq (tgt := 183) hx hb d_M_task_171 (by decide) (fun c_32 => ?_) (fun c_32 => ?_)
                · exact absurd c_32 (by decide)
                · refine lv_aload_n hx hb d_M_task_174 rfl (zl hl rfl) ?_
                  refine z_get (C := R_M) (T := F_M) (N := 15) (v := .ref (ad 9)) hx hb hts inT_M hown hK hP (PM_o hM) rfl 12 (by decide) tw_585 (fun _ h => h) rfl d_M_task_175 ?_
                  refine lv_iload_n hx hb d_M_task_178 rfl (zl hl rfl) ?_
                  refine z_iald hx hb hK hP 0 (PM_9 hM) rfl k rfl (by omega) (by decide) d_M_task_179 ?_
                  refine lv_goto (tgt := 184) hx hb d_M_task_180 (by decide) ?_
                  exact z_iretR hx hb hr hlocks hP hD hS (by simp [mTask, cTask, *]) (⟨by first | (simp only [cTask, *, reduceIte, Bool.true_and, Bool.false_and, Bool.and_false, Bool.and_true, Bool.false_eq_true]; done) | (simp only [cTask, *, reduceIte, Bool.true_and, Bool.false_and, Bool.and_false, Bool.and_true, Bool.false_eq_true]; exact hM), hF⟩) d_M_task_184
        · refine lv_iconst (v := 1) hx hb d_M_task_45 (by decide) ?_
          refine lv_goto (tgt := 50) hx hb d_M_task_46 (by decide) ?_
          refine lv_istore_n (lv' := [(3, .int 1), (0, .ref (ad 0)), (1, .int (nI k)), (2, .int what)]) hx hb d_M_task_50 rfl hl (by decide) rfl (fun ls hl => ?_)
          refine lv_aload_n hx hb d_M_task_51 rfl (zl hl rfl) ?_
          refine z_get (C := R_M) (T := F_M) (N := 15) (v := .ref (ad 6)) hx hb hts inT_M hown hK hP (PM_o hM) rfl 9 (by decide) tw_582 (fun _ h => h) rfl d_M_task_52 ?_
          refine lv_iload_n hx hb d_M_task_55 rfl (zl hl rfl) ?_
          refine z_iald hx hb hK hP 0 (PM_6 hM) rfl k rfl (by omega) (by decide) d_M_task_56 ?_
          refine lv_iconst (v := 1) hx hb d_M_task_57 (by decide) ?_
          refine lv_icmp_ne (tgt := 65) hx hb d_M_task_58 (by decide) (fun c_33 => ?_) (fun c_33 => ?_)
          · refine lv_iconst (v := 0) hx hb d_M_task_65 (by decide) ?_
            refine lv_istore (lv' := [(4, .int 0), (3, .int 1), (0, .ref (ad 0)), (1, .int (nI k)), (2, .int what)]) hx hb d_M_task_66 hl (by decide) rfl (fun ls hl => ?_)
            refine lv_iload_n hx hb d_M_task_68 rfl (zl hl rfl) ?_
            rcases z_sw what 5 (by decide) with d_34 | ⟨k9, hk9, hkk⟩
            · have n_35 : ¬ what = 0 := fun h => absurd (h ▸ d_34) (by decide)
              have n_36 : ¬ what = 1 := fun h => absurd (h ▸ d_34) (by decide)
              have n_37 : ¬ what = 2 := fun h => absurd (h ▸ d_34) (by decide)
              have n_38 : ¬ what = 3 := fun h => absurd (h ▸ d_34) (by decide)
              have n_39 : ¬ what = 4 := fun h => absurd (h ▸ d_34) (by decide)
              have n_40 : ¬ what = 5 := fun h => absurd (h ▸ d_34) (by decide)
              refine lv_tableOut (tgt := 185) hx hb d_M_task_69 d_34 (by decide) ?_
              refine lv_iload_n hx hb d_M_task_185 rfl (zl hl rfl) ?_
              refine lv_if_eq (tgt := 210) hx hb d_M_task_186 (by decide) (fun c_41 => ?_) (fun c_41 => ?_)
              · exact absurd c_41 (by decide)
              · refine lv_aload_n hx hb d_M_task_189 rfl (zl hl rfl) ?_
                refine z_get (C := R_M) (T := F_M) (N := 15) (v := .ref (ad 7)) hx hb hts inT_M hown hK hP (PM_o hM) rfl 10 (by decide) tw_583 (fun _ h => h) rfl d_M_task_190 ?_
                refine lv_iload_n hx hb d_M_task_193 rfl (zl hl rfl) ?_
                refine z_iald hx hb hK hP 0 (PM_7 hM) rfl k rfl (by omega) (by decide) d_M_task_194 ?_
                refine lv_aload_n hx hb d_M_task_195 rfl (zl hl rfl) ?_
                refine z_get (C := R_M) (T := F_M) (N := 15) (v := .int time) hx hb hts inT_M hown hK hP (PM_o hM) rfl 1 (by decide) tw_574 (fun _ h => h) rfl d_M_task_196 ?_
                refine lv_icmp_gt (tgt := 210) hx hb d_M_task_199 (by decide) (fun c_42 => ?_) (fun c_42 => ?_)
                · have b6 := zlt_nle c_42
                  refine lv_iconst (v := (-1)) hx hb d_M_task_210 (by decide) ?_
                  exact z_iretR hx hb hr hlocks hP hD hS (by simp [mTask, cTask, *]) (⟨by first | (simp only [cTask, *, reduceIte, Bool.true_and, Bool.false_and, Bool.and_false, Bool.and_true, Bool.false_eq_true]; done) | (simp only [cTask, *, reduceIte, Bool.true_and, Bool.false_and, Bool.and_false, Bool.and_true, Bool.false_eq_true]; exact hM), hF⟩) d_M_task_211
                · have b6 := znlt_le c_42
                  refine lv_aload_n hx hb d_M_task_202 rfl (zl hl rfl) ?_
                  refine lv_iload_n hx hb d_M_task_203 rfl (zl hl rfl) ?_
                  refine z_calli (va_runV (As := [.int (nI k)]) (rest := []) ⟨hx, hb, hml, hown, hts⟩ (c_M_weight l hP hM k (by omega) (hq k (by omega)).1 (hq k (by omega)).2) (cwV 1 hts (tt_V tw_667 tw_664 tw_666 tw_22 tw_36) rfl rfl rfl (by decide +kernel) ⟨Nat.le_of_ble_eq_true rfl, Nat.le_of_ble_eq_true rfl⟩) (zPc_V hKN hP (ci := 4) (q := (R_M, F_M, 15)) rfl (PM_o hM)) rfl rfl hl.1 rfl (lv_room (Nat.le_of_ble_eq_true rfl)) d_M_task_204 ⟨Nat.zero_le _, Nat.zero_le _⟩) hS (fun locs hS => ?_)
                  refine lv_goto (tgt := 211) hx hb d_M_task_207 (by decide) ?_
                  exact z_iretR hx hb hr hlocks hP hD hS (by simp [mTask, cTask, *]) (⟨by first | (simp only [cTask, *, reduceIte, Bool.true_and, Bool.false_and, Bool.and_false, Bool.and_true, Bool.false_eq_true]; done) | (simp only [cTask, *, reduceIte, Bool.true_and, Bool.false_and, Bool.and_false, Bool.and_true, Bool.false_eq_true]; exact hM), hF⟩) d_M_task_211
            · obtain rfl | rfl | rfl | rfl | rfl | rfl : k9 = 0 ∨ k9 = 1 ∨ k9 = 2 ∨ k9 = 3 ∨ k9 = 4 ∨ k9 = 5 := by omega
              · have e9 : what = 0 := hkk
                clear hkk
                subst e9
                refine lv_tableIn (tgt := 108) hx hb d_M_task_69 (by decide) (by decide) rfl (by decide) ?_
                refine lv_aload_n hx hb d_M_task_108 rfl (zl hl rfl) ?_
                refine z_get (C := R_M) (T := F_M) (N := 15) (v := .ref (ad 6)) hx hb hts inT_M hown hK hP (PM_o hM) rfl 9 (by decide) tw_582 (fun _ h => h) rfl d_M_task_109 ?_
                refine lv_iload_n hx hb d_M_task_112 rfl (zl hl rfl) ?_
                refine z_iald hx hb hK hP 0 (PM_6 hM) rfl k rfl (by omega) (by decide) d_M_task_113 ?_
                exact z_iretR hx hb hr hlocks hP hD hS (by simp [mTask, cTask, *]) (⟨by first | (simp only [cTask, *, reduceIte, Bool.true_and, Bool.false_and, Bool.and_false, Bool.and_true, Bool.false_eq_true]; done) | (simp only [cTask, *, reduceIte, Bool.true_and, Bool.false_and, Bool.and_false, Bool.and_true, Bool.false_eq_true]; exact hM), hF⟩) d_M_task_114
              · have e9 : what = 1 := hkk
                clear hkk
                subst e9
                refine lv_tableIn (tgt := 115) hx hb d_M_task_69 (by decide) (by decide) rfl (by decide) ?_
                refine lv_aload_n hx hb d_M_task_115 rfl (zl hl rfl) ?_
                refine z_get (C := R_M) (T := F_M) (N := 15) (v := .ref (ad 5)) hx hb hts inT_M hown hK hP (PM_o hM) rfl 8 (by decide) tw_581 (fun _ h => h) rfl d_M_task_116 ?_
                refine lv_iload_n hx hb d_M_task_119 rfl (zl hl rfl) ?_
                refine z_iald hx hb hK hP 0 (PM_5 hM) rfl k rfl (by omega) (by decide) d_M_task_120 ?_
                exact z_iretR hx hb hr hlocks hP hD hS (by simp [mTask, cTask, *]) (⟨by first | (simp only [cTask, *, reduceIte, Bool.true_and, Bool.false_and, Bool.and_false, Bool.and_true, Bool.false_eq_true]; done) | (simp only [cTask, *, reduceIte, Bool.true_and, Bool.false_and, Bool.and_false, Bool.and_true, Bool.false_eq_true]; exact hM), hF⟩) d_M_task_121
              · have e9 : what = 2 := hkk
                clear hkk
                subst e9
                refine lv_tableIn (tgt := 122) hx hb d_M_task_69 (by decide) (by decide) rfl (by decide) ?_
                refine lv_iload_n hx hb d_M_task_122 rfl (zl hl rfl) ?_
                refine lv_if_eq (tgt := 135) hx hb d_M_task_123 (by decide) (fun c_43 => ?_) (fun c_43 => ?_)
                · exact absurd c_43 (by decide)
                · refine lv_aload_n hx hb d_M_task_126 rfl (zl hl rfl) ?_
                  refine z_get (C := R_M) (T := F_M) (N := 15) (v := .ref (ad 7)) hx hb hts inT_M hown hK hP (PM_o hM) rfl 10 (by decide) tw_583 (fun _ h => h) rfl d_M_task_127 ?_
                  refine lv_iload_n hx hb d_M_task_130 rfl (zl hl rfl) ?_
                  refine z_iald hx hb hK hP 0 (PM_7 hM) rfl k rfl (by omega) (by decide) d_M_task_131 ?_
                  refine lv_goto (tgt := 136) hx hb d_M_task_132 (by decide) ?_
                  exact z_iretR hx hb hr hlocks hP hD hS (by simp [mTask, cTask, *]) (⟨by first | (simp only [cTask, *, reduceIte, Bool.true_and, Bool.false_and, Bool.and_false, Bool.and_true, Bool.false_eq_true]; done) | (simp only [cTask, *, reduceIte, Bool.true_and, Bool.false_and, Bool.and_false, Bool.and_true, Bool.false_eq_true]; exact hM), hF⟩) d_M_task_136
              · have e9 : what = 3 := hkk
                clear hkk
                subst e9
                refine lv_tableIn (tgt := 137) hx hb d_M_task_69 (by decide) (by decide) rfl (by decide) ?_
                refine lv_iload hx hb d_M_task_137 (zl hl rfl) ?_
                refine lv_if_eq (tgt := 151) hx hb d_M_task_139 (by decide) (fun c_44 => ?_) (fun c_44 => ?_)
                · refine lv_iconst (v := (-1)) hx hb d_M_task_151 (by decide) ?_
                  exact z_iretR hx hb hr hlocks hP hD hS (by simp [mTask, cTask, *]) (⟨by first | (simp only [cTask, *, reduceIte, Bool.true_and, Bool.false_and, Bool.and_false, Bool.and_true, Bool.false_eq_true]; done) | (simp only [cTask, *, reduceIte, Bool.true_and, Bool.false_and, Bool.and_false, Bool.and_true, Bool.false_eq_true]; exact hM), hF⟩) d_M_task_152
                · exact absurd rfl c_44
              · have e9 : what = 4 := hkk
                clear hkk
                subst e9
                refine lv_tableIn (tgt := 153) hx hb d_M_task_69 (by decide) (by decide) rfl (by decide) ?_
                refine lv_iload hx hb d_M_task_153 (zl hl rfl) ?_
                refine lv_if_eq (tgt := 167) hx hb d_M_task_155 (by decide) (fun c_45 => ?_) (fun c_45 => ?_)
                · refine lv_iconst (v := (-1)) hx hb d_M_task_167 (by decide) ?_
                  exact z_iretR hx hb hr hlocks hP hD hS (by simp [mTask, cTask, *]) (⟨by first | (simp only [cTask, *, reduceIte, Bool.true_and, Bool.false_and, Bool.and_false, Bool.and_true, Bool.false_eq_true]; done) | (simp only [cTask, *, reduceIte, Bool.true_and, Bool.false_and, Bool.and_false, Bool.and_true, Bool.false_eq_true]; exact hM), hF⟩) d_M_task_168
                · exact absurd rfl c_45
              · have e9 : what = 5 := hkk
                clear hkk
                subst e9
                refine lv_tableIn (tgt := 169) hx hb d_M_task_69 (by decide) (by decide) rfl (by decide) ?_
                refine lv_iload hx hb d_M_task_169 (zl hl rfl) ?_
                refine lv_if_eq (tgt := 183) hx hb d_M_task_171 (by decide) (fun c_46 => ?_) (fun c_46 => ?_)
                · refine lv_iconst (v := (-1)) hx hb d_M_task_183 (by decide) ?_
                  exact z_iretR hx hb hr hlocks hP hD hS (by simp [mTask, cTask, *]) (⟨by first | (simp only [cTask, *, reduceIte, Bool.true_and, Bool.false_and, Bool.and_false, Bool.and_true, Bool.false_eq_true]; done) | (simp only [cTask, *, reduceIte, Bool.true_and, Bool.false_and, Bool.and_false, Bool.and_true, Bool.false_eq_true]; exact hM), hF⟩) d_M_task_184
                · exact absurd rfl c_46
          · exact absurd (c_7.symm.trans c_33) (by decide)
      · exact absurd (by decide) c_6
    · have b2 := zb_f c_4
      refine lv_iconst (v := 1) hx hb d_M_task_19 (by decide) ?_
      refine lv_goto (tgt := 24) hx hb d_M_task_20 (by decide) ?_
      have hD0 := hD
      refine z_put (C := R_M) (T := F_M) (N := 15) (v := .int 1) hx hb hts inT_M ft_M ft_M_ok fn_M hown hK hP hD hS (PM_o hM) rfl 0 (by decide) tw_573 (fun _ h => h) rfl rfl rfl (by simp) d_M_task_24 (fun ws H locs hP hD hS u_47 => ?_)
      have hF := zfrM_tr hF (zfrM_up hD0 (PM_o hM) rfl u_47)
      have hM := PM_wo (thr' := 1) (time' := time) (n' := n) (tok' := tok) hM u_47
      refine lv_aload_n hx hb d_M_task_27 rfl (zl hl rfl) ?_
      refine z_get (C := R_M) (T := F_M) (N := 15) (v := .int 1) hx hb hts inT_M hown hK hP (PM_o hM) rfl 0 (by decide) tw_573 (fun _ h => h) rfl d_M_task_28 ?_
      refine lv_if_le (tgt := 36) hx hb d_M_task_31 (by decide) (fun c_48 => ?_) (fun c_48 => ?_)
      · exact absurd c_48 (by decide)
      · refine lv_iconst (v := 0) hx hb d_M_task_34 (by decide) ?_
        exact z_iretR hx hb hr hlocks hP hD hS (by simp [mTask, cTask, *]) (⟨by first | (simp only [cTask, *, reduceIte, Bool.true_and, Bool.false_and, Bool.and_false, Bool.and_true, Bool.false_eq_true]; done) | (simp only [cTask, *, reduceIte, Bool.true_and, Bool.false_and, Bool.and_false, Bool.and_true, Bool.false_eq_true]; exact hM), hF⟩) d_M_task_35
set_option maxHeartbeats 4000000 in
set_option maxRecDepth 100000 in
theorem c_M_count (l : Launch) {D : va_G} {ws : va_W} {H : Heap} (hP : va_P D vwCl ws H) {kk : Nat → ClassId} {ad : Nat → Nat} {thr time tok : Int32} {n : Nat} {f : Nat → Nat → Int32} {ky : Nat → Int64} (hM : PM kk ad thr time n tok f ky ws)  {B : Nat} (hD : va_D (fun q => B ≤ q) ws) (what : Int32) (hn : n ≤ 400) : Met l y_M_count (Cond.code y_M_count b_M_count 2 (some .int) :: TT) ({ frames := 3, cells := 0, slots := 0, locals := 120 }) (zPc [.ref (ad 0), .int what] H D vwCl (TY kk)) (zR D vwCl B (some (.int (mCount f time n what))) (fun ws' => PM kk ad 0 time n tok f ky ws' ∧ zfrM ws ws')) 0 0 (fun q => B ≤ q) := by
  refine z_body (by decide) (Nat.le_of_ble_eq_true rfl) ?_
  intro p e s m below meth c ls C0 hH hKN hl
  obtain ⟨hx, hb, hr, hts, hown, hlocks, hml⟩ := C0
  subst hH
  have hK := hKN.1
  have hN := hKN.2
  have hS : va_S (fun q => B ≤ q) s.heap s.heap [] := va_S.rf
  have hF : zfrM ws ws := zfrM_rf
  have hl : lv_has ls 2 [(0, .ref (ad 0)), (1, .int what)] := hl
  refine lv_aload_n hx hb d_M_count_0 rfl (zl hl rfl) ?_
  refine lv_iconst (v := 0) hx hb d_M_count_1 (by decide) ?_
  have hD0 := hD
  refine z_put (C := R_M) (T := F_M) (N := 15) (v := .int 0) hx hb hts inT_M ft_M ft_M_ok fn_M hown hK hP hD hS (PM_o hM) rfl 0 (by decide) tw_573 (fun _ h => h) rfl rfl rfl (by simp) d_M_count_2 (fun ws H locs hP hD hS u_1 => ?_)
  have hF := zfrM_tr hF (zfrM_up hD0 (PM_o hM) rfl u_1)
  have hM := PM_wo (thr' := 0) (time' := time) (n' := n) (tok' := tok) hM u_1
  refine lv_iload_n hx hb d_M_count_5 rfl (zl hl rfl) ?_
  refine lv_iconst (v := 5) hx hb d_M_count_6 (by decide) ?_
  refine lv_bipush (v := 12) hx hb d_M_count_7 (by decide) ?_
  refine z_calli (va_runS (As := [.int what, .int 5, .int 12]) (rest := []) ⟨hx, hb, hml, hown, hts⟩ (c_M_within l hP what 5 12) (va_cwS 3 hts (tt_S tw_631 tw_629 tw_630 tw_36) rfl rfl rfl (by decide +kernel) ⟨Nat.le_of_ble_eq_true rfl, Nat.le_of_ble_eq_true rfl⟩) (zPc_S hKN) rfl rfl hl.1 rfl (lv_room (Nat.le_of_ble_eq_true rfl)) d_M_count_9 ⟨Nat.zero_le _, Nat.zero_le _⟩) hS (fun locs hS => ?_)
  refine lv_if_eq (tgt := 23) hx hb d_M_count_12 (by decide) (fun c_2 => ?_) (fun c_2 => ?_)
  · have b1 := zb_f c_2
    refine lv_iload_n hx hb d_M_count_23 rfl (zl hl rfl) ?_
    refine lv_bipush (v := 13) hx hb d_M_count_24 (by decide) ?_
    refine lv_bipush (v := 20) hx hb d_M_count_26 (by decide) ?_
    refine z_calli (va_runS (As := [.int what, .int 13, .int 20]) (rest := []) ⟨hx, hb, hml, hown, hts⟩ (c_M_within l hP what 13 20) (va_cwS 3 hts (tt_S tw_631 tw_629 tw_630 tw_36) rfl rfl rfl (by decide +kernel) ⟨Nat.le_of_ble_eq_true rfl, Nat.le_of_ble_eq_true rfl⟩) (zPc_S hKN) rfl rfl hl.1 rfl (lv_room (Nat.le_of_ble_eq_true rfl)) d_M_count_28 ⟨Nat.zero_le _, Nat.zero_le _⟩) hS (fun locs hS => ?_)
    refine lv_if_eq (tgt := 43) hx hb d_M_count_31 (by decide) (fun c_3 => ?_) (fun c_3 => ?_)
    · have b2 := zb_f c_3
      refine lv_iload_n hx hb d_M_count_43 rfl (zl hl rfl) ?_
      refine lv_bipush (v := 21) hx hb d_M_count_44 (by decide) ?_
      refine lv_bipush (v := 24) hx hb d_M_count_46 (by decide) ?_
      refine z_calli (va_runS (As := [.int what, .int 21, .int 24]) (rest := []) ⟨hx, hb, hml, hown, hts⟩ (c_M_within l hP what 21 24) (va_cwS 3 hts (tt_S tw_631 tw_629 tw_630 tw_36) rfl rfl rfl (by decide +kernel) ⟨Nat.le_of_ble_eq_true rfl, Nat.le_of_ble_eq_true rfl⟩) (zPc_S hKN) rfl rfl hl.1 rfl (lv_room (Nat.le_of_ble_eq_true rfl)) d_M_count_48 ⟨Nat.zero_le _, Nat.zero_le _⟩) hS (fun locs hS => ?_)
      refine lv_if_eq (tgt := 63) hx hb d_M_count_51 (by decide) (fun c_4 => ?_) (fun c_4 => ?_)
      · have b3 := zb_f c_4
        refine lv_iload_n hx hb d_M_count_63 rfl (zl hl rfl) ?_
        rcases z_sw what 4 (by decide) with d_5 | ⟨k9, hk9, hkk⟩
        · have n_6 : ¬ what = 0 := fun h => absurd (h ▸ d_5) (by decide)
          have n_7 : ¬ what = 1 := fun h => absurd (h ▸ d_5) (by decide)
          have n_8 : ¬ what = 2 := fun h => absurd (h ▸ d_5) (by decide)
          have n_9 : ¬ what = 3 := fun h => absurd (h ▸ d_5) (by decide)
          have n_10 : ¬ what = 4 := fun h => absurd (h ▸ d_5) (by decide)
          refine lv_tableOut (tgt := 127) hx hb d_M_count_64 d_5 (by decide) ?_
          refine lv_iconst (v := (-1)) hx hb d_M_count_127 (by decide) ?_
          exact z_iretR hx hb hr hlocks hP hD hS (by simp [mCount, *]) (⟨hM, hF⟩) d_M_count_128
        · obtain rfl | rfl | rfl | rfl | rfl : k9 = 0 ∨ k9 = 1 ∨ k9 = 2 ∨ k9 = 3 ∨ k9 = 4 := by omega
          · have e9 : what = 0 := hkk
            clear hkk
            subst e9
            refine lv_tableIn (tgt := 100) hx hb d_M_count_64 (by decide) (by decide) rfl (by decide) ?_
            refine lv_aload_n hx hb d_M_count_100 rfl (zl hl rfl) ?_
            refine z_get (C := R_M) (T := F_M) (N := 15) (v := .int time) hx hb hts inT_M hown hK hP (PM_o hM) rfl 1 (by decide) tw_574 (fun _ h => h) rfl d_M_count_101 ?_
            exact z_iretR hx hb hr hlocks hP hD hS (by simp [mCount, *]) (⟨hM, hF⟩) d_M_count_104
          · have e9 : what = 1 := hkk
            clear hkk
            subst e9
            refine lv_tableIn (tgt := 105) hx hb d_M_count_64 (by decide) (by decide) rfl (by decide) ?_
            refine lv_aload_n hx hb d_M_count_105 rfl (zl hl rfl) ?_
            refine z_get (C := R_M) (T := F_M) (N := 15) (v := .int (nI n)) hx hb hts inT_M hown hK hP (PM_o hM) rfl 2 (by decide) tw_575 (fun _ h => h) rfl d_M_count_106 ?_
            exact z_iretR hx hb hr hlocks hP hD hS (by simp [mCount, *]) (⟨hM, hF⟩) d_M_count_109
          · have e9 : what = 2 := hkk
            clear hkk
            subst e9
            refine lv_tableIn (tgt := 110) hx hb d_M_count_64 (by decide) (by decide) rfl (by decide) ?_
            refine lv_aload_n hx hb d_M_count_110 rfl (zl hl rfl) ?_
            refine z_calli (va_runV (As := []) (rest := []) ⟨hx, hb, hml, hown, hts⟩ (c_M_lives l hP hM hn) (cwV 0 hts (tt_V tw_647 tw_644 tw_646 tw_18 tw_36) rfl rfl rfl (by decide +kernel) ⟨Nat.le_of_ble_eq_true rfl, Nat.le_of_ble_eq_true rfl⟩) (zPc_V hKN hP (ci := 4) (q := (R_M, F_M, 15)) rfl (PM_o hM)) rfl rfl hl.1 rfl (lv_room (Nat.le_of_ble_eq_true rfl)) d_M_count_111 ⟨Nat.zero_le _, Nat.zero_le _⟩) hS (fun locs hS => ?_)
            exact z_iretR hx hb hr hlocks hP hD hS (by simp [mCount, *]) (⟨hM, hF⟩) d_M_count_114
          · have e9 : what = 3 := hkk
            clear hkk
            subst e9
            refine lv_tableIn (tgt := 115) hx hb d_M_count_64 (by decide) (by decide) rfl (by decide) ?_
            refine lv_aload_n hx hb d_M_count_115 rfl (zl hl rfl) ?_
            refine lv_iconst (v := 1) hx hb d_M_count_116 (by decide) ?_
            refine z_calli (va_runV (As := [.int 1]) (rest := []) ⟨hx, hb, hml, hown, hts⟩ (c_M_inState l hP hM 1 hn) (cwV 1 hts (tt_V tw_737 tw_734 tw_736 tw_28 tw_36) rfl rfl rfl (by decide +kernel) ⟨Nat.le_of_ble_eq_true rfl, Nat.le_of_ble_eq_true rfl⟩) (zPc_V hKN hP (ci := 4) (q := (R_M, F_M, 15)) rfl (PM_o hM)) rfl rfl hl.1 rfl (lv_room (Nat.le_of_ble_eq_true rfl)) d_M_count_117 ⟨Nat.zero_le _, Nat.zero_le _⟩) hS (fun locs hS => ?_)
            exact z_iretR hx hb hr hlocks hP hD hS (by simp [mCount, *]) (⟨hM, hF⟩) d_M_count_120
          · have e9 : what = 4 := hkk
            clear hkk
            subst e9
            refine lv_tableIn (tgt := 121) hx hb d_M_count_64 (by decide) (by decide) rfl (by decide) ?_
            refine lv_aload_n hx hb d_M_count_121 rfl (zl hl rfl) ?_
            refine lv_iconst (v := 3) hx hb d_M_count_122 (by decide) ?_
            refine z_calli (va_runV (As := [.int 3]) (rest := []) ⟨hx, hb, hml, hown, hts⟩ (c_M_inState l hP hM 3 hn) (cwV 1 hts (tt_V tw_737 tw_734 tw_736 tw_28 tw_36) rfl rfl rfl (by decide +kernel) ⟨Nat.le_of_ble_eq_true rfl, Nat.le_of_ble_eq_true rfl⟩) (zPc_V hKN hP (ci := 4) (q := (R_M, F_M, 15)) rfl (PM_o hM)) rfl rfl hl.1 rfl (lv_room (Nat.le_of_ble_eq_true rfl)) d_M_count_123 ⟨Nat.zero_le _, Nat.zero_le _⟩) hS (fun locs hS => ?_)
            exact z_iretR hx hb hr hlocks hP hD hS (by simp [mCount, *]) (⟨hM, hF⟩) d_M_count_126
      · have b3 := zb_t c_4
        refine lv_aload_n hx hb d_M_count_54 rfl (zl hl rfl) ?_
        refine lv_iload_n hx hb d_M_count_55 rfl (zl hl rfl) ?_
        refine lv_bipush (v := 21) hx hb d_M_count_56 (by decide) ?_
        refine lv_isub hx hb d_M_count_58 ?_
        refine z_calli (va_runV (As := [.int (what - 21)]) (rest := []) ⟨hx, hb, hml, hown, hts⟩ (c_M_waitingIn l hP hM (what - 21) hn) (cwV 1 hts (tt_V tw_733 tw_730 tw_732 tw_27 tw_36) rfl rfl rfl (by decide +kernel) ⟨Nat.le_of_ble_eq_true rfl, Nat.le_of_ble_eq_true rfl⟩) (zPc_V hKN hP (ci := 4) (q := (R_M, F_M, 15)) rfl (PM_o hM)) rfl rfl hl.1 rfl (lv_room (Nat.le_of_ble_eq_true rfl)) d_M_count_59 ⟨Nat.zero_le _, Nat.zero_le _⟩) hS (fun locs hS => ?_)
        exact z_iretR hx hb hr hlocks hP hD hS (by simp [mCount, *]) (⟨hM, hF⟩) d_M_count_62
    · have b2 := zb_t c_3
      refine lv_aload_n hx hb d_M_count_34 rfl (zl hl rfl) ?_
      refine lv_iload_n hx hb d_M_count_35 rfl (zl hl rfl) ?_
      refine lv_bipush (v := 13) hx hb d_M_count_36 (by decide) ?_
      refine lv_isub hx hb d_M_count_38 ?_
      refine z_calli (va_runV (As := [.int (what - 13)]) (rest := []) ⟨hx, hb, hml, hown, hts⟩ (c_M_lentOf l hP hM (what - 13) hn) (cwV 1 hts (tt_V tw_663 tw_660 tw_662 tw_21 tw_36) rfl rfl rfl (by decide +kernel) ⟨Nat.le_of_ble_eq_true rfl, Nat.le_of_ble_eq_true rfl⟩) (zPc_V hKN hP (ci := 4) (q := (R_M, F_M, 15)) rfl (PM_o hM)) rfl rfl hl.1 rfl (lv_room (Nat.le_of_ble_eq_true rfl)) d_M_count_39 ⟨Nat.zero_le _, Nat.zero_le _⟩) hS (fun locs hS => ?_)
      exact z_iretR hx hb hr hlocks hP hD hS (by simp [mCount, *]) (⟨hM, hF⟩) d_M_count_42
  · have b1 := zb_t c_2
    refine lv_aload_n hx hb d_M_count_15 rfl (zl hl rfl) ?_
    refine lv_iload_n hx hb d_M_count_16 rfl (zl hl rfl) ?_
    refine lv_iconst (v := 5) hx hb d_M_count_17 (by decide) ?_
    refine lv_isub hx hb d_M_count_18 ?_
    refine z_calli (va_runV (As := [.int (what - 5)]) (rest := []) ⟨hx, hb, hml, hown, hts⟩ (c_M_lentTo l hP hM (what - 5) hn) (cwV 1 hts (tt_V tw_671 tw_668 tw_670 tw_23 tw_36) rfl rfl rfl (by decide +kernel) ⟨Nat.le_of_ble_eq_true rfl, Nat.le_of_ble_eq_true rfl⟩) (zPc_V hKN hP (ci := 4) (q := (R_M, F_M, 15)) rfl (PM_o hM)) rfl rfl hl.1 rfl (lv_room (Nat.le_of_ble_eq_true rfl)) d_M_count_19 ⟨Nat.zero_le _, Nat.zero_le _⟩) hS (fun locs hS => ?_)
    exact z_iretR hx hb hr hlocks hP hD hS (by simp [mCount, *]) (⟨hM, hF⟩) d_M_count_22
set_option maxHeartbeats 4000000 in
set_option maxRecDepth 100000 in
theorem c_M_set (l : Launch) {D : va_G} {ws : va_W} {H : Heap} (hP : va_P D vwCl ws H) {kk : Nat → ClassId} {ad : Nat → Nat} {thr time tok : Int32} {n : Nat} {f : Nat → Nat → Int32} {ky : Nat → Int64} (hM : PM kk ad thr time n tok f ky ws)  {B : Nat} (hD : va_D (fun q => B ≤ q) ws) (what which v : Int32) : Met l y_M_set (Cond.code y_M_set b_M_set 4 (some .boolean) :: TT) ({ frames := 2, cells := 0, slots := 0, locals := 80 }) (zPc [.ref (ad 0), .int what, .int which, .int v] H D vwCl (TY kk)) (zR D vwCl B (some (.int (zb (cSet what which v)))) (fun ws' => PM kk ad 0 time n tok (mSet f what which v) ky ws' ∧ zfrM ws ws')) 0 0 (fun q => B ≤ q) := by
  refine z_body (by decide) (Nat.le_of_ble_eq_true rfl) ?_
  intro p e s m below meth c ls C0 hH hKN hl
  obtain ⟨hx, hb, hr, hts, hown, hlocks, hml⟩ := C0
  subst hH
  have hK := hKN.1
  have hN := hKN.2
  have hS : va_S (fun q => B ≤ q) s.heap s.heap [] := va_S.rf
  have hF : zfrM ws ws := zfrM_rf
  have hl : lv_has ls 4 [(0, .ref (ad 0)), (1, .int what), (2, .int which), (3, .int v)] := hl
  refine lv_aload_n hx hb d_M_set_0 rfl (zl hl rfl) ?_
  refine lv_iconst (v := 0) hx hb d_M_set_1 (by decide) ?_
  have hD0 := hD
  refine z_put (C := R_M) (T := F_M) (N := 15) (v := .int 0) hx hb hts inT_M ft_M ft_M_ok fn_M hown hK hP hD hS (PM_o hM) rfl 0 (by decide) tw_573 (fun _ h => h) rfl rfl rfl (by simp) d_M_set_2 (fun ws H locs hP hD hS u_1 => ?_)
  have hF := zfrM_tr hF (zfrM_up hD0 (PM_o hM) rfl u_1)
  have hM := PM_wo (thr' := 0) (time' := time) (n' := n) (tok' := tok) hM u_1
  refine lv_iload_n hx hb d_M_set_5 rfl (zl hl rfl) ?_
  refine lv_iconst (v := 0) hx hb d_M_set_6 (by decide) ?_
  refine lv_bipush (v := 6) hx hb d_M_set_7 (by decide) ?_
  refine z_calli (va_runS (As := [.int what, .int 0, .int 6]) (rest := []) ⟨hx, hb, hml, hown, hts⟩ (c_M_within l hP what 0 6) (va_cwS 3 hts (tt_S tw_631 tw_629 tw_630 tw_36) rfl rfl rfl (by decide +kernel) ⟨Nat.le_of_ble_eq_true rfl, Nat.le_of_ble_eq_true rfl⟩) (zPc_S hKN) rfl rfl hl.1 rfl (lv_room (Nat.le_of_ble_eq_true rfl)) d_M_set_9 ⟨Nat.zero_le _, Nat.zero_le _⟩) hS (fun locs hS => ?_)
  refine lv_if_eq (tgt := 50) hx hb d_M_set_12 (by decide) (fun c_2 => ?_) (fun c_2 => ?_)
  · have b1 := zb_f c_2
    refine lv_iconst (v := 0) hx hb d_M_set_50 (by decide) ?_
    exact z_zretR hx hb hr hlocks hP hD hS (by simp [cSet, zb, *]) (⟨by unfold mSet; first | (simp only [cSet, *, reduceIte, Bool.true_and, Bool.false_and, Bool.and_false, Bool.and_true, Bool.false_eq_true]; done) | (simp only [cSet, *, reduceIte, Bool.true_and, Bool.false_and, Bool.and_false, Bool.and_true, Bool.false_eq_true]; exact hM), hF⟩) d_M_set_51
  · have b1 := zb_t c_2
    refine lv_iload_n hx hb d_M_set_15 rfl (zl hl rfl) ?_
    refine lv_iconst (v := 0) hx hb d_M_set_16 (by decide) ?_
    refine lv_iload_n hx hb d_M_set_17 rfl (zl hl rfl) ?_
    refine lv_bipush (v := 6) hx hb d_M_set_18 (by decide) ?_
    refine lv_icmp_ge (tgt := 27) hx hb d_M_set_20 (by decide) (fun c_3 => ?_) (fun c_3 => ?_)
    · refine lv_bipush (v := 7) hx hb d_M_set_27 (by decide) ?_
      refine z_calli (va_runS (As := [.int which, .int 0, .int 7]) (rest := []) ⟨hx, hb, hml, hown, hts⟩ (c_M_within l hP which 0 7) (va_cwS 3 hts (tt_S tw_631 tw_629 tw_630 tw_36) rfl rfl rfl (by decide +kernel) ⟨Nat.le_of_ble_eq_true rfl, Nat.le_of_ble_eq_true rfl⟩) (zPc_S hKN) rfl rfl hl.1 rfl (lv_room (Nat.le_of_ble_eq_true rfl)) d_M_set_29 ⟨Nat.zero_le _, Nat.zero_le _⟩) hS (fun locs hS => ?_)
      refine lv_if_eq (tgt := 50) hx hb d_M_set_32 (by decide) (fun c_4 => ?_) (fun c_4 => ?_)
      · have b2 := zb_f c_4
        refine lv_iconst (v := 0) hx hb d_M_set_50 (by decide) ?_
        exact z_zretR hx hb hr hlocks hP hD hS (by simp [cSet, zb, *]) (⟨by unfold mSet; first | (simp only [cSet, *, reduceIte, Bool.true_and, Bool.false_and, Bool.and_false, Bool.and_true, Bool.false_eq_true]; done) | (simp only [cSet, *, reduceIte, Bool.true_and, Bool.false_and, Bool.and_false, Bool.and_true, Bool.false_eq_true]; exact hM), hF⟩) d_M_set_51
      · have b2 := zb_t c_4
        refine lv_iload_n hx hb d_M_set_35 rfl (zl hl rfl) ?_
        refine lv_iload_n hx hb d_M_set_36 rfl (zl hl rfl) ?_
        refine z_calli (va_runS (As := [.int what]) (rest := [.int v]) ⟨hx, hb, hml, hown, hts⟩ (c_M_least l hP what) (va_cwS 1 hts (tt_S tw_710 tw_708 tw_709 tw_36) rfl rfl rfl (by decide +kernel) ⟨Nat.le_of_ble_eq_true rfl, Nat.le_of_ble_eq_true rfl⟩) (zPc_S hKN) rfl rfl hl.1 rfl (lv_room (Nat.le_of_ble_eq_true rfl)) d_M_set_37 ⟨Nat.zero_le _, Nat.zero_le _⟩) hS (fun locs hS => ?_)
        refine lv_iload_n hx hb d_M_set_40 rfl (zl hl rfl) ?_
        refine z_calli (va_runS (As := [.int what]) (rest := [.int (sLeast what), .int v]) ⟨hx, hb, hml, hown, hts⟩ (c_M_greatest l hP what) (va_cwS 1 hts (tt_S tw_713 tw_711 tw_712 tw_36) rfl rfl rfl (by decide +kernel) ⟨Nat.le_of_ble_eq_true rfl, Nat.le_of_ble_eq_true rfl⟩) (zPc_S hKN) rfl rfl hl.1 rfl (lv_room (Nat.le_of_ble_eq_true rfl)) d_M_set_41 ⟨Nat.zero_le _, Nat.zero_le _⟩) hS (fun locs hS => ?_)
        refine z_calli (va_runS (As := [.int v, .int (sLeast what), .int (sGreat what)]) (rest := []) ⟨hx, hb, hml, hown, hts⟩ (c_M_within l hP v (sLeast what) (sGreat what)) (va_cwS 3 hts (tt_S tw_631 tw_629 tw_630 tw_36) rfl rfl rfl (by decide +kernel) ⟨Nat.le_of_ble_eq_true rfl, Nat.le_of_ble_eq_true rfl⟩) (zPc_S hKN) rfl rfl hl.1 rfl (lv_room (Nat.le_of_ble_eq_true rfl)) d_M_set_44 ⟨Nat.zero_le _, Nat.zero_le _⟩) hS (fun locs hS => ?_)
        refine lv_if_ne (tgt := 52) hx hb d_M_set_47 (by decide) (fun c_5 => ?_) (fun c_5 => ?_)
        · have b3 := zb_t c_5
          refine lv_iload_n hx hb d_M_set_52 rfl (zl hl rfl) ?_
          refine lv_bipush (v := 6) hx hb d_M_set_53 (by decide) ?_
          refine lv_icmp_ge (tgt := 73) hx hb d_M_set_55 (by decide) (fun c_6 => ?_) (fun c_6 => ?_)
          · obtain ⟨x2, hx2, rfl⟩ := sWithin_nI (h := 7) (by decide) b2
            have ht2 : tx (nI x2) = x2 := tx_nI (by omega)
            refine lv_aload_n hx hb d_M_set_73 rfl (zl hl rfl) ?_
            refine z_get (C := R_M) (T := F_M) (N := 15) (v := .ref (ad 11)) hx hb hts inT_M hown hK hP (PM_o hM) rfl 14 (by decide) tw_587 (fun _ h => h) rfl d_M_set_74 ?_
            refine lv_iload_n hx hb d_M_set_77 rfl (zl hl rfl) ?_
            refine lv_iload_n hx hb d_M_set_78 rfl (zl hl rfl) ?_
            have hD0 := hD
            refine z_iast hx hb hK hP hD hS 0 (PM_11 hM) rfl x2 rfl (by omega) (by decide) d_M_set_79 (fun ws H locs hP hD hS u_7 => ?_)
            have hF := zfrM_tr hF (zfrM_up hD0 (PM_11 hM) rfl u_7)
            have hM := PM_wa hM 11 (by decide) (by decide) (by decide) rfl u_7
            refine lv_iconst (v := 1) hx hb d_M_set_80 (by decide) ?_
            exact z_zretR hx hb hr hlocks hP hD hS (by simp [cSet, zb, *]) (⟨by unfold mSet; first | (simp only [cSet, *, reduceIte, Bool.true_and, Bool.false_and, Bool.and_false, Bool.and_true, Bool.false_eq_true]; done) | (simp only [cSet, *, reduceIte, Bool.true_and, Bool.false_and, Bool.and_false, Bool.and_true, Bool.false_eq_true]; exact hM), hF⟩) d_M_set_81
          · exact absurd c_3 c_6
        · have b3 := zb_f c_5
          refine lv_iconst (v := 0) hx hb d_M_set_50 (by decide) ?_
          exact z_zretR hx hb hr hlocks hP hD hS (by simp [cSet, zb, *]) (⟨by unfold mSet; first | (simp only [cSet, *, reduceIte, Bool.true_and, Bool.false_and, Bool.and_false, Bool.and_true, Bool.false_eq_true]; done) | (simp only [cSet, *, reduceIte, Bool.true_and, Bool.false_and, Bool.and_false, Bool.and_true, Bool.false_eq_true]; exact hM), hF⟩) d_M_set_51
    · refine lv_iconst (v := 3) hx hb d_M_set_23 (by decide) ?_
      refine lv_goto (tgt := 29) hx hb d_M_set_24 (by decide) ?_
      refine z_calli (va_runS (As := [.int which, .int 0, .int 3]) (rest := []) ⟨hx, hb, hml, hown, hts⟩ (c_M_within l hP which 0 3) (va_cwS 3 hts (tt_S tw_631 tw_629 tw_630 tw_36) rfl rfl rfl (by decide +kernel) ⟨Nat.le_of_ble_eq_true rfl, Nat.le_of_ble_eq_true rfl⟩) (zPc_S hKN) rfl rfl hl.1 rfl (lv_room (Nat.le_of_ble_eq_true rfl)) d_M_set_29 ⟨Nat.zero_le _, Nat.zero_le _⟩) hS (fun locs hS => ?_)
      refine lv_if_eq (tgt := 50) hx hb d_M_set_32 (by decide) (fun c_8 => ?_) (fun c_8 => ?_)
      · have b2 := zb_f c_8
        refine lv_iconst (v := 0) hx hb d_M_set_50 (by decide) ?_
        exact z_zretR hx hb hr hlocks hP hD hS (by simp [cSet, zb, *]) (⟨by unfold mSet; first | (simp only [cSet, *, reduceIte, Bool.true_and, Bool.false_and, Bool.and_false, Bool.and_true, Bool.false_eq_true]; done) | (simp only [cSet, *, reduceIte, Bool.true_and, Bool.false_and, Bool.and_false, Bool.and_true, Bool.false_eq_true]; exact hM), hF⟩) d_M_set_51
      · have b2 := zb_t c_8
        refine lv_iload_n hx hb d_M_set_35 rfl (zl hl rfl) ?_
        refine lv_iload_n hx hb d_M_set_36 rfl (zl hl rfl) ?_
        refine z_calli (va_runS (As := [.int what]) (rest := [.int v]) ⟨hx, hb, hml, hown, hts⟩ (c_M_least l hP what) (va_cwS 1 hts (tt_S tw_710 tw_708 tw_709 tw_36) rfl rfl rfl (by decide +kernel) ⟨Nat.le_of_ble_eq_true rfl, Nat.le_of_ble_eq_true rfl⟩) (zPc_S hKN) rfl rfl hl.1 rfl (lv_room (Nat.le_of_ble_eq_true rfl)) d_M_set_37 ⟨Nat.zero_le _, Nat.zero_le _⟩) hS (fun locs hS => ?_)
        refine lv_iload_n hx hb d_M_set_40 rfl (zl hl rfl) ?_
        refine z_calli (va_runS (As := [.int what]) (rest := [.int (sLeast what), .int v]) ⟨hx, hb, hml, hown, hts⟩ (c_M_greatest l hP what) (va_cwS 1 hts (tt_S tw_713 tw_711 tw_712 tw_36) rfl rfl rfl (by decide +kernel) ⟨Nat.le_of_ble_eq_true rfl, Nat.le_of_ble_eq_true rfl⟩) (zPc_S hKN) rfl rfl hl.1 rfl (lv_room (Nat.le_of_ble_eq_true rfl)) d_M_set_41 ⟨Nat.zero_le _, Nat.zero_le _⟩) hS (fun locs hS => ?_)
        refine z_calli (va_runS (As := [.int v, .int (sLeast what), .int (sGreat what)]) (rest := []) ⟨hx, hb, hml, hown, hts⟩ (c_M_within l hP v (sLeast what) (sGreat what)) (va_cwS 3 hts (tt_S tw_631 tw_629 tw_630 tw_36) rfl rfl rfl (by decide +kernel) ⟨Nat.le_of_ble_eq_true rfl, Nat.le_of_ble_eq_true rfl⟩) (zPc_S hKN) rfl rfl hl.1 rfl (lv_room (Nat.le_of_ble_eq_true rfl)) d_M_set_44 ⟨Nat.zero_le _, Nat.zero_le _⟩) hS (fun locs hS => ?_)
        refine lv_if_ne (tgt := 52) hx hb d_M_set_47 (by decide) (fun c_9 => ?_) (fun c_9 => ?_)
        · have b3 := zb_t c_9
          refine lv_iload_n hx hb d_M_set_52 rfl (zl hl rfl) ?_
          refine lv_bipush (v := 6) hx hb d_M_set_53 (by decide) ?_
          refine lv_icmp_ge (tgt := 73) hx hb d_M_set_55 (by decide) (fun c_10 => ?_) (fun c_10 => ?_)
          · exact absurd c_10 c_3
          · obtain ⟨x1, hx1, rfl⟩ := sWithin_nI (h := 6) (by decide) b1
            have hlo : x1 < 6 := by
              have h9 := c_10
              rcases Nat.lt_or_ge x1 6 with q | q
              · exact q
              · exact absurd (nI_le (a := 6) (b := x1) q (by omega)) h9
            obtain ⟨x2, hx2, rfl⟩ := sWithin_nI (h := 3) (by decide) b2
            have ht1 : tx (nI x1) = x1 := tx_nI (by omega)
            have ht2 : tx (nI x2) = x2 := tx_nI (by omega)
            refine lv_aload_n hx hb d_M_set_58 rfl (zl hl rfl) ?_
            refine z_get (C := R_M) (T := F_M) (N := 15) (v := .ref (ad 10)) hx hb hts inT_M hown hK hP (PM_o hM) rfl 13 (by decide) tw_586 (fun _ h => h) rfl d_M_set_59 ?_
            refine lv_bipush (v := 6) hx hb d_M_set_62 (by decide) ?_
            refine lv_iload_n hx hb d_M_set_64 rfl (zl hl rfl) ?_
            refine lv_imul hx hb d_M_set_65 ?_
            refine lv_iload_n hx hb d_M_set_66 rfl (zl hl rfl) ?_
            refine lv_iadd hx hb d_M_set_67 ?_
            refine lv_iload_n hx hb d_M_set_68 rfl (zl hl rfl) ?_
            have hD0 := hD
            refine z_iast hx hb hK hP hD hS 0 (PM_10 hM) rfl (6 * x2 + x1) (z_idx x2 x1) (by omega) (by decide) d_M_set_69 (fun ws H locs hP hD hS u_11 => ?_)
            have hF := zfrM_tr hF (zfrM_up hD0 (PM_10 hM) rfl u_11)
            have hM := PM_wa hM 10 (by decide) (by decide) (by decide) rfl u_11
            refine lv_goto (tgt := 80) hx hb d_M_set_70 (by decide) ?_
            refine lv_iconst (v := 1) hx hb d_M_set_80 (by decide) ?_
            exact z_zretR hx hb hr hlocks hP hD hS (by simp [cSet, zb, *]) (⟨by unfold mSet; first | (simp only [cSet, *, reduceIte, Bool.true_and, Bool.false_and, Bool.and_false, Bool.and_true, Bool.false_eq_true]; done) | (simp only [cSet, *, reduceIte, Bool.true_and, Bool.false_and, Bool.and_false, Bool.and_true, Bool.false_eq_true]; exact hM), hF⟩) d_M_set_81
        · have b3 := zb_f c_9
          refine lv_iconst (v := 0) hx hb d_M_set_50 (by decide) ?_
          exact z_zretR hx hb hr hlocks hP hD hS (by simp [cSet, zb, *]) (⟨by unfold mSet; first | (simp only [cSet, *, reduceIte, Bool.true_and, Bool.false_and, Bool.and_false, Bool.and_true, Bool.false_eq_true]; done) | (simp only [cSet, *, reduceIte, Bool.true_and, Bool.false_and, Bool.and_false, Bool.and_true, Bool.false_eq_true]; exact hM), hF⟩) d_M_set_51
set_option maxHeartbeats 4000000 in
set_option maxRecDepth 100000 in
theorem c_M_next (l : Launch) {D : va_G} {ws : va_W} {H : Heap} (hP : va_P D vwCl ws H) {kk : Nat → ClassId} {ad : Nat → Nat} {thr time tok : Int32} {n : Nat} {f : Nat → Nat → Int32} {ky : Nat → Int64} (hM : PM kk ad thr time n tok f ky ws)  {B : Nat} (hD : va_D (fun q => B ≤ q) ws) (hn : n ≤ 400) : Met l y_M_next (Cond.code y_M_next b_M_next 3 (some .int) :: TT) ({ frames := 2, cells := 0, slots := 0, locals := 80 }) (zPc [.ref (ad 0)] H D vwCl (TY kk)) (zR D vwCl B (some (.int (nxs f time n))) (fun ws' => PM kk ad 0 time n tok f ky ws' ∧ zfrM ws ws')) 0 0 (fun q => B ≤ q) := by
  refine z_body (by decide) (Nat.le_of_ble_eq_true rfl) ?_
  intro p e s m below meth c ls C0 hH hKN hl
  obtain ⟨hx, hb, hr, hts, hown, hlocks, hml⟩ := C0
  subst hH
  have hK := hKN.1
  have hN := hKN.2
  have hS : va_S (fun q => B ≤ q) s.heap s.heap [] := va_S.rf
  have hF : zfrM ws ws := zfrM_rf
  obtain ⟨ws0, hws0⟩ : ∃ z, z = ws := ⟨_, rfl⟩
  have hF : zfrM ws0 ws := by rw [hws0]; exact zfrM_rf
  rw [show (fun ws' => PM kk ad 0 time n tok f ky ws' ∧ zfrM ws ws') = (fun ws' => PM kk ad 0 time n tok f ky ws' ∧ zfrM ws0 ws') by rw [hws0]]
  have hl : lv_has ls 3 [(0, .ref (ad 0))] := hl
  refine lv_aload_n hx hb d_M_next_0 rfl (zl hl rfl) ?_
  refine lv_iconst (v := 0) hx hb d_M_next_1 (by decide) ?_
  have hD0 := hD
  refine z_put (C := R_M) (T := F_M) (N := 15) (v := .int 0) hx hb hts inT_M ft_M ft_M_ok fn_M hown hK hP hD hS (PM_o hM) rfl 0 (by decide) tw_573 (fun _ h => h) rfl rfl rfl (by simp) d_M_next_2 (fun ws H locs hP hD hS u_1 => ?_)
  have hF := zfrM_tr hF (zfrM_up hD0 (PM_o hM) rfl u_1)
  have hM := PM_wo (thr' := 0) (time' := time) (n' := n) (tok' := tok) hM u_1
  refine lv_iconst (v := (-1)) hx hb d_M_next_5 (by decide) ?_
  refine lv_istore_n (lv' := [(1, .int (-1)), (0, .ref (ad 0))]) hx hb d_M_next_6 rfl hl (by decide) rfl (fun ls hl => ?_)
  refine lv_iconst (v := 0) hx hb d_M_next_7 (by decide) ?_
  refine lv_istore_n (lv' := [(2, .int 0), (1, .int (-1)), (0, .ref (ad 0))]) hx hb d_M_next_8 rfl hl (by decide) rfl (fun ls hl => ?_)
  have key : ∀ (r i : Nat) (ls : Array Slot) (locs : List Loc), i ≤ n → n + 1 ≤ i + r → lv_has ls 3 [(0, .ref (ad 0)), (1, .int (nxs f time i)), (2, .int (nI i))] → va_S (fun q => B ≤ q) s.heap H locs → W p l e ({ frames := 2, cells := 0, slots := 0, locals := 80 }) s m ([.ref (ad 0)] : List Value).toArray below meth c H locs 0 0 (MQ below (zR D vwCl B (some (.int (nxs f time n))) (fun ws' => PM kk ad 0 time n tok f ky ws' ∧ zfrM ws0 ws')) ([.ref (ad 0)] : List Value).toArray s 0 0 (fun q => B ≤ q)) (F0 m 9 ls []) := by
    intro r
    induction r with
    | zero => intro i ls locs h1 h2; omega
    | succ r ih =>
      intro i ls locs hi hir hl hS
      refine lv_iload_n hx hb d_M_next_9 rfl (zl hl rfl) ?_
      refine lv_aload_n hx hb d_M_next_10 rfl (zl hl rfl) ?_
      refine z_get (C := R_M) (T := F_M) (N := 15) (v := .int (nI n)) hx hb hts inT_M hown hK hP (PM_o hM) rfl 2 (by decide) tw_575 (fun _ h => h) rfl d_M_next_11 ?_
      refine lv_icmp_ge (tgt := 73) hx hb d_M_next_14 (by decide) (fun c_1 => ?_) (fun c_1 => ?_)
      · have hin := z_ge hi (by omega) c_1
        refine lv_iload_n hx hb d_M_next_73 rfl (zl hl rfl) ?_
        exact z_iretR hx hb hr hlocks hP hD hS (by rw [hin]) (⟨hM, hF⟩) d_M_next_74
      · have hlt := z_lt hi (by omega) c_1
        refine lv_aload_n hx hb d_M_next_17 rfl (zl hl rfl) ?_
        refine lv_iload_n hx hb d_M_next_18 rfl (zl hl rfl) ?_
        refine z_calli (va_runV (As := [.int (nI i)]) (rest := []) ⟨hx, hb, hml, hown, hts⟩ (c_M_isLive l hP hM i (by omega)) (cwV 1 hts (tt_V tw_643 tw_640 tw_642 tw_17 tw_36) rfl rfl rfl (by decide +kernel) ⟨Nat.le_of_ble_eq_true rfl, Nat.le_of_ble_eq_true rfl⟩) (zPc_V hKN hP (ci := 4) (q := (R_M, F_M, 15)) rfl (PM_o hM)) rfl rfl hl.1 rfl (lv_room (Nat.le_of_ble_eq_true rfl)) d_M_next_19 ⟨Nat.zero_le _, Nat.zero_le _⟩) hS (fun locs hS => ?_)
        refine lv_if_eq (tgt := 67) hx hb d_M_next_22 (by decide) (fun c_2 => ?_) (fun c_2 => ?_)
        · have b1 := zb_f c_2
          refine lv_iinc (v := (nI (i + 1))) (lv' := [(2, .int (nI (i + 1))), (0, .ref (ad 0)), (1, .int (nxs f time i))]) hx hb d_M_next_67 hl (k := 2) rfl (nI_1 i) (by decide) rfl (fun ls hl => ?_)
          refine lv_goto (tgt := 9) hx hb d_M_next_70 (by decide) ?_
          have hst : nxs f time i = nxs f time (i + 1) := by
            show _ = if _ then _ else _
            simp [*]
          rw [hst] at hl
          exact ih (i + 1) ls locs (by omega) (by omega) (lv_sub hl [1, 2, 0] rfl) hS
        · have b1 := zb_t c_2
          refine lv_aload_n hx hb d_M_next_25 rfl (zl hl rfl) ?_
          refine z_get (C := R_M) (T := F_M) (N := 15) (v := .ref (ad 7)) hx hb hts inT_M hown hK hP (PM_o hM) rfl 10 (by decide) tw_583 (fun _ h => h) rfl d_M_next_26 ?_
          refine lv_iload_n hx hb d_M_next_29 rfl (zl hl rfl) ?_
          refine z_iald hx hb hK hP 0 (PM_7 hM) rfl i rfl (by omega) (by decide) d_M_next_30 ?_
          refine lv_aload_n hx hb d_M_next_31 rfl (zl hl rfl) ?_
          refine z_get (C := R_M) (T := F_M) (N := 15) (v := .int time) hx hb hts inT_M hown hK hP (PM_o hM) rfl 1 (by decide) tw_574 (fun _ h => h) rfl d_M_next_32 ?_
          refine lv_icmp_gt (tgt := 41) hx hb d_M_next_35 (by decide) (fun c_3 => ?_) (fun c_3 => ?_)
          · refine lv_iload_n hx hb d_M_next_41 rfl (zl hl rfl) ?_
            refine lv_iconst (v := (-1)) hx hb d_M_next_42 (by decide) ?_
            refine lv_icmp_eq (tgt := 56) hx hb d_M_next_43 (by decide) (fun c_4 => ?_) (fun c_4 => ?_)
            · refine lv_aload_n hx hb d_M_next_56 rfl (zl hl rfl) ?_
              refine z_get (C := R_M) (T := F_M) (N := 15) (v := .ref (ad 7)) hx hb hts inT_M hown hK hP (PM_o hM) rfl 10 (by decide) tw_583 (fun _ h => h) rfl d_M_next_57 ?_
              refine lv_iload_n hx hb d_M_next_60 rfl (zl hl rfl) ?_
              refine z_iald hx hb hK hP 0 (PM_7 hM) rfl i rfl (by omega) (by decide) d_M_next_61 ?_
              refine lv_goto (tgt := 66) hx hb d_M_next_62 (by decide) ?_
              refine lv_istore_n (lv' := [(1, .int (f 7 i)), (0, .ref (ad 0)), (2, .int (nI i))]) hx hb d_M_next_66 rfl hl (by decide) rfl (fun ls hl => ?_)
              refine lv_iinc (v := (nI (i + 1))) (lv' := [(2, .int (nI (i + 1))), (1, .int (f 7 i)), (0, .ref (ad 0))]) hx hb d_M_next_67 hl (k := 2) rfl (nI_1 i) (by decide) rfl (fun ls hl => ?_)
              refine lv_goto (tgt := 9) hx hb d_M_next_70 (by decide) ?_
              have hst : f 7 i = nxs f time (i + 1) := by
                show _ = if _ then _ else _
                simp [*]
              rw [hst] at hl
              exact ih (i + 1) ls locs (by omega) (by omega) (lv_sub hl [2, 1, 0] rfl) hS
            · refine lv_aload_n hx hb d_M_next_46 rfl (zl hl rfl) ?_
              refine z_get (C := R_M) (T := F_M) (N := 15) (v := .ref (ad 7)) hx hb hts inT_M hown hK hP (PM_o hM) rfl 10 (by decide) tw_583 (fun _ h => h) rfl d_M_next_47 ?_
              refine lv_iload_n hx hb d_M_next_50 rfl (zl hl rfl) ?_
              refine z_iald hx hb hK hP 0 (PM_7 hM) rfl i rfl (by omega) (by decide) d_M_next_51 ?_
              refine lv_iload_n hx hb d_M_next_52 rfl (zl hl rfl) ?_
              refine lv_icmp_ge (tgt := 65) hx hb d_M_next_53 (by decide) (fun c_5 => ?_) (fun c_5 => ?_)
              · have b4 := zle_nlt c_5
                refine lv_iload_n hx hb d_M_next_65 rfl (zl hl rfl) ?_
                refine lv_istore_n (lv' := [(1, .int (nxs f time i)), (0, .ref (ad 0)), (2, .int (nI i))]) hx hb d_M_next_66 rfl hl (by decide) rfl (fun ls hl => ?_)
                refine lv_iinc (v := (nI (i + 1))) (lv' := [(2, .int (nI (i + 1))), (1, .int (nxs f time i)), (0, .ref (ad 0))]) hx hb d_M_next_67 hl (k := 2) rfl (nI_1 i) (by decide) rfl (fun ls hl => ?_)
                refine lv_goto (tgt := 9) hx hb d_M_next_70 (by decide) ?_
                have hst : nxs f time i = nxs f time (i + 1) := by
                  show _ = if _ then _ else _
                  simp [*]
                rw [hst] at hl
                exact ih (i + 1) ls locs (by omega) (by omega) (lv_sub hl [2, 1, 0] rfl) hS
              · have b4 := znle_lt c_5
                refine lv_aload_n hx hb d_M_next_56 rfl (zl hl rfl) ?_
                refine z_get (C := R_M) (T := F_M) (N := 15) (v := .ref (ad 7)) hx hb hts inT_M hown hK hP (PM_o hM) rfl 10 (by decide) tw_583 (fun _ h => h) rfl d_M_next_57 ?_
                refine lv_iload_n hx hb d_M_next_60 rfl (zl hl rfl) ?_
                refine z_iald hx hb hK hP 0 (PM_7 hM) rfl i rfl (by omega) (by decide) d_M_next_61 ?_
                refine lv_goto (tgt := 66) hx hb d_M_next_62 (by decide) ?_
                refine lv_istore_n (lv' := [(1, .int (f 7 i)), (0, .ref (ad 0)), (2, .int (nI i))]) hx hb d_M_next_66 rfl hl (by decide) rfl (fun ls hl => ?_)
                refine lv_iinc (v := (nI (i + 1))) (lv' := [(2, .int (nI (i + 1))), (1, .int (f 7 i)), (0, .ref (ad 0))]) hx hb d_M_next_67 hl (k := 2) rfl (nI_1 i) (by decide) rfl (fun ls hl => ?_)
                refine lv_goto (tgt := 9) hx hb d_M_next_70 (by decide) ?_
                have hst : f 7 i = nxs f time (i + 1) := by
                  show _ = if _ then _ else _
                  simp [*]
                rw [hst] at hl
                exact ih (i + 1) ls locs (by omega) (by omega) (lv_sub hl [2, 1, 0] rfl) hS
          · have b2 := znlt_le c_3
            refine lv_goto (tgt := 67) hx hb d_M_next_38 (by decide) ?_
            refine lv_iinc (v := (nI (i + 1))) (lv' := [(2, .int (nI (i + 1))), (0, .ref (ad 0)), (1, .int (nxs f time i))]) hx hb d_M_next_67 hl (k := 2) rfl (nI_1 i) (by decide) rfl (fun ls hl => ?_)
            refine lv_goto (tgt := 9) hx hb d_M_next_70 (by decide) ?_
            have hst : nxs f time i = nxs f time (i + 1) := by
              show _ = if _ then _ else _
              simp [*]
            rw [hst] at hl
            exact ih (i + 1) ls locs (by omega) (by omega) (lv_sub hl [1, 2, 0] rfl) hS
  exact key (n + 1) 0 ls locs (Nat.zero_le _) (by omega) (lv_sub hl [2, 1, 0] rfl) hS
