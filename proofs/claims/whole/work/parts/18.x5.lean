theorem lv64 {c : Nat} (h : c ≤ 64) : nI c < 64 ↔ ¬ nI c = 64 := by
  have e1 : (64 : Int32) = nI 64 := by decide
  rw [e1, nI_ltI (by omega) (by decide), nI_eq (by omega) (by decide)]
  omega
theorem qcl_set {f : FF} {i c : Nat} {v : Int32} (hc : c < 6) : qcl (w1 f 10 (6 * i + c) v) i = .inr (1, ([.int (f 10 (6 * i)), .int (f 10 (6 * i + 1)), .int (f 10 (6 * i + 2)), .int (f 10 (6 * i + 3)), .int (f 10 (6 * i + 4)), .int (f 10 (6 * i + 5))] : List Value).set c (.int v)) := by
  have hu : ∀ d, (w1 f 10 (6 * i + c) v) 10 (6 * i + d) = if d = c then v else f 10 (6 * i + d) := fun d => by
    show (if 6 * i + d = 6 * i + c then v else f 10 (6 * i + d)) = _
    by_cases e : d = c
    · rw [if_pos e, if_pos (by omega)]
    · rw [if_neg e, if_neg (by omega)]
  unfold qcl
  rw [show (w1 f 10 (6 * i + c) v) 10 (6 * i) = _ from hu 0, hu 1, hu 2, hu 3, hu 4, hu 5]
  rcases (show c = 0 ∨ c = 1 ∨ c = 2 ∨ c = 3 ∨ c = 4 ∨ c = 5 by omega) with rfl | rfl | rfl | rfl | rfl | rfl <;> rfl
theorem set_eq {what which v : Int32} (h6 : ¬ what = 6) : cSet what which v = (sWithin which 0 3 && sMay what v) := by
  rcases z_sw what 5 (by decide) with hd | ⟨k, hk, rfl⟩
  · have n : ∀ k : Nat, k < 6 → ¬ what = nI k := fun k hk z => by
      rw [z, nI_toInt (by omega)] at hd
      omega
    have n0 : ¬ what = 0 := n 0 (by decide)
    have n1 : ¬ what = 1 := n 1 (by decide)
    have n2 : ¬ what = 2 := n 2 (by decide)
    have n3 : ¬ what = 3 := n 3 (by decide)
    have n4 : ¬ what = 4 := n 4 (by decide)
    have n5 : ¬ what = 5 := n 5 (by decide)
    have e1 : sWithin what 0 6 = false := by
      cases hw : sWithin what 0 6
      · rfl
      · obtain ⟨a, ha, rfl⟩ := sWithin_nI (h := 6) (by decide) hw
        rcases Nat.lt_or_ge a 6 with q | q
        · exact absurd rfl (n a q)
        · rw [show a = 6 by omega] at h6
          exact absurd rfl h6
    have e2 : sMay what v = false := by simp [sMay, n0, n1, n2, n3, n4, n5]
    simp [cSet, e1, e2]
  · rcases (show k = 0 ∨ k = 1 ∨ k = 2 ∨ k = 3 ∨ k = 4 ∨ k = 5 by omega) with rfl | rfl | rfl | rfl | rfl | rfl <;> rfl
theorem set_eq6 {which v : Int32} : cSet 6 which v = (sWithin which 0 7 && sWithin v 0 8) := rfl
set_option maxHeartbeats 4000000 in
set_option maxRecDepth 100000 in
theorem c_X_revive (l : Launch) {D : va_G} {ws : va_W} {H : Heap} (hP : va_P D vwCl ws H) {kk : Nat → ClassId} {xa qad gad tad : Nat → Nat} {e0 : Nat} {time tok : Int32} {n : Nat} {f : FF} {ky : Nat → Int64} {h : FF} {qar gar arr : Nat → Option Nat} {ea cap : Nat} {md : Int32} (hX : PX kk xa qad gad tad e0 time tok n f ky h qar gar arr ea cap md ws) {B : Nat} (hD : va_D (fun q => B ≤ q) ws) (v : Int32) (hlv : cnt (pLive f) n ≤ 64) : Met l y_X_revive (Cond.code y_X_revive b_X_revive 3 (some .boolean) :: TT) ({ frames := 6, cells := 0, slots := 0, locals := 240 }) (zPc [.ref (xa 0), .int v] H D vwCl (TY kk)) (zR D vwCl B (some (.int (zb (cRev f n v)))) (fun ws' => XR kk xa qad gad tad e0 time tok n (mRev f n time v) ky qar gar arr ea cap md ws ws')) 0 0 (fun q => B ≤ q) := by
  refine z_body (by decide) (Nat.le_of_ble_eq_true rfl) ?_
  intro p e s m below meth c ls C0 hH hKN hl
  obtain ⟨hx, hb, hr, hts, hown, hlocks, hml⟩ := C0
  subst hH
  have hK := hKN.1
  have hN := hKN.2
  have hS : va_S (fun q => B ≤ q) s.heap s.heap [] := va_S.rf
  have hn := PX_n hX
  have hl : lv_has ls 3 [(0, .ref (xa 0)), (1, .int v)] := hl
  refine lv_aload_n hx hb d_X_revive_0 rfl (zl hl rfl) ?_
  refine lv_iload_n hx hb d_X_revive_1 rfl (zl hl rfl) ?_
  by_cases bq_1 : sTask v n = true
  · obtain ⟨x_2, hx_3, rfl⟩ := sTask_t (by omega) bq_1
    have ht_4 : tx (nI x_2) = x_2 := tx_nI (by omega)
    have hr_5 : tRef tad n (nI x_2) = some (tad x_2) := by rw [tRef, if_pos bq_1, ht_4]
    refine z_callq (va_runV (As := [.int (nI x_2)]) (rest := []) ⟨hx, hb, hml, hown, hts⟩ (c_X_taskAt l hP hX (nI x_2)) (cwV 1 hts (tt_V tw_183 tw_180 tw_182 tw_1 tw_30) rfl rfl rfl (by decide +kernel) ⟨Nat.le_of_ble_eq_true rfl, Nat.le_of_ble_eq_true rfl⟩) (zPc_V hKN hP (ci := 3) (q := (R_X, F_X, 5)) rfl (PX_x hX)) rfl rfl hl.1 rfl (lv_room (Nat.le_of_ble_eq_true rfl)) d_X_revive_2 ⟨Nat.zero_le _, Nat.zero_le _⟩) hS (fun locs hS => ?_)
    rw [hr_5]
    refine lv_astore_n (lv' := [(2, .ref (tad x_2)), (0, .ref (xa 0)), (1, .int (nI x_2))]) hx hb d_X_revive_5 rfl hl (by decide) rfl (fun ls hl => ?_)
    refine lv_aload_n hx hb d_X_revive_6 rfl (zl hl rfl) ?_
    refine lv_ifnull hx hb d_X_revive_7 ?_
    refine lv_aload_n hx hb d_X_revive_10 rfl (zl hl rfl) ?_
    refine z_get (C := R_T) (T := F_T) (N := 12) (v := .int (f 6 x_2)) hx hb hts inT_T hown hK hP (PX_t hX (k := x_2) (by omega)) rfl 5 (by decide) tw_406 (fun _ h => h) rfl d_X_revive_11 ?_
    refine lv_iconst (v := 3) hx hb d_X_revive_14 (by decide) ?_
    refine lv_icmp_ne (tgt := 27) hx hb d_X_revive_15 (by decide) (fun c_6 => ?_) (fun c_6 => ?_)
    · refine lv_iconst (v := 0) hx hb d_X_revive_27 (by decide) ?_
      exact z_zretR hx hb hr hlocks hP hD hS (by simp [cRev, zb, *]) (⟨⟨h, by first | (simp only [mRev, cRev, *, reduceIte, Bool.true_and, Bool.false_and, Bool.and_false, Bool.and_true, Bool.false_eq_true, decide_true, decide_false, Bool.not_true, Option.isSome]; done) | (simp only [mRev, cRev, *, reduceIte, Bool.true_and, Bool.false_and, Bool.and_false, Bool.and_true, Bool.false_eq_true, decide_true, decide_false, Bool.not_true]; exact hX)⟩, zfrX_rf⟩) d_X_revive_28
    · refine lv_aload_n hx hb d_X_revive_18 rfl (zl hl rfl) ?_
      refine z_calli (va_runV (As := []) (rest := []) ⟨hx, hb, hml, hown, hts⟩ (c_X_liveTasks l hP hX) (cwV 0 hts (tt_V tw_202 tw_199 tw_201 tw_2 tw_30) rfl rfl rfl (by decide +kernel) ⟨Nat.le_of_ble_eq_true rfl, Nat.le_of_ble_eq_true rfl⟩) (zPc_V hKN hP (ci := 3) (q := (R_X, F_X, 5)) rfl (PX_x hX)) rfl rfl hl.1 rfl (lv_room (Nat.le_of_ble_eq_true rfl)) d_X_revive_19 ⟨Nat.zero_le _, Nat.zero_le _⟩) hS (fun locs hS => ?_)
      refine lv_bipush (v := 64) hx hb d_X_revive_22 (by decide) ?_
      refine lv_icmp_lt (tgt := 29) hx hb d_X_revive_24 (by decide) (fun c_7 => ?_) (fun c_7 => ?_)
      · have b3 := (lv64 hlv).mp c_7
        refine lv_aload_n hx hb d_X_revive_29 rfl (zl hl rfl) ?_
        refine lv_aload_n hx hb d_X_revive_30 rfl (zl hl rfl) ?_
        refine z_get (C := R_X) (T := F_X) (N := 5) (v := .int time) hx hb hts inT_X hown hK hP (PX_x hX) rfl 3 (by decide) tw_136 (fun _ h => h) rfl d_X_revive_31 ?_
        have hD0 := hD
        refine z_call (va_runV (As := [.int time]) (rest := []) ⟨hx, hb, hml, hown, hts⟩ (c_T_becomeWaiting l hP (PX_t hX (k := x_2) (by omega)) (PX_tg hX (k := x_2) (by omega)) hD time) (cwV 1 hts (tt_V tw_210 tw_207 tw_208 tw_209 tw_44) rfl rfl rfl (by decide +kernel) ⟨Nat.le_of_ble_eq_true rfl, Nat.le_of_ble_eq_true rfl⟩) (zPc_V hKN hP (ci := 2) (q := (R_T, F_T, 12)) rfl (PX_t hX (k := x_2) (by omega))) rfl rfl hl.1 rfl (lv_room (Nat.le_of_ble_eq_true rfl)) d_X_revive_34 ⟨Nat.le_of_ble_eq_true rfl, Nat.le_of_ble_eq_true rfl⟩) hS (fun ws H locs hR hP hD hz9 hS => ?_)
        obtain ⟨hz1, hg1, hFr⟩ := hR
        refine lv_aload_n hx hb d_X_revive_37 rfl (zl hl rfl) ?_
        refine lv_iconst (v := 0) hx hb d_X_revive_38 (by decide) ?_
        have hD1 := hD
        refine z_put (C := R_T) (T := F_T) (N := 12) (v := .int 0) hx hb hts inT_T ft_T ft_T_ok fn_T hown hK hP hD hS hz1 rfl 6 (by decide) tw_408 (fun _ h => h) rfl rfl rfl (by simp) d_X_revive_39 (fun ws H locs hP hD hS u => ?_)
        have hz1b := hz1
        have hg1 := fun g (hg : gref f gad x_2 = some g) => u.2 _ _ (zin_ne hD1 (hg1 g hg) hz1b (by intro h; cases h)) (hg1 g hg)
        have hFr := zfrT_a hFr u
        have hXR := PX_task (f' := w1 (w1 (w1 f 6 x_2 0) 7 x_2 time) 5 x_2 0) (v6 := 0) (v5 := 0) (u0 := time) (u1 := h 1 x_2) (u2 := h 2 x_2) (u3 := h 3 x_2) (u4 := h 4 x_2) hD0 hX (by omega) u.1 hg1 hFr (by rw [w1_c (by decide), w1_c (by decide), w1_s]) w1_s (fun j h5 h6 h7 h8 h9 => by simp only [w1_c h5, w1_c h6, w1_c h7, w1_c h8, w1_c h9]) (fun i hi j => by simp only [w1_o hi]) ⟨fun _ => (by rw [w1_c (by decide), w1_s]), fun h => absurd h (by decide), fun h => absurd h (by decide)⟩
        refine lv_iconst (v := 1) hx hb d_X_revive_42 (by decide) ?_
        exact z_zretR hx hb hr hlocks hP hD hS (by simp [cRev, zb, *]) (by rw [show mRev f n time (nI x_2) = w1 (w1 (w1 f 6 x_2 0) 7 x_2 time) 5 x_2 0 by simp [mRev, cRev, *]]; exact hXR) d_X_revive_43
      · have b3 : nI (cnt (pLive f) n) = 64 := Decidable.of_not_not (fun z => c_7 ((lv64 hlv).mpr z))
        refine lv_iconst (v := 0) hx hb d_X_revive_27 (by decide) ?_
        exact z_zretR hx hb hr hlocks hP hD hS (by simp [cRev, zb, *]) (⟨⟨h, by first | (simp only [mRev, cRev, *, reduceIte, Bool.true_and, Bool.false_and, Bool.and_false, Bool.and_true, Bool.false_eq_true, decide_true, decide_false, Bool.not_true, Option.isSome]; done) | (simp only [mRev, cRev, *, reduceIte, Bool.true_and, Bool.false_and, Bool.and_false, Bool.and_true, Bool.false_eq_true, decide_true, decide_false, Bool.not_true]; exact hX)⟩, zfrX_rf⟩) d_X_revive_28
  · have bq_1 : sTask v n = false := by simpa using bq_1
    have hr_5 : tRef tad n v = none := by rw [tRef, if_neg (by rw [bq_1]; decide)]
    refine z_callq (va_runV (As := [.int v]) (rest := []) ⟨hx, hb, hml, hown, hts⟩ (c_X_taskAt l hP hX v) (cwV 1 hts (tt_V tw_183 tw_180 tw_182 tw_1 tw_30) rfl rfl rfl (by decide +kernel) ⟨Nat.le_of_ble_eq_true rfl, Nat.le_of_ble_eq_true rfl⟩) (zPc_V hKN hP (ci := 3) (q := (R_X, F_X, 5)) rfl (PX_x hX)) rfl rfl hl.1 rfl (lv_room (Nat.le_of_ble_eq_true rfl)) d_X_revive_2 ⟨Nat.zero_le _, Nat.zero_le _⟩) hS (fun locs hS => ?_)
    rw [hr_5]
    refine lv_astore_nN (lv' := [(2, .null), (0, .ref (xa 0)), (1, .int v)]) hx hb d_X_revive_5 rfl hl (by decide) rfl (fun ls hl => ?_)
    refine lv_aload_nN hx hb d_X_revive_6 rfl (zl hl rfl) ?_
    refine lv_ifnullN (tgt := 27) hx hb d_X_revive_7 (by decide) ?_
    refine lv_iconst (v := 0) hx hb d_X_revive_27 (by decide) ?_
    exact z_zretR hx hb hr hlocks hP hD hS (by simp [cRev, zb, *]) (⟨⟨h, by first | (simp only [mRev, cRev, *, reduceIte, Bool.true_and, Bool.false_and, Bool.and_false, Bool.and_true, Bool.false_eq_true, decide_true, decide_false, Bool.not_true, Option.isSome]; done) | (simp only [mRev, cRev, *, reduceIte, Bool.true_and, Bool.false_and, Bool.and_false, Bool.and_true, Bool.false_eq_true, decide_true, decide_false, Bool.not_true]; exact hX)⟩, zfrX_rf⟩) d_X_revive_28
set_option maxHeartbeats 4000000 in
set_option maxRecDepth 100000 in
theorem c_Q_mayBe (l : Launch) {D : va_G} {tys : List (ClassId × FieldType)} {ws : va_W} {H : Heap} (hP : va_P D vwCl ws H) (what v : Int32) : Met l y_Q_mayBe (Cond.code y_Q_mayBe b_Q_mayBe 2 (some .boolean) :: TT) ({ frames := 2, cells := 0, slots := 0, locals := 80 }) (zPc [.int what, .int v] H D vwCl tys) (zQi (zb (sMay what v)) H) 0 0 (fun _ => False) := by
  refine z_body (by decide) (Nat.le_of_ble_eq_true rfl) ?_
  intro p e s m below meth c ls C0 hH hKN hl
  obtain ⟨hx, hb, hr, hts, hown, hlocks, hml⟩ := C0
  subst hH
  have hK := hKN.1
  have hN := hKN.2
  have hS : va_S (fun _ => False) s.heap s.heap [] := va_S.rf
  have hl : lv_has ls 2 [(0, .int what), (1, .int v)] := hl
  refine lv_iload_n hx hb d_Q_mayBe_0 rfl (zl hl rfl) ?_
  rcases z_sw what 5 (by decide) with d_1 | ⟨k9, hk9, hkk⟩
  · have n_2 : ¬ what = 0 := fun h => absurd (h ▸ d_1) (by decide)
    have n_3 : ¬ what = 1 := fun h => absurd (h ▸ d_1) (by decide)
    have n_4 : ¬ what = 2 := fun h => absurd (h ▸ d_1) (by decide)
    have n_5 : ¬ what = 3 := fun h => absurd (h ▸ d_1) (by decide)
    have n_6 : ¬ what = 4 := fun h => absurd (h ▸ d_1) (by decide)
    have n_7 : ¬ what = 5 := fun h => absurd (h ▸ d_1) (by decide)
    refine lv_tableOut (tgt := 91) hx hb d_Q_mayBe_1 d_1 (by decide) ?_
    refine lv_iconst (v := 0) hx hb d_Q_mayBe_91 (by decide) ?_
    exact z_zret hx hb hr hlocks hS (by first | rfl | simp [sMay, zb, *]) d_Q_mayBe_92
  · obtain rfl | rfl | rfl | rfl | rfl | rfl : k9 = 0 ∨ k9 = 1 ∨ k9 = 2 ∨ k9 = 3 ∨ k9 = 4 ∨ k9 = 5 := by omega
    · have e9 : what = 0 := hkk
      clear hkk
      subst e9
      refine lv_tableIn (tgt := 40) hx hb d_Q_mayBe_1 (by decide) (by decide) rfl (by decide) ?_
      refine lv_iload_n hx hb d_Q_mayBe_40 rfl (zl hl rfl) ?_
      refine lv_iconst (v := 1) hx hb d_Q_mayBe_41 (by decide) ?_
      refine lv_sipush (v := 200) hx hb d_Q_mayBe_42 (by decide) ?_
      refine z_calli (va_runSN (As := [.int v, .int 1, .int 200]) (rest := []) ⟨hx, hb, hml, hown, hts⟩ (c_X_within l hP v 1 200) ⟨va_cnB 3 hts (tt_in tw_186) rfl rfl rfl hN.2.2 (hts _ tw_30) (by decide +kernel) ⟨Nat.le_of_ble_eq_true rfl, Nat.le_of_ble_eq_true rfl⟩, hts _ tw_185, trivial⟩ (zPc_S hKN) rfl rfl hl.1 rfl (lv_room (Nat.le_of_ble_eq_true rfl)) d_Q_mayBe_45 ⟨Nat.zero_le _, Nat.zero_le _⟩) hS (fun locs hS => ?_)
      exact z_zret hx hb hr hlocks hS (by first | rfl | simp [sMay, zb, *]) d_Q_mayBe_48
    · have e9 : what = 1 := hkk
      clear hkk
      subst e9
      refine lv_tableIn (tgt := 49) hx hb d_Q_mayBe_1 (by decide) (by decide) rfl (by decide) ?_
      refine lv_iload_n hx hb d_Q_mayBe_49 rfl (zl hl rfl) ?_
      refine lv_iconst (v := 1) hx hb d_Q_mayBe_50 (by decide) ?_
      refine lv_bipush (v := 20) hx hb d_Q_mayBe_51 (by decide) ?_
      refine z_calli (va_runSN (As := [.int v, .int 1, .int 20]) (rest := []) ⟨hx, hb, hml, hown, hts⟩ (c_X_within l hP v 1 20) ⟨va_cnB 3 hts (tt_in tw_186) rfl rfl rfl hN.2.2 (hts _ tw_30) (by decide +kernel) ⟨Nat.le_of_ble_eq_true rfl, Nat.le_of_ble_eq_true rfl⟩, hts _ tw_185, trivial⟩ (zPc_S hKN) rfl rfl hl.1 rfl (lv_room (Nat.le_of_ble_eq_true rfl)) d_Q_mayBe_53 ⟨Nat.zero_le _, Nat.zero_le _⟩) hS (fun locs hS => ?_)
      exact z_zret hx hb hr hlocks hS (by first | rfl | simp [sMay, zb, *]) d_Q_mayBe_56
    · have e9 : what = 2 := hkk
      clear hkk
      subst e9
      refine lv_tableIn (tgt := 57) hx hb d_Q_mayBe_1 (by decide) (by decide) rfl (by decide) ?_
      refine lv_iload_n hx hb d_Q_mayBe_57 rfl (zl hl rfl) ?_
      refine lv_iconst (v := 1) hx hb d_Q_mayBe_58 (by decide) ?_
      refine lv_bipush (v := 100) hx hb d_Q_mayBe_59 (by decide) ?_
      refine z_calli (va_runSN (As := [.int v, .int 1, .int 100]) (rest := []) ⟨hx, hb, hml, hown, hts⟩ (c_X_within l hP v 1 100) ⟨va_cnB 3 hts (tt_in tw_186) rfl rfl rfl hN.2.2 (hts _ tw_30) (by decide +kernel) ⟨Nat.le_of_ble_eq_true rfl, Nat.le_of_ble_eq_true rfl⟩, hts _ tw_185, trivial⟩ (zPc_S hKN) rfl rfl hl.1 rfl (lv_room (Nat.le_of_ble_eq_true rfl)) d_Q_mayBe_61 ⟨Nat.zero_le _, Nat.zero_le _⟩) hS (fun locs hS => ?_)
      exact z_zret hx hb hr hlocks hS (by first | rfl | simp [sMay, zb, *]) d_Q_mayBe_64
    · have e9 : what = 3 := hkk
      clear hkk
      subst e9
      refine lv_tableIn (tgt := 65) hx hb d_Q_mayBe_1 (by decide) (by decide) rfl (by decide) ?_
      refine lv_iload_n hx hb d_Q_mayBe_65 rfl (zl hl rfl) ?_
      refine lv_iconst (v := 1) hx hb d_Q_mayBe_66 (by decide) ?_
      refine lv_sipush (v := 1000) hx hb d_Q_mayBe_67 (by decide) ?_
      refine z_calli (va_runSN (As := [.int v, .int 1, .int 1000]) (rest := []) ⟨hx, hb, hml, hown, hts⟩ (c_X_within l hP v 1 1000) ⟨va_cnB 3 hts (tt_in tw_186) rfl rfl rfl hN.2.2 (hts _ tw_30) (by decide +kernel) ⟨Nat.le_of_ble_eq_true rfl, Nat.le_of_ble_eq_true rfl⟩, hts _ tw_185, trivial⟩ (zPc_S hKN) rfl rfl hl.1 rfl (lv_room (Nat.le_of_ble_eq_true rfl)) d_Q_mayBe_70 ⟨Nat.zero_le _, Nat.zero_le _⟩) hS (fun locs hS => ?_)
      exact z_zret hx hb hr hlocks hS (by first | rfl | simp [sMay, zb, *]) d_Q_mayBe_73
    · have e9 : what = 4 := hkk
      clear hkk
      subst e9
      refine lv_tableIn (tgt := 74) hx hb d_Q_mayBe_1 (by decide) (by decide) rfl (by decide) ?_
      refine lv_iload_n hx hb d_Q_mayBe_74 rfl (zl hl rfl) ?_
      refine lv_iconst (v := 0) hx hb d_Q_mayBe_75 (by decide) ?_
      refine lv_bipush (v := 100) hx hb d_Q_mayBe_76 (by decide) ?_
      refine z_calli (va_runSN (As := [.int v, .int 0, .int 100]) (rest := []) ⟨hx, hb, hml, hown, hts⟩ (c_X_within l hP v 0 100) ⟨va_cnB 3 hts (tt_in tw_186) rfl rfl rfl hN.2.2 (hts _ tw_30) (by decide +kernel) ⟨Nat.le_of_ble_eq_true rfl, Nat.le_of_ble_eq_true rfl⟩, hts _ tw_185, trivial⟩ (zPc_S hKN) rfl rfl hl.1 rfl (lv_room (Nat.le_of_ble_eq_true rfl)) d_Q_mayBe_78 ⟨Nat.zero_le _, Nat.zero_le _⟩) hS (fun locs hS => ?_)
      exact z_zret hx hb hr hlocks hS (by first | rfl | simp [sMay, zb, *]) d_Q_mayBe_81
    · have e9 : what = 5 := hkk
      clear hkk
      subst e9
      refine lv_tableIn (tgt := 82) hx hb d_Q_mayBe_1 (by decide) (by decide) rfl (by decide) ?_
      refine lv_iload_n hx hb d_Q_mayBe_82 rfl (zl hl rfl) ?_
      refine lv_iconst (v := 0) hx hb d_Q_mayBe_83 (by decide) ?_
      refine lv_sipush (v := 1000) hx hb d_Q_mayBe_84 (by decide) ?_
      refine z_calli (va_runSN (As := [.int v, .int 0, .int 1000]) (rest := []) ⟨hx, hb, hml, hown, hts⟩ (c_X_within l hP v 0 1000) ⟨va_cnB 3 hts (tt_in tw_186) rfl rfl rfl hN.2.2 (hts _ tw_30) (by decide +kernel) ⟨Nat.le_of_ble_eq_true rfl, Nat.le_of_ble_eq_true rfl⟩, hts _ tw_185, trivial⟩ (zPc_S hKN) rfl rfl hl.1 rfl (lv_room (Nat.le_of_ble_eq_true rfl)) d_Q_mayBe_87 ⟨Nat.zero_le _, Nat.zero_le _⟩) hS (fun locs hS => ?_)
      exact z_zret hx hb hr hlocks hS (by first | rfl | simp [sMay, zb, *]) d_Q_mayBe_90
set_option maxHeartbeats 4000000 in
set_option maxRecDepth 100000 in
theorem c_Q_change (l : Launch) {D : va_G} {tys : List (ClassId × FieldType)} {ws : va_W} {H : Heap} (hP : va_P D vwCl ws H) {qa : Nat} {loan most base top growth memory : Int32} (hq : zin ws qa (.inr (1, [.int loan, .int most, .int base, .int top, .int growth, .int memory]))) {B : Nat} (hD : va_D (fun q => B ≤ q) ws) (what v : Int32) : Met l y_Q_change (Cond.code y_Q_change b_Q_change 3 (some .boolean) :: TT) ({ frames := 3, cells := 0, slots := 0, locals := 120 }) (zPc [.ref qa, .int what, .int v] H D vwCl tys) (zR D vwCl B (some (.int (zb (sMay what v)))) (fun ws' => (sMay what v = true ∧ tx what < 6 ∧ what = nI (tx what) ∧ zupd ws qa (.inr (1, ([.int loan, .int most, .int base, .int top, .int growth, .int memory] : List Value).set (tx what) (.int v))) ws') ∨ (sMay what v = false ∧ ws' = ws))) 0 0 (fun q => B ≤ q) := by
  refine z_body (by decide) (Nat.le_of_ble_eq_true rfl) ?_
  intro p e s m below meth c ls C0 hH hKN hl
  obtain ⟨hx, hb, hr, hts, hown, hlocks, hml⟩ := C0
  subst hH
  have hK := hKN.1
  have hN := hKN.2
  have hS : va_S (fun q => B ≤ q) s.heap s.heap [] := va_S.rf
  have hl : lv_has ls 3 [(0, .ref qa), (1, .int what), (2, .int v)] := hl
  refine lv_iload_n hx hb d_Q_change_0 rfl (zl hl rfl) ?_
  refine lv_iload_n hx hb d_Q_change_1 rfl (zl hl rfl) ?_
  refine z_calli (va_runS (As := [.int what, .int v]) (rest := []) ⟨hx, hb, hml, hown, hts⟩ (c_Q_mayBe l hP what v) (va_cwS 2 hts (tt_S tw_233 tw_231 tw_232 tw_34) rfl rfl rfl (by decide +kernel) ⟨Nat.le_of_ble_eq_true rfl, Nat.le_of_ble_eq_true rfl⟩) (zPc_S hKN) rfl rfl hl.1 rfl (lv_room (Nat.le_of_ble_eq_true rfl)) d_Q_change_2 ⟨Nat.zero_le _, Nat.zero_le _⟩) hS (fun locs hS => ?_)
  refine lv_if_ne (tgt := 10) hx hb d_Q_change_5 (by decide) (fun c_1 => ?_) (fun c_1 => ?_)
  · have b1 := zb_t c_1
    refine lv_iload_n hx hb d_Q_change_10 rfl (zl hl rfl) ?_
    rcases z_sw what 5 (by decide) with d_2 | ⟨k9, hk9, hkk⟩
    · have n_3 : ¬ what = 0 := fun h => absurd (h ▸ d_2) (by decide)
      have n_4 : ¬ what = 1 := fun h => absurd (h ▸ d_2) (by decide)
      have n_5 : ¬ what = 2 := fun h => absurd (h ▸ d_2) (by decide)
      have n_6 : ¬ what = 3 := fun h => absurd (h ▸ d_2) (by decide)
      have n_7 : ¬ what = 4 := fun h => absurd (h ▸ d_2) (by decide)
      have n_8 : ¬ what = 5 := fun h => absurd (h ▸ d_2) (by decide)
      refine lv_tableOut (tgt := 96) hx hb d_Q_change_11 d_2 (by decide) ?_
      exact absurd b1 (by simp [sMay, *])
    · obtain rfl | rfl | rfl | rfl | rfl | rfl : k9 = 0 ∨ k9 = 1 ∨ k9 = 2 ∨ k9 = 3 ∨ k9 = 4 ∨ k9 = 5 := by omega
      · have e9 : what = 0 := hkk
        clear hkk
        subst e9
        refine lv_tableIn (tgt := 48) hx hb d_Q_change_11 (by decide) (by decide) rfl (by decide) ?_
        refine lv_aload_n hx hb d_Q_change_48 rfl (zl hl rfl) ?_
        refine lv_iload_n hx hb d_Q_change_49 rfl (zl hl rfl) ?_
        refine z_put (C := R_Q) (T := F_Q) (N := 6) (v := .int v) hx hb hts inT_Q ft_Q ft_Q_ok fn_Q hown hK hP hD hS hq rfl 0 (by decide) tw_93 (fun _ h => h) rfl rfl rfl (by simp) d_Q_change_50 (fun ws H locs hP hD hS u_9 => ?_)
        refine lv_goto (tgt := 98) hx hb d_Q_change_53 (by decide) ?_
        refine lv_iconst (v := 1) hx hb d_Q_change_98 (by decide) ?_
        exact z_zretR hx hb hr hlocks hP hD hS (by rw [b1]; rfl) (Or.inl ⟨b1, by decide, by decide, u_9⟩) d_Q_change_99
      · have e9 : what = 1 := hkk
        clear hkk
        subst e9
        refine lv_tableIn (tgt := 56) hx hb d_Q_change_11 (by decide) (by decide) rfl (by decide) ?_
        refine lv_aload_n hx hb d_Q_change_56 rfl (zl hl rfl) ?_
        refine lv_iload_n hx hb d_Q_change_57 rfl (zl hl rfl) ?_
        refine z_put (C := R_Q) (T := F_Q) (N := 6) (v := .int v) hx hb hts inT_Q ft_Q ft_Q_ok fn_Q hown hK hP hD hS hq rfl 1 (by decide) tw_96 (fun _ h => h) rfl rfl rfl (by simp) d_Q_change_58 (fun ws H locs hP hD hS u_10 => ?_)
        refine lv_goto (tgt := 98) hx hb d_Q_change_61 (by decide) ?_
        refine lv_iconst (v := 1) hx hb d_Q_change_98 (by decide) ?_
        exact z_zretR hx hb hr hlocks hP hD hS (by rw [b1]; rfl) (Or.inl ⟨b1, by decide, by decide, u_10⟩) d_Q_change_99
      · have e9 : what = 2 := hkk
        clear hkk
        subst e9
        refine lv_tableIn (tgt := 64) hx hb d_Q_change_11 (by decide) (by decide) rfl (by decide) ?_
        refine lv_aload_n hx hb d_Q_change_64 rfl (zl hl rfl) ?_
        refine lv_iload_n hx hb d_Q_change_65 rfl (zl hl rfl) ?_
        refine z_put (C := R_Q) (T := F_Q) (N := 6) (v := .int v) hx hb hts inT_Q ft_Q ft_Q_ok fn_Q hown hK hP hD hS hq rfl 2 (by decide) tw_98 (fun _ h => h) rfl rfl rfl (by simp) d_Q_change_66 (fun ws H locs hP hD hS u_11 => ?_)
        refine lv_goto (tgt := 98) hx hb d_Q_change_69 (by decide) ?_
        refine lv_iconst (v := 1) hx hb d_Q_change_98 (by decide) ?_
        exact z_zretR hx hb hr hlocks hP hD hS (by rw [b1]; rfl) (Or.inl ⟨b1, by decide, by decide, u_11⟩) d_Q_change_99
      · have e9 : what = 3 := hkk
        clear hkk
        subst e9
        refine lv_tableIn (tgt := 72) hx hb d_Q_change_11 (by decide) (by decide) rfl (by decide) ?_
        refine lv_aload_n hx hb d_Q_change_72 rfl (zl hl rfl) ?_
        refine lv_iload_n hx hb d_Q_change_73 rfl (zl hl rfl) ?_
        refine z_put (C := R_Q) (T := F_Q) (N := 6) (v := .int v) hx hb hts inT_Q ft_Q ft_Q_ok fn_Q hown hK hP hD hS hq rfl 3 (by decide) tw_99 (fun _ h => h) rfl rfl rfl (by simp) d_Q_change_74 (fun ws H locs hP hD hS u_12 => ?_)
        refine lv_goto (tgt := 98) hx hb d_Q_change_77 (by decide) ?_
        refine lv_iconst (v := 1) hx hb d_Q_change_98 (by decide) ?_
        exact z_zretR hx hb hr hlocks hP hD hS (by rw [b1]; rfl) (Or.inl ⟨b1, by decide, by decide, u_12⟩) d_Q_change_99
      · have e9 : what = 4 := hkk
        clear hkk
        subst e9
        refine lv_tableIn (tgt := 80) hx hb d_Q_change_11 (by decide) (by decide) rfl (by decide) ?_
        refine lv_aload_n hx hb d_Q_change_80 rfl (zl hl rfl) ?_
        refine lv_iload_n hx hb d_Q_change_81 rfl (zl hl rfl) ?_
        refine z_put (C := R_Q) (T := F_Q) (N := 6) (v := .int v) hx hb hts inT_Q ft_Q ft_Q_ok fn_Q hown hK hP hD hS hq rfl 4 (by decide) tw_100 (fun _ h => h) rfl rfl rfl (by simp) d_Q_change_82 (fun ws H locs hP hD hS u_13 => ?_)
        refine lv_goto (tgt := 98) hx hb d_Q_change_85 (by decide) ?_
        refine lv_iconst (v := 1) hx hb d_Q_change_98 (by decide) ?_
        exact z_zretR hx hb hr hlocks hP hD hS (by rw [b1]; rfl) (Or.inl ⟨b1, by decide, by decide, u_13⟩) d_Q_change_99
      · have e9 : what = 5 := hkk
        clear hkk
        subst e9
        refine lv_tableIn (tgt := 88) hx hb d_Q_change_11 (by decide) (by decide) rfl (by decide) ?_
        refine lv_aload_n hx hb d_Q_change_88 rfl (zl hl rfl) ?_
        refine lv_iload_n hx hb d_Q_change_89 rfl (zl hl rfl) ?_
        refine z_put (C := R_Q) (T := F_Q) (N := 6) (v := .int v) hx hb hts inT_Q ft_Q ft_Q_ok fn_Q hown hK hP hD hS hq rfl 5 (by decide) tw_102 (fun _ h => h) rfl rfl rfl (by simp) d_Q_change_90 (fun ws H locs hP hD hS u_14 => ?_)
        refine lv_goto (tgt := 98) hx hb d_Q_change_93 (by decide) ?_
        refine lv_iconst (v := 1) hx hb d_Q_change_98 (by decide) ?_
        exact z_zretR hx hb hr hlocks hP hD hS (by rw [b1]; rfl) (Or.inl ⟨b1, by decide, by decide, u_14⟩) d_Q_change_99
  · have b1 := zb_f c_1
    refine lv_iconst (v := 0) hx hb d_Q_change_8 (by decide) ?_
    exact z_zretR hx hb hr hlocks hP hD hS (by rw [b1]; rfl) (Or.inr ⟨b1, rfl⟩) d_Q_change_9
set_option maxHeartbeats 4000000 in
set_option maxRecDepth 100000 in
theorem c_X_changeLimitN (l : Launch) {D : va_G} {tys : List (ClassId × FieldType)} {ws : va_W} {H : Heap} (hP : va_P D vwCl ws H) (v : Int32) : Met l y_X_changeLimit (Cond.code y_X_changeLimit b_X_changeLimit 2 (some .boolean) :: TT) ({ frames := 2, cells := 0, slots := 0, locals := 80 }) (zPc [.null, .int v] H D vwCl tys) (zQi (zb false) H) 0 0 (fun _ => False) := by
  refine z_body (by decide) (Nat.le_of_ble_eq_true rfl) ?_
  intro p e s m below meth c ls C0 hH hKN hl
  obtain ⟨hx, hb, hr, hts, hown, hlocks, hml⟩ := C0
  subst hH
  have hK := hKN.1
  have hN := hKN.2
  have hS : va_S (fun _ => False) s.heap s.heap [] := va_S.rf
  have hl : lv_has ls 2 [(0, .null), (1, .int v)] := hl
  refine lv_aload_nN hx hb d_X_changeLimit_0 rfl (zl hl rfl) ?_
  refine lv_ifnullN (tgt := 14) hx hb d_X_changeLimit_1 (by decide) ?_
  refine lv_iconst (v := 0) hx hb d_X_changeLimit_14 (by decide) ?_
  exact z_zret hx hb hr hlocks hS (rfl) d_X_changeLimit_15
set_option maxHeartbeats 4000000 in
set_option maxRecDepth 100000 in
theorem c_X_changeLimit (l : Launch) {D : va_G} {tys : List (ClassId × FieldType)} {ws : va_W} {H : Heap} (hP : va_P D vwCl ws H) {g : Nat} {limit lent : Int32} (hg : zin ws g (.inr (0, [.int limit, .int lent]))) {B : Nat} (hD : va_D (fun q => B ≤ q) ws) (v : Int32) : Met l y_X_changeLimit (Cond.code y_X_changeLimit b_X_changeLimit 2 (some .boolean) :: TT) ({ frames := 2, cells := 0, slots := 0, locals := 80 }) (zPc [.ref g, .int v] H D vwCl tys) (zR D vwCl B (some (.int (zb (sWithin v 0 8)))) (fun ws' => (sWithin v 0 8 = true ∧ zupd ws g (.inr (0, [.int v, .int lent])) ws') ∨ (sWithin v 0 8 = false ∧ ws' = ws))) 0 0 (fun q => B ≤ q) := by
  refine z_body (by decide) (Nat.le_of_ble_eq_true rfl) ?_
  intro p e s m below meth c ls C0 hH hKN hl
  obtain ⟨hx, hb, hr, hts, hown, hlocks, hml⟩ := C0
  subst hH
  have hK := hKN.1
  have hN := hKN.2
  have hS : va_S (fun q => B ≤ q) s.heap s.heap [] := va_S.rf
  have hl : lv_has ls 2 [(0, .ref g), (1, .int v)] := hl
  refine lv_aload_n hx hb d_X_changeLimit_0 rfl (zl hl rfl) ?_
  refine lv_ifnull hx hb d_X_changeLimit_1 ?_
  refine lv_iload_n hx hb d_X_changeLimit_4 rfl (zl hl rfl) ?_
  refine lv_iconst (v := 0) hx hb d_X_changeLimit_5 (by decide) ?_
  refine lv_bipush (v := 8) hx hb d_X_changeLimit_6 (by decide) ?_
  refine z_calli (va_runS (As := [.int v, .int 0, .int 8]) (rest := []) ⟨hx, hb, hml, hown, hts⟩ (c_X_within l hP v 0 8) (va_cwS 3 hts (tt_S tw_186 tw_184 tw_185 tw_30) rfl rfl rfl (by decide +kernel) ⟨Nat.le_of_ble_eq_true rfl, Nat.le_of_ble_eq_true rfl⟩) (zPc_S hKN) rfl rfl hl.1 rfl (lv_room (Nat.le_of_ble_eq_true rfl)) d_X_changeLimit_8 ⟨Nat.zero_le _, Nat.zero_le _⟩) hS (fun locs hS => ?_)
  refine lv_if_ne (tgt := 16) hx hb d_X_changeLimit_11 (by decide) (fun c_1 => ?_) (fun c_1 => ?_)
  · have b1 := zb_t c_1
    refine lv_aload_n hx hb d_X_changeLimit_16 rfl (zl hl rfl) ?_
    refine lv_iload_n hx hb d_X_changeLimit_17 rfl (zl hl rfl) ?_
    refine z_put (C := R_G) (T := F_G) (N := 2) (v := .int v) hx hb hts inT_G ft_G ft_G_ok fn_G hown hK hP hD hS hg rfl 0 (by decide) tw_124 (fun _ h => h) rfl rfl rfl (by simp) d_X_changeLimit_18 (fun ws H locs hP hD hS u => ?_)
    refine lv_iconst (v := 1) hx hb d_X_changeLimit_21 (by decide) ?_
    exact z_zretR hx hb hr hlocks hP hD hS (by rw [b1]; rfl) (Or.inl ⟨b1, u⟩) d_X_changeLimit_22
  · have b1 := zb_f c_1
    refine lv_iconst (v := 0) hx hb d_X_changeLimit_14 (by decide) ?_
    exact z_zretR hx hb hr hlocks hP hD hS (by rw [b1]; rfl) (Or.inr ⟨b1, rfl⟩) d_X_changeLimit_15
set_option maxHeartbeats 4000000 in
set_option maxRecDepth 100000 in
theorem c_X_set (l : Launch) {D : va_G} {ws : va_W} {H : Heap} (hP : va_P D vwCl ws H) {kk : Nat → ClassId} {xa qad gad tad : Nat → Nat} {e0 : Nat} {time tok : Int32} {n : Nat} {f : FF} {ky : Nat → Int64} {h : FF} {qar gar arr : Nat → Option Nat} {ea cap : Nat} {md : Int32} (hX : PX kk xa qad gad tad e0 time tok n f ky h qar gar arr ea cap md ws) {B : Nat} (hD : va_D (fun q => B ≤ q) ws) (what which v : Int32) : Met l y_X_set (Cond.code y_X_set b_X_set 5 (some .boolean) :: TT) ({ frames := 4, cells := 0, slots := 0, locals := 160 }) (zPc [.ref (xa 0), .int what, .int which, .int v] H D vwCl (TY kk)) (zR D vwCl B (some (.int (zb (cSet what which v)))) (fun ws' => XR kk xa qad gad tad e0 time tok n (mSet f what which v) ky qar gar arr ea cap md ws ws')) 0 0 (fun q => B ≤ q) := by
  refine z_body (by decide) (Nat.le_of_ble_eq_true rfl) ?_
  intro p e s m below meth c ls C0 hH hKN hl
  obtain ⟨hx, hb, hr, hts, hown, hlocks, hml⟩ := C0
  subst hH
  have hK := hKN.1
  have hN := hKN.2
  have hS : va_S (fun q => B ≤ q) s.heap s.heap [] := va_S.rf
  have hn := PX_n hX
  have hl : lv_has ls 5 [(0, .ref (xa 0)), (1, .int what), (2, .int which), (3, .int v)] := hl
  refine lv_iload_n hx hb d_X_set_0 rfl (zl hl rfl) ?_
  refine lv_bipush (v := 6) hx hb d_X_set_1 (by decide) ?_
  refine lv_icmp_ne (tgt := 16) hx hb d_X_set_3 (by decide) (fun c_1 => ?_) (fun c_1 => ?_)
  · have b6 : ¬ what = 6 := c_1
    refine lv_aload_n hx hb d_X_set_16 rfl (zl hl rfl) ?_
    refine lv_iload_n hx hb d_X_set_17 rfl (zl hl rfl) ?_
    by_cases bQ : sWithin which 0 3 = true
    · obtain ⟨x_2, hx_3, rfl⟩ := sWithin_nI (h := 3) (by decide) bQ
      have hT : tx (nI x_2) = x_2 := tx_nI (by omega)
      have hr_4 : qRef qad (nI x_2) = some (qad x_2) := by rw [qRef, if_pos bQ, hT]
      refine z_callq (va_runV (As := [.int (nI x_2)]) (rest := []) ⟨hx, hb, hml, hown, hts⟩ (c_X_queueAt l hP hX (nI x_2)) (cwV 1 hts (tt_V tw_226 tw_223 tw_225 tw_5 tw_30) rfl rfl rfl (by decide +kernel) ⟨Nat.le_of_ble_eq_true rfl, Nat.le_of_ble_eq_true rfl⟩) (zPc_V hKN hP (ci := 3) (q := (R_X, F_X, 5)) rfl (PX_x hX)) rfl rfl hl.1 rfl (lv_room (Nat.le_of_ble_eq_true rfl)) d_X_set_18 ⟨Nat.zero_le _, Nat.zero_le _⟩) hS (fun locs hS => ?_)
      rw [hr_4]
      refine lv_astore (lv' := [(4, .ref (qad x_2)), (0, .ref (xa 0)), (1, .int what), (2, .int (nI x_2)), (3, .int v)]) hx hb d_X_set_21 hl (by decide) rfl (fun ls hl => ?_)
      refine lv_aload hx hb d_X_set_23 (zl hl rfl) ?_
      refine lv_ifnull hx hb d_X_set_25 ?_
      refine lv_aload hx hb d_X_set_28 (zl hl rfl) ?_
      refine lv_iload_n hx hb d_X_set_30 rfl (zl hl rfl) ?_
      refine lv_iload_n hx hb d_X_set_31 rfl (zl hl rfl) ?_
      have hD0 := hD
      refine z_call (va_runV (As := [.int what, .int v]) (rest := []) ⟨hx, hb, hml, hown, hts⟩ (c_Q_change l hP (PX_q hX (i := x_2) (by omega)) hD what v) (cwV 2 hts (tt_V tw_230 tw_227 tw_228 tw_229 tw_34) rfl rfl rfl (by decide +kernel) ⟨Nat.le_of_ble_eq_true rfl, Nat.le_of_ble_eq_true rfl⟩) (zPc_V hKN hP (ci := 1) (q := (R_Q, F_Q, 6)) rfl (PX_q hX (i := x_2) (by omega))) rfl rfl hl.1 rfl (lv_room (Nat.le_of_ble_eq_true rfl)) d_X_set_32 ⟨Nat.le_of_ble_eq_true rfl, Nat.le_of_ble_eq_true rfl⟩) hS (fun ws H locs hR hP hD hz9 hS => ?_)
      refine lv_if_eq (tgt := 42) hx hb d_X_set_35 (by decide) (fun c_5 => ?_) (fun c_5 => ?_)
      · have b9 := zb_f c_5
        refine lv_iconst (v := 0) hx hb d_X_set_42 (by decide) ?_
        rcases hR with ⟨r1, r2⟩ | ⟨r1, r2⟩
        · rw [r1] at b9
          cases b9
        · exact z_zretR hx hb hr hlocks hP hD hS (by rw [set_eq b6, r1, Bool.and_false]; rfl) (by rw [r2, show mSet f what (nI x_2) v = f by unfold mSet; rw [if_neg (by rw [set_eq b6, r1, Bool.and_false]; decide)]]; exact ⟨⟨h, hX⟩, zfrX_rf⟩) d_X_set_43
      · have b9 := zb_t c_5
        refine lv_iconst (v := 1) hx hb d_X_set_38 (by decide) ?_
        refine lv_goto (tgt := 43) hx hb d_X_set_39 (by decide) ?_
        rcases hR with ⟨r1, r2, r3, r4⟩ | ⟨r1, r2⟩
        · exact z_zretR hx hb hr hlocks hP hD hS (by rw [set_eq b6, bQ, r1]; rfl) (by rw [show mSet f what (nI x_2) v = w1 f 10 (6 * x_2 + tx what) v by unfold mSet; rw [if_pos (by rw [set_eq b6, bQ, r1]; rfl), if_neg (by intro z; rw [r3] at z; exact absurd ((nI_leI (a := 6) (by decide) (by omega)).mp z) (by omega)), hT]]; exact PX_wq hD0 hX (by omega) r2 rfl (by rw [qcl_set r2]; exact r4)) d_X_set_43
        · rw [r1] at b9
          cases b9
    · have bQ : sWithin which 0 3 = false := by simpa using bQ
      have hr_4 : qRef qad which = none := by rw [qRef, if_neg (by rw [bQ]; decide)]
      refine z_callq (va_runV (As := [.int which]) (rest := []) ⟨hx, hb, hml, hown, hts⟩ (c_X_queueAt l hP hX which) (cwV 1 hts (tt_V tw_226 tw_223 tw_225 tw_5 tw_30) rfl rfl rfl (by decide +kernel) ⟨Nat.le_of_ble_eq_true rfl, Nat.le_of_ble_eq_true rfl⟩) (zPc_V hKN hP (ci := 3) (q := (R_X, F_X, 5)) rfl (PX_x hX)) rfl rfl hl.1 rfl (lv_room (Nat.le_of_ble_eq_true rfl)) d_X_set_18 ⟨Nat.zero_le _, Nat.zero_le _⟩) hS (fun locs hS => ?_)
      rw [hr_4]
      refine lv_astoreN (lv' := [(4, .null), (0, .ref (xa 0)), (1, .int what), (2, .int which), (3, .int v)]) hx hb d_X_set_21 hl (by decide) rfl (fun ls hl => ?_)
      refine lv_aloadN hx hb d_X_set_23 (zl hl rfl) ?_
      refine lv_ifnullN (tgt := 42) hx hb d_X_set_25 (by decide) ?_
      refine lv_iconst (v := 0) hx hb d_X_set_42 (by decide) ?_
      exact z_zretR hx hb hr hlocks hP hD hS (by rw [set_eq b6, bQ]; rfl) (by rw [show mSet f what which v = f by unfold mSet; rw [if_neg (by rw [set_eq b6, bQ, Bool.false_and]; decide)]]; exact ⟨⟨h, hX⟩, zfrX_rf⟩) d_X_set_43
  · have e6 : what = 6 := c_1
    subst e6
    refine lv_aload_n hx hb d_X_set_6 rfl (zl hl rfl) ?_
    refine lv_iload_n hx hb d_X_set_7 rfl (zl hl rfl) ?_
    by_cases bG : sWithin which 0 7 = true
    · obtain ⟨x_6, hx_7, rfl⟩ := sWithin_nI (h := 7) (by decide) bG
      have hT : tx (nI x_6) = x_6 := tx_nI (by omega)
      have hr_8 : gRef gad (nI x_6) = some (gad x_6) := by rw [gRef, if_pos bG, hT]
      refine z_callq (va_runV (As := [.int (nI x_6)]) (rest := []) ⟨hx, hb, hml, hown, hts⟩ (c_X_groupAt l hP hX (nI x_6)) (cwV 1 hts (tt_V tw_219 tw_216 tw_218 tw_4 tw_30) rfl rfl rfl (by decide +kernel) ⟨Nat.le_of_ble_eq_true rfl, Nat.le_of_ble_eq_true rfl⟩) (zPc_V hKN hP (ci := 3) (q := (R_X, F_X, 5)) rfl (PX_x hX)) rfl rfl hl.1 rfl (lv_room (Nat.le_of_ble_eq_true rfl)) d_X_set_8 ⟨Nat.zero_le _, Nat.zero_le _⟩) hS (fun locs hS => ?_)
      rw [hr_8]
      refine lv_iload_n hx hb d_X_set_11 rfl (zl hl rfl) ?_
      have hD0 := hD
      refine z_call (va_runS (As := [.ref (gad x_6), .int v]) (rest := []) ⟨hx, hb, hml, hown, hts⟩ (c_X_changeLimit l hP (PX_g hX (i := x_6) (by omega)) hD v) (va_cwS 2 hts (tt_S tw_222 tw_220 tw_221 tw_30) rfl rfl rfl (by decide +kernel) ⟨Nat.le_of_ble_eq_true rfl, Nat.le_of_ble_eq_true rfl⟩) (zPc_S hKN) rfl rfl hl.1 rfl (lv_room (Nat.le_of_ble_eq_true rfl)) d_X_set_12 ⟨Nat.le_of_ble_eq_true rfl, Nat.le_of_ble_eq_true rfl⟩) hS (fun ws H locs hR hP hD hz9 hS => ?_)
      rcases hR with ⟨r1, r2⟩ | ⟨r1, r2⟩
      · exact z_zretR hx hb hr hlocks hP hD hS (by rw [set_eq6, bG, Bool.true_and]) (by rw [show mSet f 6 (nI x_6) v = w1 f 11 x_6 v by unfold mSet; rw [if_pos (by rw [set_eq6, bG, r1]; rfl), if_pos (by decide), hT]]; exact PX_wg hD0 hX (by omega) rfl r2) d_X_set_15
      · exact z_zretR hx hb hr hlocks hP hD hS (by rw [set_eq6, bG, Bool.true_and]) (by rw [r2, show mSet f 6 (nI x_6) v = f by unfold mSet; rw [if_neg (by rw [set_eq6, r1, Bool.and_false]; decide)]]; exact ⟨⟨h, hX⟩, zfrX_rf⟩) d_X_set_15
    · have bG : sWithin which 0 7 = false := by simpa using bG
      have hr_8 : gRef gad which = none := by rw [gRef, if_neg (by rw [bG]; decide)]
      refine z_callq (va_runV (As := [.int which]) (rest := []) ⟨hx, hb, hml, hown, hts⟩ (c_X_groupAt l hP hX which) (cwV 1 hts (tt_V tw_219 tw_216 tw_218 tw_4 tw_30) rfl rfl rfl (by decide +kernel) ⟨Nat.le_of_ble_eq_true rfl, Nat.le_of_ble_eq_true rfl⟩) (zPc_V hKN hP (ci := 3) (q := (R_X, F_X, 5)) rfl (PX_x hX)) rfl rfl hl.1 rfl (lv_room (Nat.le_of_ble_eq_true rfl)) d_X_set_8 ⟨Nat.zero_le _, Nat.zero_le _⟩) hS (fun locs hS => ?_)
      rw [hr_8]
      refine lv_iload_n hx hb d_X_set_11 rfl (zl hl rfl) ?_
      refine z_calli (va_runS (As := [.null, .int v]) (rest := []) ⟨hx, hb, hml, hown, hts⟩ (c_X_changeLimitN l hP v) (va_cwS 2 hts (tt_S tw_222 tw_220 tw_221 tw_30) rfl rfl rfl (by decide +kernel) ⟨Nat.le_of_ble_eq_true rfl, Nat.le_of_ble_eq_true rfl⟩) (zPc_S hKN) rfl rfl hl.1 rfl (lv_room (Nat.le_of_ble_eq_true rfl)) d_X_set_12 ⟨Nat.zero_le _, Nat.zero_le _⟩) hS (fun locs hS => ?_)
      exact z_zretR hx hb hr hlocks hP hD hS (by rw [set_eq6, bG]; rfl) (by rw [show mSet f 6 which v = f by unfold mSet; rw [if_neg (by rw [set_eq6, bG, Bool.false_and]; decide)]]; exact ⟨⟨h, hX⟩, zfrX_rf⟩) d_X_set_15
