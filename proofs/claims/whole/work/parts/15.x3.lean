theorem win_sub5 (x : Int32) : sWithin (x - 5) 0 7 = sWithin x 5 12 := by
  have h1 := Int32.le_toInt x
  have h2 := Int32.toInt_lt x
  simp only [sWithin, Int32.le_iff_toInt_le, Int32.toInt_sub, show (5 : Int32).toInt = 5 by decide, show (0 : Int32).toInt = 0 by decide, show (7 : Int32).toInt = 7 by decide, show (12 : Int32).toInt = 12 by decide, Int.bmod_def]
  rw [Bool.eq_iff_iff]
  simp only [Bool.and_eq_true, decide_eq_true_eq]
  omega
theorem win_sub13 (x : Int32) : sWithin (x - 13) 0 7 = sWithin x 13 20 := by
  have h1 := Int32.le_toInt x
  have h2 := Int32.toInt_lt x
  simp only [sWithin, Int32.le_iff_toInt_le, Int32.toInt_sub, show (13 : Int32).toInt = 13 by decide, show (0 : Int32).toInt = 0 by decide, show (7 : Int32).toInt = 7 by decide, show (20 : Int32).toInt = 20 by decide, Int.bmod_def]
  rw [Bool.eq_iff_iff]
  simp only [Bool.and_eq_true, decide_eq_true_eq]
  omega
theorem win_sub21 (x : Int32) : sWithin (x - 21) 0 3 = sWithin x 21 24 := by
  have h1 := Int32.le_toInt x
  have h2 := Int32.toInt_lt x
  simp only [sWithin, Int32.le_iff_toInt_le, Int32.toInt_sub, show (21 : Int32).toInt = 21 by decide, show (0 : Int32).toInt = 0 by decide, show (3 : Int32).toInt = 3 by decide, show (24 : Int32).toInt = 24 by decide, Int.bmod_def]
  rw [Bool.eq_iff_iff]
  simp only [Bool.and_eq_true, decide_eq_true_eq]
  omega
theorem comes_eq {f h : FF} {n i : Nat} (hr : rel f h n) (hi : i < n) : (sLive (f 6 i) = true ∧ sComes (f 6 i) (h 0 i) (h 1 i) = f 7 i) ∨ (sLive (f 6 i) = false ∧ sComes (f 6 i) (h 0 i) (h 1 i) = -1) := by
  have h1 := hr i hi
  unfold sLive sComes
  by_cases h0 : f 6 i = 0
  · left
    simp [h0, h1.1 h0]
  · by_cases h2 : f 6 i = 1
    · left
      simp [h2, (h1.2.1 h2).1]
    · right
      simp [h0, h2]
set_option maxHeartbeats 4000000 in
set_option maxRecDepth 100000 in
theorem c_X_lentWith (l : Launch) {D : va_G} {ws : va_W} {H : Heap} (hP : va_P D vwCl ws H) {kk : Nat → ClassId} {xa qad gad tad : Nat → Nat} {e0 : Nat} {time tok : Int32} {n : Nat} {f : FF} {ky : Nat → Int64} {h : FF} {qar gar arr : Nat → Option Nat} {ea cap : Nat} {md : Int32} (hX : PX kk xa qad gad tad e0 time tok n f ky h qar gar arr ea cap md ws) (v : Int32) : Met l y_X_lentWith (Cond.code y_X_lentWith b_X_lentWith 4 (some (.object "LoanRounds$Task")) :: TT) ({ frames := 4, cells := 0, slots := 0, locals := 160 }) (zPc [.ref (xa 0), .int v] H D vwCl (TY kk)) (zQq ((fnd (pTok f v) 0 n).map tad) H) 0 0 (fun _ => False) := by
  refine z_body (by decide) (Nat.le_of_ble_eq_true rfl) ?_
  intro p e s m below meth c ls C0 hH hKN hl
  obtain ⟨hx, hb, hr, hts, hown, hlocks, hml⟩ := C0
  subst hH
  have hK := hKN.1
  have hN := hKN.2
  have hS : va_S (fun _ => False) s.heap s.heap [] := va_S.rf
  have hn := PX_n hX
  have key : ∀ (r i : Nat) (ls : Array Slot) (locs : List Loc), i ≤ n → n + 1 ≤ i + r → (∀ k, k < i → pTok f v k = false) → lv_has ls 4 [(0, .ref (xa 0)), (1, .int v), (2, .int (nI i))] → va_S (fun _ => False) s.heap s.heap locs → W p l e ({ frames := 4, cells := 0, slots := 0, locals := 160 }) s m ([.ref (xa 0), .int v] : List Value).toArray below meth c s.heap locs 0 0 (MQ below (zQq ((fnd (pTok f v) 0 n).map tad) s.heap) ([.ref (xa 0), .int v] : List Value).toArray s 0 0 (fun _ => False)) (F0 m 2 ls []) := by
    intro r
    induction r with
    | zero => intro i ls locs h1 h2; omega
    | succ r ih =>
      intro i ls locs hi hir hno hl hS
      refine lv_iload_n hx hb d_X_lentWith_2 rfl (zl hl rfl) ?_
      refine lv_aload_n hx hb d_X_lentWith_3 rfl (zl hl rfl) ?_
      refine z_get (C := R_X) (T := F_X) (N := 5) (v := .ref (xa 3)) hx hb hts inT_X hown hK hP (PX_x hX) rfl 2 (by decide) tw_135 (fun _ h => h) rfl d_X_lentWith_4 ?_
      refine z_calli (va_runV (As := []) (rest := [.int (nI i)]) ⟨hx, hb, hml, hown, hts⟩ (c_A_size l hP (PX_l hX)) (cwV 0 hts (tt_V tw_160 tw_157 tw_158 tw_159 tw_33) rfl rfl rfl (by decide +kernel) ⟨Nat.le_of_ble_eq_true rfl, Nat.le_of_ble_eq_true rfl⟩) (zPc_V hKN hP (ci := 5) (q := (R_A, F_A, 3)) rfl (PX_l hX)) rfl rfl hl.1 rfl (lv_room (Nat.le_of_ble_eq_true rfl)) d_X_lentWith_7 ⟨Nat.zero_le _, Nat.zero_le _⟩) hS (fun locs hS => ?_)
      refine lv_icmp_ge (tgt := 49) hx hb d_X_lentWith_10 (by decide) (fun c_1 => ?_) (fun c_1 => ?_)
      · have hin := z_ge hi (by omega) c_1
        refine lv_null hx hb d_X_lentWith_49 ?_
        exact z_qret (v := none) hx hb hr (Or.inl ⟨_, rfl⟩) hlocks hS (by rw [fnd_no n 0 (fun j _ hj => hno j (by omega))]; rfl) d_X_lentWith_50
      · have hlt := z_lt hi (by omega) c_1
        refine lv_aload_n hx hb d_X_lentWith_13 rfl (zl hl rfl) ?_
        refine z_get (C := R_X) (T := F_X) (N := 5) (v := .ref (xa 3)) hx hb hts inT_X hown hK hP (PX_x hX) rfl 2 (by decide) tw_135 (fun _ h => h) rfl d_X_lentWith_14 ?_
        refine lv_iload_n hx hb d_X_lentWith_17 rfl (zl hl rfl) ?_
        have he := PX_e hX (i := i) (by omega)
        refine z_callq (va_runV (As := [.int (nI i)]) (rest := []) ⟨hx, hb, hml, hown, hts⟩ (c_A_get l hP (PX_l hX) he.1 i (by omega) (by omega) (PX_tr hX (by omega)) (by omega) (by omega)) (cwV 1 hts (tt_V tw_164 tw_161 tw_162 tw_163 tw_33) rfl rfl rfl (by decide +kernel) ⟨Nat.le_of_ble_eq_true rfl, Nat.le_of_ble_eq_true rfl⟩) (zPc_V hKN hP (ci := 5) (q := (R_A, F_A, 3)) rfl (PX_l hX)) rfl rfl hl.1 rfl (lv_room (Nat.le_of_ble_eq_true rfl)) d_X_lentWith_18 ⟨Nat.zero_le _, Nat.zero_le _⟩) hS (fun locs hS => ?_)
        refine z_cast (ci := 2) (q := (R_T, F_T, 12)) hx hb hts hown tw_175 hK hP (PX_t hX (k := i) (by omega)) rfl d_X_lentWith_21 ?_
        refine lv_astore_n (lv' := [(3, .ref (tad i)), (0, .ref (xa 0)), (1, .int v), (2, .int (nI i))]) hx hb d_X_lentWith_24 rfl hl (by decide) rfl (fun ls hl => ?_)
        refine lv_aload_n hx hb d_X_lentWith_25 rfl (zl hl rfl) ?_
        refine z_get (C := R_T) (T := F_T) (N := 12) (v := .int (f 6 i)) hx hb hts inT_T hown hK hP (PX_t hX (k := i) (by omega)) rfl 5 (by decide) tw_406 (fun _ h => h) rfl d_X_lentWith_26 ?_
        refine lv_iconst (v := 1) hx hb d_X_lentWith_29 (by decide) ?_
        refine lv_icmp_ne (tgt := 43) hx hb d_X_lentWith_30 (by decide) (fun c_2 => ?_) (fun c_2 => ?_)
        · refine lv_iinc (v := (nI (i + 1))) (lv' := [(2, .int (nI (i + 1))), (3, .ref (tad i)), (0, .ref (xa 0)), (1, .int v)]) hx hb d_X_lentWith_43 hl (k := 3) rfl (nI_1 i) (by decide) rfl (fun ls hl => ?_)
          refine lv_goto (tgt := 2) hx hb d_X_lentWith_46 (by decide) ?_
          exact ih (i + 1) ls locs (by omega) (by omega) (lt_s hno (by simp [pTok, *])) (lv_sub hl [2, 3, 0] rfl) hS
        · have c9 := c_2
          have hr3 := ((PX_rel hX i hlt).2.1 c_2).2.2
          refine lv_aload_n hx hb d_X_lentWith_33 rfl (zl hl rfl) ?_
          refine z_get (C := R_T) (T := F_T) (N := 12) (v := .int (h 3 i)) hx hb hts inT_T hown hK hP (PX_t hX (k := i) (by omega)) rfl 10 (by decide) tw_416 (fun _ h => h) rfl d_X_lentWith_34 ?_
          refine lv_iload_n hx hb d_X_lentWith_37 rfl (zl hl rfl) ?_
          refine lv_icmp_ne (tgt := 43) hx hb d_X_lentWith_38 (by decide) (fun c_3 => ?_) (fun c_3 => ?_)
          · have c8 : ¬ f 9 i = v := by rw [← hr3]; exact c_3
            clear hr3
            refine lv_iinc (v := (nI (i + 1))) (lv' := [(2, .int (nI (i + 1))), (3, .ref (tad i)), (0, .ref (xa 0)), (1, .int v)]) hx hb d_X_lentWith_43 hl (k := 3) rfl (nI_1 i) (by decide) rfl (fun ls hl => ?_)
            refine lv_goto (tgt := 2) hx hb d_X_lentWith_46 (by decide) ?_
            exact ih (i + 1) ls locs (by omega) (by omega) (lt_s hno (by simp [pTok, *])) (lv_sub hl [2, 3, 0] rfl) hS
          · have c8 :  f 9 i = v := by rw [← hr3]; exact c_3
            clear hr3
            refine lv_aload_n hx hb d_X_lentWith_41 rfl (zl hl rfl) ?_
            exact z_qret (v := some (tad i)) hx hb hr (Or.inl ⟨_, rfl⟩) hlocks hS (by rw [fnd_at n 0 i (Nat.zero_le _) (by omega) (fun j _ hj => hno j hj) (by simp [pTok, *])]; rfl) d_X_lentWith_42
  have hl : lv_has ls 4 [(0, .ref (xa 0)), (1, .int v)] := hl
  refine lv_iconst (v := 0) hx hb d_X_lentWith_0 (by decide) ?_
  refine lv_istore_n (lv' := [(2, .int 0), (0, .ref (xa 0)), (1, .int v)]) hx hb d_X_lentWith_1 rfl hl (by decide) rfl (fun ls hl => ?_)
  exact key (n + 1) 0 ls [] (Nat.zero_le _) (by omega) lt_0 (lv_sub hl [1, 2, 0] rfl) hS
set_option maxHeartbeats 4000000 in
set_option maxRecDepth 100000 in
theorem c_X_numberUnder (l : Launch) {D : va_G} {ws : va_W} {H : Heap} (hP : va_P D vwCl ws H) {kk : Nat → ClassId} {xa qad gad tad : Nat → Nat} {e0 : Nat} {time tok : Int32} {n : Nat} {f : FF} {ky : Nat → Int64} {h : FF} {qar gar arr : Nat → Option Nat} {ea cap : Nat} {md : Int32} (hX : PX kk xa qad gad tad e0 time tok n f ky h qar gar arr ea cap md ws) (qi : Nat) (hqi : qi < 4) (kv : Int64) (hk0 : ¬ kv = 0) : Met l y_X_numberUnder (Cond.code y_X_numberUnder b_X_numberUnder 6 (some .int) :: TT) ({ frames := 4, cells := 0, slots := 0, locals := 160 }) (zPc [.ref (xa 0), .ref (qad qi), .long kv] H D vwCl (TY kk)) (zQi (oI (lstD (pKey f ky time qi kv) n)) H) 0 0 (fun _ => False) := by
  refine z_body (by decide) (Nat.le_of_ble_eq_true rfl) ?_
  intro p e s m below meth c ls C0 hH hKN hl
  obtain ⟨hx, hb, hr, hts, hown, hlocks, hml⟩ := C0
  subst hH
  have hK := hKN.1
  have hN := hKN.2
  have hS : va_S (fun _ => False) s.heap s.heap [] := va_S.rf
  have hn := PX_n hX
  have key : ∀ (i : Nat) (ls : Array Slot) (locs : List Loc), i ≤ n → lstD (pKey f ky time qi kv) n = lstD (pKey f ky time qi kv) i → lv_has ls 6 [(0, .ref (xa 0)), (1, .ref (qad qi)), (2, .long kv), (4, .int (pr i))] → va_S (fun _ => False) s.heap s.heap locs → W p l e ({ frames := 4, cells := 0, slots := 0, locals := 160 }) s m ([.ref (xa 0), .ref (qad qi), .long kv] : List Value).toArray below meth c s.heap locs 0 0 (MQ below (zQi (oI (lstD (pKey f ky time qi kv) n)) s.heap) ([.ref (xa 0), .ref (qad qi), .long kv] : List Value).toArray s 0 0 (fun _ => False)) (F0 m 11 ls []) := by
    intro i
    induction i with
    | zero =>
      intro ls locs hi hst hl hS
      have hl : lv_has ls 6 [(0, .ref (xa 0)), (1, .ref (qad qi)), (2, .long kv), (4, .int (-1))] := hl
      refine lv_iload hx hb d_X_numberUnder_11 (zl hl rfl) ?_
      refine lv_if_lt (tgt := 70) hx hb d_X_numberUnder_13 (by decide) (fun c_1 => ?_) (fun c_1 => ?_)
      · refine lv_iconst (v := (-1)) hx hb d_X_numberUnder_70 (by decide) ?_
        exact z_iret hx hb hr hlocks hS (by rw [hst]; rfl) d_X_numberUnder_71
      · exact absurd (by decide) c_1
    | succ j ih =>
      intro ls locs hi hst hl hS
      have hl : lv_has ls 6 [(0, .ref (xa 0)), (1, .ref (qad qi)), (2, .long kv), (4, .int (nI j))] := hl
      have hqj := (PX_okq hX j (by omega)).2
      have hke := key_eq hX (t := j) (by omega) hk0 hqi
      refine lv_iload hx hb d_X_numberUnder_11 (zl hl rfl) ?_
      refine lv_if_lt (tgt := 70) hx hb d_X_numberUnder_13 (by decide) (fun c_1 => ?_) (fun c_1 => ?_)
      · exact absurd c_1 (nI_pos (by omega))
      · refine lv_aload_n hx hb d_X_numberUnder_16 rfl (zl hl rfl) ?_
        refine z_get (C := R_X) (T := F_X) (N := 5) (v := .ref (xa 3)) hx hb hts inT_X hown hK hP (PX_x hX) rfl 2 (by decide) tw_135 (fun _ h => h) rfl d_X_numberUnder_17 ?_
        refine lv_iload hx hb d_X_numberUnder_20 (zl hl rfl) ?_
        have he := PX_e hX (i := j) (by omega)
        refine z_callq (va_runV (As := [.int (nI j)]) (rest := []) ⟨hx, hb, hml, hown, hts⟩ (c_A_get l hP (PX_l hX) he.1 j (by omega) (by omega) (PX_tr hX (by omega)) (by omega) (by omega)) (cwV 1 hts (tt_V tw_164 tw_161 tw_162 tw_163 tw_33) rfl rfl rfl (by decide +kernel) ⟨Nat.le_of_ble_eq_true rfl, Nat.le_of_ble_eq_true rfl⟩) (zPc_V hKN hP (ci := 5) (q := (R_A, F_A, 3)) rfl (PX_l hX)) rfl rfl hl.1 rfl (lv_room (Nat.le_of_ble_eq_true rfl)) d_X_numberUnder_22 ⟨Nat.zero_le _, Nat.zero_le _⟩) hS (fun locs hS => ?_)
        refine z_cast (ci := 2) (q := (R_T, F_T, 12)) hx hb hts hown tw_175 hK hP (PX_t hX (k := j) (by omega)) rfl d_X_numberUnder_25 ?_
        refine lv_astore (lv' := [(5, .ref (tad j)), (0, .ref (xa 0)), (1, .ref (qad qi)), (2, .long kv), (4, .int (nI j))]) hx hb d_X_numberUnder_28 hl (by decide) rfl (fun ls hl => ?_)
        refine lv_aload hx hb d_X_numberUnder_30 (zl hl rfl) ?_
        refine z_get (C := R_T) (T := F_T) (N := 12) (v := .ref (qad (qx f j))) hx hb hts inT_T hown hK hP (PX_t hX (k := j) (by omega)) rfl 1 (by decide) tw_400 (fun _ h => h) rfl d_X_numberUnder_32 ?_
        refine lv_aload_n hx hb d_X_numberUnder_35 rfl (zl hl rfl) ?_
        refine lv_acmp_ne (tgt := 64) (rx := (some (qad (qx f j)))) (ry := (some (qad qi))) hx hb d_X_numberUnder_36 (by decide) (fun c_2 => ?_) (fun c_2 => ?_)
        · have b1 : ¬ qx f j = qi := fun z => c_2 (by rw [z])
          refine lv_iinc (v := (pr j)) (lv' := [(4, .int (pr j)), (5, .ref (tad j)), (0, .ref (xa 0)), (1, .ref (qad qi)), (2, .long kv)]) hx hb d_X_numberUnder_64 hl (k := 4) rfl (pr_dec j) (by decide) rfl (fun ls hl => ?_)
          refine lv_goto (tgt := 11) hx hb d_X_numberUnder_67 (by decide) ?_
          exact ih ls locs (by omega) (by rw [hst]; exact lstD_f (by rw [hke]; first | (simp [*]; done) | (rw [b4]; simp [*]; done))) (lv_sub hl [2, 3, 4, 0] rfl) hS
        · have b1 : qx f j = qi := PX_qi hX _ _ hqj hqi (Option.some.inj c_2)
          refine lv_aload hx hb d_X_numberUnder_39 (zl hl rfl) ?_
          refine z_get (C := R_T) (T := F_T) (N := 12) (v := .long (ky j)) hx hb hts inT_T hown hK hP (PX_t hX (k := j) (by omega)) rfl 4 (by decide) tw_404 (fun _ h => h) rfl d_X_numberUnder_41 ?_
          refine lv_lload_n hx hb d_X_numberUnder_44 rfl (zl hl rfl) ?_
          refine W.lcmp hx hb d_X_numberUnder_45 ?_
          refine lv_if_ne (tgt := 64) hx hb d_X_numberUnder_46 (by decide) (fun c_3 => ?_) (fun c_3 => ?_)
          · have b2 : ¬ ky j = kv := fun z => c_3 (lgc.mpr z)
            refine lv_iinc (v := (pr j)) (lv' := [(4, .int (pr j)), (5, .ref (tad j)), (0, .ref (xa 0)), (1, .ref (qad qi)), (2, .long kv)]) hx hb d_X_numberUnder_64 hl (k := 4) rfl (pr_dec j) (by decide) rfl (fun ls hl => ?_)
            refine lv_goto (tgt := 11) hx hb d_X_numberUnder_67 (by decide) ?_
            exact ih ls locs (by omega) (by rw [hst]; exact lstD_f (by rw [hke]; first | (simp [*]; done) | (rw [b4]; simp [*]; done))) (lv_sub hl [2, 3, 4, 0] rfl) hS
          · have b2 : ky j = kv := lgc.mp c_3
            refine lv_aload hx hb d_X_numberUnder_49 (zl hl rfl) ?_
            refine lv_aload_n hx hb d_X_numberUnder_51 rfl (zl hl rfl) ?_
            refine z_get (C := R_X) (T := F_X) (N := 5) (v := .int time) hx hb hts inT_X hown hK hP (PX_x hX) rfl 3 (by decide) tw_136 (fun _ h => h) rfl d_X_numberUnder_52 ?_
            refine z_calli (va_runV (As := [.int time]) (rest := []) ⟨hx, hb, hml, hown, hts⟩ (c_T_holdsKey l hP (PX_t hX (k := j) (by omega)) (PX_q hX hqj) time) (cwV 1 hts (tt_V tw_374 tw_371 tw_372 tw_373 tw_44) rfl rfl rfl (by decide +kernel) ⟨Nat.le_of_ble_eq_true rfl, Nat.le_of_ble_eq_true rfl⟩) (zPc_V hKN hP (ci := 2) (q := (R_T, F_T, 12)) rfl (PX_t hX (k := j) (by omega))) rfl rfl hl.1 rfl (lv_room (Nat.le_of_ble_eq_true rfl)) d_X_numberUnder_55 ⟨Nat.zero_le _, Nat.zero_le _⟩) hS (fun locs hS => ?_)
            refine lv_if_eq (tgt := 64) hx hb d_X_numberUnder_58 (by decide) (fun c_4 => ?_) (fun c_4 => ?_)
            · have b4 := zb_f c_4
              refine lv_iinc (v := (pr j)) (lv' := [(4, .int (pr j)), (5, .ref (tad j)), (0, .ref (xa 0)), (1, .ref (qad qi)), (2, .long kv)]) hx hb d_X_numberUnder_64 hl (k := 4) rfl (pr_dec j) (by decide) rfl (fun ls hl => ?_)
              refine lv_goto (tgt := 11) hx hb d_X_numberUnder_67 (by decide) ?_
              exact ih ls locs (by omega) (by rw [hst]; exact lstD_f (by rw [hke]; first | (simp [*]; done) | (rw [b4]; simp [*]; done))) (lv_sub hl [2, 3, 4, 0] rfl) hS
            · have b4 := zb_t c_4
              refine lv_iload hx hb d_X_numberUnder_61 (zl hl rfl) ?_
              exact z_iret hx hb hr hlocks hS (by rw [hst, lstD_t (by rw [hke]; first | (simp [*]; done) | (rw [b4]; simp [*]; done))]; rfl) d_X_numberUnder_63
  have hl : lv_has ls 6 [(0, .ref (xa 0)), (1, .ref (qad qi)), (2, .long kv)] := hl
  refine lv_aload_n hx hb d_X_numberUnder_0 rfl (zl hl rfl) ?_
  refine z_get (C := R_X) (T := F_X) (N := 5) (v := .ref (xa 3)) hx hb hts inT_X hown hK hP (PX_x hX) rfl 2 (by decide) tw_135 (fun _ h => h) rfl d_X_numberUnder_1 ?_
  refine z_calli (va_runV (As := []) (rest := []) ⟨hx, hb, hml, hown, hts⟩ (c_A_size l hP (PX_l hX)) (cwV 0 hts (tt_V tw_160 tw_157 tw_158 tw_159 tw_33) rfl rfl rfl (by decide +kernel) ⟨Nat.le_of_ble_eq_true rfl, Nat.le_of_ble_eq_true rfl⟩) (zPc_V hKN hP (ci := 5) (q := (R_A, F_A, 3)) rfl (PX_l hX)) rfl rfl hl.1 rfl (lv_room (Nat.le_of_ble_eq_true rfl)) d_X_numberUnder_4 ⟨Nat.zero_le _, Nat.zero_le _⟩) hS (fun locs hS => ?_)
  refine lv_iconst (v := 1) hx hb d_X_numberUnder_7 (by decide) ?_
  refine lv_isub hx hb d_X_numberUnder_8 ?_
  refine z_top (y := pr n) (pr_sub n) ?_
  refine lv_istore (lv' := [(4, .int (pr n)), (0, .ref (xa 0)), (1, .ref (qad qi)), (2, .long kv)]) hx hb d_X_numberUnder_9 hl (by decide) rfl (fun ls hl => ?_)
  exact key n ls _ (Nat.le_refl _) rfl (lv_sub hl [1, 2, 3, 0] rfl) hS
set_option maxHeartbeats 4000000 in
set_option maxRecDepth 100000 in
theorem c_X_firstOf (l : Launch) {D : va_G} {ws : va_W} {H : Heap} (hP : va_P D vwCl ws H) {kk : Nat → ClassId} {xa qad gad tad : Nat → Nat} {e0 : Nat} {time tok : Int32} {n : Nat} {f : FF} {ky : Nat → Int64} {h : FF} {qar gar arr : Nat → Option Nat} {ea cap : Nat} {md : Int32} (hX : PX kk xa qad gad tad e0 time tok n f ky h qar gar arr ea cap md ws) (qi : Nat) (hqi : qi < 4) : Met l y_X_firstOf (Cond.code y_X_firstOf b_X_firstOf 5 (some (.object "LoanRounds$Task")) :: TT) ({ frames := 4, cells := 0, slots := 0, locals := 160 }) (zPc [.ref (xa 0), .ref (qad qi)] H D vwCl (TY kk)) (zQq ((fst f time n (nI qi) n).map tad) H) 0 0 (fun _ => False) := by
  refine z_body (by decide) (Nat.le_of_ble_eq_true rfl) ?_
  intro p e s m below meth c ls C0 hH hKN hl
  obtain ⟨hx, hb, hr, hts, hown, hlocks, hml⟩ := C0
  subst hH
  have hK := hKN.1
  have hN := hKN.2
  have hS : va_S (fun _ => False) s.heap s.heap [] := va_S.rf
  have hn := PX_n hX
  have key : ∀ (r i : Nat) (best : Option Nat) (ls : Array Slot) (locs : List Loc), i ≤ n → n + 1 ≤ i + r → fst f time n (nI qi) i = best → lv_has ls 5 [(0, .ref (xa 0)), (1, .ref (qad qi)), (2, va_rf (best.map tad)), (3, .int (nI i))] → va_S (fun _ => False) s.heap s.heap locs → W p l e ({ frames := 4, cells := 0, slots := 0, locals := 160 }) s m ([.ref (xa 0), .ref (qad qi)] : List Value).toArray below meth c s.heap locs 0 0 (MQ below (zQq ((fst f time n (nI qi) n).map tad) s.heap) ([.ref (xa 0), .ref (qad qi)] : List Value).toArray s 0 0 (fun _ => False)) (F0 m 4 ls []) := by
    intro r
    induction r with
    | zero => intro i best ls locs h1 h2; omega
    | succ r ih =>
      intro i best ls locs hi hir hbe hl hS
      cases best with
      | none =>
        have hl : lv_has ls 5 [(0, .ref (xa 0)), (1, .ref (qad qi)), (2, .null), (3, .int (nI i))] := hl
        refine lv_iload_n hx hb d_X_firstOf_4 rfl (zl hl rfl) ?_
        refine lv_aload_n hx hb d_X_firstOf_5 rfl (zl hl rfl) ?_
        refine z_get (C := R_X) (T := F_X) (N := 5) (v := .ref (xa 3)) hx hb hts inT_X hown hK hP (PX_x hX) rfl 2 (by decide) tw_135 (fun _ h => h) rfl d_X_firstOf_6 ?_
        refine z_calli (va_runV (As := []) (rest := [.int (nI i)]) ⟨hx, hb, hml, hown, hts⟩ (c_A_size l hP (PX_l hX)) (cwV 0 hts (tt_V tw_160 tw_157 tw_158 tw_159 tw_33) rfl rfl rfl (by decide +kernel) ⟨Nat.le_of_ble_eq_true rfl, Nat.le_of_ble_eq_true rfl⟩) (zPc_V hKN hP (ci := 5) (q := (R_A, F_A, 3)) rfl (PX_l hX)) rfl rfl hl.1 rfl (lv_room (Nat.le_of_ble_eq_true rfl)) d_X_firstOf_9 ⟨Nat.zero_le _, Nat.zero_le _⟩) hS (fun locs hS => ?_)
        refine lv_icmp_ge (tgt := 75) hx hb d_X_firstOf_12 (by decide) (fun c_1 => ?_) (fun c_1 => ?_)
        · have hin := z_ge hi (by omega) c_1
          refine lv_aload_nN hx hb d_X_firstOf_75 rfl (zl hl rfl) ?_
          exact z_qret (v := none) hx hb hr (Or.inl ⟨_, rfl⟩) hlocks hS (by subst hin; rw [hbe]; rfl) d_X_firstOf_76
        · have hlt := z_lt hi (by omega) c_1
          refine lv_aload_n hx hb d_X_firstOf_15 rfl (zl hl rfl) ?_
          refine z_get (C := R_X) (T := F_X) (N := 5) (v := .ref (xa 3)) hx hb hts inT_X hown hK hP (PX_x hX) rfl 2 (by decide) tw_135 (fun _ h => h) rfl d_X_firstOf_16 ?_
          refine lv_iload_n hx hb d_X_firstOf_19 rfl (zl hl rfl) ?_
          have he := PX_e hX (i := i) (by omega)
          refine z_callq (va_runV (As := [.int (nI i)]) (rest := []) ⟨hx, hb, hml, hown, hts⟩ (c_A_get l hP (PX_l hX) he.1 i (by omega) (by omega) (PX_tr hX (by omega)) (by omega) (by omega)) (cwV 1 hts (tt_V tw_164 tw_161 tw_162 tw_163 tw_33) rfl rfl rfl (by decide +kernel) ⟨Nat.le_of_ble_eq_true rfl, Nat.le_of_ble_eq_true rfl⟩) (zPc_V hKN hP (ci := 5) (q := (R_A, F_A, 3)) rfl (PX_l hX)) rfl rfl hl.1 rfl (lv_room (Nat.le_of_ble_eq_true rfl)) d_X_firstOf_20 ⟨Nat.zero_le _, Nat.zero_le _⟩) hS (fun locs hS => ?_)
          refine z_cast (ci := 2) (q := (R_T, F_T, 12)) hx hb hts hown tw_175 hK hP (PX_t hX (k := i) (by omega)) rfl d_X_firstOf_23 ?_
          refine lv_astore (lv' := [(4, .ref (tad i)), (0, .ref (xa 0)), (1, .ref (qad qi)), (2, .null), (3, .int (nI i))]) hx hb d_X_firstOf_26 hl (by decide) rfl (fun ls hl => ?_)
          refine lv_aload hx hb d_X_firstOf_28 (zl hl rfl) ?_
          refine z_get (C := R_T) (T := F_T) (N := 12) (v := .ref (qad (qx f i))) hx hb hts inT_T hown hK hP (PX_t hX (k := i) (by omega)) rfl 1 (by decide) tw_400 (fun _ h => h) rfl d_X_firstOf_30 ?_
          refine lv_aload_n hx hb d_X_firstOf_33 rfl (zl hl rfl) ?_
          refine lv_acmp_ne (tgt := 69) (rx := (some (qad (qx f i)))) (ry := (some (qad qi))) hx hb d_X_firstOf_34 (by decide) (fun c_2 => ?_) (fun c_2 => ?_)
          · have b0 : ¬ f 1 i = nI qi := fun z => c_2 (by rw [(PX_okq hX i hlt).1] at z; rw [(nI_eq (by have := (PX_okq hX i hlt).2; omega) (by omega)).mp z])
            refine lv_iinc (v := (nI (i + 1))) (lv' := [(3, .int (nI (i + 1))), (4, .ref (tad i)), (0, .ref (xa 0)), (1, .ref (qad qi)), (2, .null)]) hx hb d_X_firstOf_69 hl (k := 4) rfl (nI_1 i) (by decide) rfl (fun ls hl => ?_)
            refine lv_goto (tgt := 4) hx hb d_X_firstOf_72 (by decide) ?_
            have hst : fst f time n (nI qi) (i + 1) = (none) := by
              show fStep f time n (nI qi) (fst f time n (nI qi) i) i = (none)
              rw [hbe]
              simp [fStep, fBetter, *]
            exact ih (i + 1) (none) ls locs (by omega) (by omega) hst (lv_sub hl [2, 3, 4, 0] rfl) hS
          · have b1 : qx f i = qi := PX_qi hX _ _ (PX_okq hX i hlt).2 hqi (Option.some.inj c_2)
            have b0 : f 1 i = nI qi := by rw [(PX_okq hX i hlt).1, b1]
            refine lv_aload hx hb d_X_firstOf_37 (zl hl rfl) ?_
            refine lv_aload_n hx hb d_X_firstOf_39 rfl (zl hl rfl) ?_
            refine z_get (C := R_X) (T := F_X) (N := 5) (v := .int time) hx hb hts inT_X hown hK hP (PX_x hX) rfl 3 (by decide) tw_136 (fun _ h => h) rfl d_X_firstOf_40 ?_
            refine z_calli (va_runV (As := [.int time]) (rest := []) ⟨hx, hb, hml, hown, hts⟩ (c_T_mayBeHad l hP (PX_t hX (k := i) (by omega)) (PX_tg hX (k := i) (by omega)) time) (cwV 1 hts (tt_V tw_246 tw_243 tw_244 tw_245 tw_44) rfl rfl rfl (by decide +kernel) ⟨Nat.le_of_ble_eq_true rfl, Nat.le_of_ble_eq_true rfl⟩) (zPc_V hKN hP (ci := 2) (q := (R_T, F_T, 12)) rfl (PX_t hX (k := i) (by omega))) rfl rfl hl.1 rfl (lv_room (Nat.le_of_ble_eq_true rfl)) d_X_firstOf_43 ⟨Nat.zero_le _, Nat.zero_le _⟩) hS (fun locs hS => ?_)
            rw [had_eq hX (by omega)]
            refine lv_if_eq (tgt := 69) hx hb d_X_firstOf_46 (by decide) (fun c_3 => ?_) (fun c_3 => ?_)
            · have b2 := zb_f c_3
              refine lv_iinc (v := (nI (i + 1))) (lv' := [(3, .int (nI (i + 1))), (4, .ref (tad i)), (0, .ref (xa 0)), (1, .ref (qad qi)), (2, .null)]) hx hb d_X_firstOf_69 hl (k := 4) rfl (nI_1 i) (by decide) rfl (fun ls hl => ?_)
              refine lv_goto (tgt := 4) hx hb d_X_firstOf_72 (by decide) ?_
              have hst : fst f time n (nI qi) (i + 1) = (none) := by
                show fStep f time n (nI qi) (fst f time n (nI qi) i) i = (none)
                rw [hbe]
                simp [fStep, fBetter, *]
              exact ih (i + 1) (none) ls locs (by omega) (by omega) hst (lv_sub hl [2, 3, 4, 0] rfl) hS
            · have b2 := zb_t c_3
              refine lv_aload_nN hx hb d_X_firstOf_49 rfl (zl hl rfl) ?_
              refine lv_ifnullN (tgt := 66) hx hb d_X_firstOf_50 (by decide) ?_
              refine lv_aload hx hb d_X_firstOf_66 (zl hl rfl) ?_
              refine lv_astore_n (lv' := [(2, .ref (tad i)), (4, .ref (tad i)), (0, .ref (xa 0)), (1, .ref (qad qi)), (3, .int (nI i))]) hx hb d_X_firstOf_68 rfl hl (by decide) rfl (fun ls hl => ?_)
              refine lv_iinc (v := (nI (i + 1))) (lv' := [(3, .int (nI (i + 1))), (2, .ref (tad i)), (4, .ref (tad i)), (0, .ref (xa 0)), (1, .ref (qad qi))]) hx hb d_X_firstOf_69 hl (k := 4) rfl (nI_1 i) (by decide) rfl (fun ls hl => ?_)
              refine lv_goto (tgt := 4) hx hb d_X_firstOf_72 (by decide) ?_
              have hst : fst f time n (nI qi) (i + 1) = (some i) := by
                show fStep f time n (nI qi) (fst f time n (nI qi) i) i = (some i)
                rw [hbe]
                simp [fStep, fBetter, *]
              exact ih (i + 1) (some i) ls locs (by omega) (by omega) hst (lv_sub hl [3, 4, 1, 0] rfl) hS
      | some b =>
        obtain ⟨hbi, hbq, hbh⟩ := fst_lt hbe
        have hqb : qx f b = qi := by have e9 := (PX_okq hX b (by omega)); rw [e9.1] at hbq; exact (nI_eq (by have := e9.2; omega) (by omega)).mp hbq
        have hl : lv_has ls 5 [(0, .ref (xa 0)), (1, .ref (qad qi)), (2, .ref (tad b)), (3, .int (nI i))] := hl
        refine lv_iload_n hx hb d_X_firstOf_4 rfl (zl hl rfl) ?_
        refine lv_aload_n hx hb d_X_firstOf_5 rfl (zl hl rfl) ?_
        refine z_get (C := R_X) (T := F_X) (N := 5) (v := .ref (xa 3)) hx hb hts inT_X hown hK hP (PX_x hX) rfl 2 (by decide) tw_135 (fun _ h => h) rfl d_X_firstOf_6 ?_
        refine z_calli (va_runV (As := []) (rest := [.int (nI i)]) ⟨hx, hb, hml, hown, hts⟩ (c_A_size l hP (PX_l hX)) (cwV 0 hts (tt_V tw_160 tw_157 tw_158 tw_159 tw_33) rfl rfl rfl (by decide +kernel) ⟨Nat.le_of_ble_eq_true rfl, Nat.le_of_ble_eq_true rfl⟩) (zPc_V hKN hP (ci := 5) (q := (R_A, F_A, 3)) rfl (PX_l hX)) rfl rfl hl.1 rfl (lv_room (Nat.le_of_ble_eq_true rfl)) d_X_firstOf_9 ⟨Nat.zero_le _, Nat.zero_le _⟩) hS (fun locs hS => ?_)
        refine lv_icmp_ge (tgt := 75) hx hb d_X_firstOf_12 (by decide) (fun c_1 => ?_) (fun c_1 => ?_)
        · have hin := z_ge hi (by omega) c_1
          refine lv_aload_n hx hb d_X_firstOf_75 rfl (zl hl rfl) ?_
          exact z_qret (v := some (tad b)) hx hb hr (Or.inl ⟨_, rfl⟩) hlocks hS (by subst hin; rw [hbe]; rfl) d_X_firstOf_76
        · have hlt := z_lt hi (by omega) c_1
          refine lv_aload_n hx hb d_X_firstOf_15 rfl (zl hl rfl) ?_
          refine z_get (C := R_X) (T := F_X) (N := 5) (v := .ref (xa 3)) hx hb hts inT_X hown hK hP (PX_x hX) rfl 2 (by decide) tw_135 (fun _ h => h) rfl d_X_firstOf_16 ?_
          refine lv_iload_n hx hb d_X_firstOf_19 rfl (zl hl rfl) ?_
          have he := PX_e hX (i := i) (by omega)
          refine z_callq (va_runV (As := [.int (nI i)]) (rest := []) ⟨hx, hb, hml, hown, hts⟩ (c_A_get l hP (PX_l hX) he.1 i (by omega) (by omega) (PX_tr hX (by omega)) (by omega) (by omega)) (cwV 1 hts (tt_V tw_164 tw_161 tw_162 tw_163 tw_33) rfl rfl rfl (by decide +kernel) ⟨Nat.le_of_ble_eq_true rfl, Nat.le_of_ble_eq_true rfl⟩) (zPc_V hKN hP (ci := 5) (q := (R_A, F_A, 3)) rfl (PX_l hX)) rfl rfl hl.1 rfl (lv_room (Nat.le_of_ble_eq_true rfl)) d_X_firstOf_20 ⟨Nat.zero_le _, Nat.zero_le _⟩) hS (fun locs hS => ?_)
          refine z_cast (ci := 2) (q := (R_T, F_T, 12)) hx hb hts hown tw_175 hK hP (PX_t hX (k := i) (by omega)) rfl d_X_firstOf_23 ?_
          refine lv_astore (lv' := [(4, .ref (tad i)), (0, .ref (xa 0)), (1, .ref (qad qi)), (2, .ref (tad b)), (3, .int (nI i))]) hx hb d_X_firstOf_26 hl (by decide) rfl (fun ls hl => ?_)
          refine lv_aload hx hb d_X_firstOf_28 (zl hl rfl) ?_
          refine z_get (C := R_T) (T := F_T) (N := 12) (v := .ref (qad (qx f i))) hx hb hts inT_T hown hK hP (PX_t hX (k := i) (by omega)) rfl 1 (by decide) tw_400 (fun _ h => h) rfl d_X_firstOf_30 ?_
          refine lv_aload_n hx hb d_X_firstOf_33 rfl (zl hl rfl) ?_
          refine lv_acmp_ne (tgt := 69) (rx := (some (qad (qx f i)))) (ry := (some (qad qi))) hx hb d_X_firstOf_34 (by decide) (fun c_2 => ?_) (fun c_2 => ?_)
          · have b0 : ¬ f 1 i = nI qi := fun z => c_2 (by rw [(PX_okq hX i hlt).1] at z; rw [(nI_eq (by have := (PX_okq hX i hlt).2; omega) (by omega)).mp z])
            refine lv_iinc (v := (nI (i + 1))) (lv' := [(3, .int (nI (i + 1))), (4, .ref (tad i)), (0, .ref (xa 0)), (1, .ref (qad qi)), (2, .ref (tad b))]) hx hb d_X_firstOf_69 hl (k := 4) rfl (nI_1 i) (by decide) rfl (fun ls hl => ?_)
            refine lv_goto (tgt := 4) hx hb d_X_firstOf_72 (by decide) ?_
            have hst : fst f time n (nI qi) (i + 1) = (some b) := by
              show fStep f time n (nI qi) (fst f time n (nI qi) i) i = (some b)
              rw [hbe]
              simp [fStep, *]
            exact ih (i + 1) (some b) ls locs (by omega) (by omega) hst (lv_sub hl [2, 3, 4, 0] rfl) hS
          · have b1 : qx f i = qi := PX_qi hX _ _ (PX_okq hX i hlt).2 hqi (Option.some.inj c_2)
            have b0 : f 1 i = nI qi := by rw [(PX_okq hX i hlt).1, b1]
            refine lv_aload hx hb d_X_firstOf_37 (zl hl rfl) ?_
            refine lv_aload_n hx hb d_X_firstOf_39 rfl (zl hl rfl) ?_
            refine z_get (C := R_X) (T := F_X) (N := 5) (v := .int time) hx hb hts inT_X hown hK hP (PX_x hX) rfl 3 (by decide) tw_136 (fun _ h => h) rfl d_X_firstOf_40 ?_
            refine z_calli (va_runV (As := [.int time]) (rest := []) ⟨hx, hb, hml, hown, hts⟩ (c_T_mayBeHad l hP (PX_t hX (k := i) (by omega)) (PX_tg hX (k := i) (by omega)) time) (cwV 1 hts (tt_V tw_246 tw_243 tw_244 tw_245 tw_44) rfl rfl rfl (by decide +kernel) ⟨Nat.le_of_ble_eq_true rfl, Nat.le_of_ble_eq_true rfl⟩) (zPc_V hKN hP (ci := 2) (q := (R_T, F_T, 12)) rfl (PX_t hX (k := i) (by omega))) rfl rfl hl.1 rfl (lv_room (Nat.le_of_ble_eq_true rfl)) d_X_firstOf_43 ⟨Nat.zero_le _, Nat.zero_le _⟩) hS (fun locs hS => ?_)
            rw [had_eq hX (by omega)]
            refine lv_if_eq (tgt := 69) hx hb d_X_firstOf_46 (by decide) (fun c_3 => ?_) (fun c_3 => ?_)
            · have b2 := zb_f c_3
              refine lv_iinc (v := (nI (i + 1))) (lv' := [(3, .int (nI (i + 1))), (4, .ref (tad i)), (0, .ref (xa 0)), (1, .ref (qad qi)), (2, .ref (tad b))]) hx hb d_X_firstOf_69 hl (k := 4) rfl (nI_1 i) (by decide) rfl (fun ls hl => ?_)
              refine lv_goto (tgt := 4) hx hb d_X_firstOf_72 (by decide) ?_
              have hst : fst f time n (nI qi) (i + 1) = (some b) := by
                show fStep f time n (nI qi) (fst f time n (nI qi) i) i = (some b)
                rw [hbe]
                simp [fStep, *]
              exact ih (i + 1) (some b) ls locs (by omega) (by omega) hst (lv_sub hl [2, 3, 4, 0] rfl) hS
            · have b2 := zb_t c_3
              refine lv_aload_n hx hb d_X_firstOf_49 rfl (zl hl rfl) ?_
              refine lv_ifnull hx hb d_X_firstOf_50 ?_
              refine lv_aload hx hb d_X_firstOf_53 (zl hl rfl) ?_
              refine lv_aload_n hx hb d_X_firstOf_55 rfl (zl hl rfl) ?_
              refine lv_aload_n hx hb d_X_firstOf_56 rfl (zl hl rfl) ?_
              refine z_get (C := R_X) (T := F_X) (N := 5) (v := .int time) hx hb hts inT_X hown hK hP (PX_x hX) rfl 3 (by decide) tw_136 (fun _ h => h) rfl d_X_firstOf_57 ?_
              refine z_calli (va_runV (As := [.ref (tad b), .int time]) (rest := []) ⟨hx, hb, hml, hown, hts⟩ (c_T_goesBefore l hP (PX_tq hX (k := i) (by omega) b1) (PX_q hX hqi) (PX_tq hX (k := b) (by omega) hqb) time) (cwV 2 hts (tt_V tw_254 tw_251 tw_252 tw_253 tw_44) rfl rfl rfl (by decide +kernel) ⟨Nat.le_of_ble_eq_true rfl, Nat.le_of_ble_eq_true rfl⟩) (zPc_V hKN hP (ci := 2) (q := (R_T, F_T, 12)) rfl (PX_t hX (k := i) (by omega))) rfl rfl hl.1 rfl (lv_room (Nat.le_of_ble_eq_true rfl)) d_X_firstOf_60 ⟨Nat.zero_le _, Nat.zero_le _⟩) hS (fun locs hS => ?_)
              rw [better_eq hX (by omega) hbi b1 hqb b2 hbh]
              refine lv_if_eq (tgt := 69) hx hb d_X_firstOf_63 (by decide) (fun c_4 => ?_) (fun c_4 => ?_)
              · have b3 := zb_f c_4
                refine lv_iinc (v := (nI (i + 1))) (lv' := [(3, .int (nI (i + 1))), (4, .ref (tad i)), (0, .ref (xa 0)), (1, .ref (qad qi)), (2, .ref (tad b))]) hx hb d_X_firstOf_69 hl (k := 4) rfl (nI_1 i) (by decide) rfl (fun ls hl => ?_)
                refine lv_goto (tgt := 4) hx hb d_X_firstOf_72 (by decide) ?_
                have hst : fst f time n (nI qi) (i + 1) = (some b) := by
                  show fStep f time n (nI qi) (fst f time n (nI qi) i) i = (some b)
                  rw [hbe]
                  simp [fStep, *]
                exact ih (i + 1) (some b) ls locs (by omega) (by omega) hst (lv_sub hl [2, 3, 4, 0] rfl) hS
              · have b3 := zb_t c_4
                refine lv_aload hx hb d_X_firstOf_66 (zl hl rfl) ?_
                refine lv_astore_n (lv' := [(2, .ref (tad i)), (4, .ref (tad i)), (0, .ref (xa 0)), (1, .ref (qad qi)), (3, .int (nI i))]) hx hb d_X_firstOf_68 rfl hl (by decide) rfl (fun ls hl => ?_)
                refine lv_iinc (v := (nI (i + 1))) (lv' := [(3, .int (nI (i + 1))), (2, .ref (tad i)), (4, .ref (tad i)), (0, .ref (xa 0)), (1, .ref (qad qi))]) hx hb d_X_firstOf_69 hl (k := 4) rfl (nI_1 i) (by decide) rfl (fun ls hl => ?_)
                refine lv_goto (tgt := 4) hx hb d_X_firstOf_72 (by decide) ?_
                have hst : fst f time n (nI qi) (i + 1) = (some i) := by
                  show fStep f time n (nI qi) (fst f time n (nI qi) i) i = (some i)
                  rw [hbe]
                  simp [fStep, *]
                exact ih (i + 1) (some i) ls locs (by omega) (by omega) hst (lv_sub hl [3, 4, 1, 0] rfl) hS
  have hl : lv_has ls 5 [(0, .ref (xa 0)), (1, .ref (qad qi))] := hl
  refine lv_null hx hb d_X_firstOf_0 ?_
  refine lv_astore_nN (lv' := [(2, .null), (0, .ref (xa 0)), (1, .ref (qad qi))]) hx hb d_X_firstOf_1 rfl hl (by decide) rfl (fun ls hl => ?_)
  refine lv_iconst (v := 0) hx hb d_X_firstOf_2 (by decide) ?_
  refine lv_istore_n (lv' := [(3, .int 0), (2, .null), (0, .ref (xa 0)), (1, .ref (qad qi))]) hx hb d_X_firstOf_3 rfl hl (by decide) rfl (fun ls hl => ?_)
  exact key (n + 1) 0 none ls [] (Nat.zero_le _) (by omega) rfl (lv_sub hl [2, 3, 1, 0] rfl) hS
set_option maxHeartbeats 4000000 in
set_option maxRecDepth 100000 in
theorem c_X_first (l : Launch) {D : va_G} {ws : va_W} {H : Heap} (hP : va_P D vwCl ws H) {kk : Nat → ClassId} {xa qad gad tad : Nat → Nat} {e0 : Nat} {time tok : Int32} {n : Nat} {f : FF} {ky : Nat → Int64} {h : FF} {qar gar arr : Nat → Option Nat} {ea cap : Nat} {md : Int32} (hX : PX kk xa qad gad tad e0 time tok n f ky h qar gar arr ea cap md ws) (v : Int32) : Met l y_X_first (Cond.code y_X_first b_X_first 4 (some .int) :: TT) ({ frames := 5, cells := 0, slots := 0, locals := 200 }) (zPc [.ref (xa 0), .int v] H D vwCl (TY kk)) (zQi (mFirst f time n v) H) 0 0 (fun _ => False) := by
  refine z_body (by decide) (Nat.le_of_ble_eq_true rfl) ?_
  intro p e s m below meth c ls C0 hH hKN hl
  obtain ⟨hx, hb, hr, hts, hown, hlocks, hml⟩ := C0
  subst hH
  have hK := hKN.1
  have hN := hKN.2
  have hS : va_S (fun _ => False) s.heap s.heap [] := va_S.rf
  have hn := PX_n hX
  have hl : lv_has ls 4 [(0, .ref (xa 0)), (1, .int v)] := hl
  refine lv_aload_n hx hb d_X_first_0 rfl (zl hl rfl) ?_
  refine lv_iload_n hx hb d_X_first_1 rfl (zl hl rfl) ?_
  by_cases bq_1 : sWithin v 0 3 = true
  · obtain ⟨x_2, hx_3, rfl⟩ := sWithin_nI (h := 3) (by decide) bq_1
    have ht_4 : tx (nI x_2) = x_2 := tx_nI (by omega)
    have hr_5 : qRef qad (nI x_2) = some (qad x_2) := by rw [qRef, if_pos bq_1, ht_4]
    refine z_callq (va_runV (As := [.int (nI x_2)]) (rest := []) ⟨hx, hb, hml, hown, hts⟩ (c_X_queueAt l hP hX (nI x_2)) (cwV 1 hts (tt_V tw_226 tw_223 tw_225 tw_5 tw_30) rfl rfl rfl (by decide +kernel) ⟨Nat.le_of_ble_eq_true rfl, Nat.le_of_ble_eq_true rfl⟩) (zPc_V hKN hP (ci := 3) (q := (R_X, F_X, 5)) rfl (PX_x hX)) rfl rfl hl.1 rfl (lv_room (Nat.le_of_ble_eq_true rfl)) d_X_first_2 ⟨Nat.zero_le _, Nat.zero_le _⟩) hS (fun locs hS => ?_)
    rw [hr_5]
    refine lv_astore_n (lv' := [(2, .ref (qad x_2)), (0, .ref (xa 0)), (1, .int (nI x_2))]) hx hb d_X_first_5 rfl hl (by decide) rfl (fun ls hl => ?_)
    refine lv_aload_n hx hb d_X_first_6 rfl (zl hl rfl) ?_
    refine lv_ifnonnull (tgt := 14) hx hb d_X_first_7 (by decide) ?_
    refine lv_aload_n hx hb d_X_first_14 rfl (zl hl rfl) ?_
    refine lv_aload_n hx hb d_X_first_15 rfl (zl hl rfl) ?_
    refine z_callq (va_runV (As := [.ref (qad x_2)]) (rest := []) ⟨hx, hb, hml, hown, hts⟩ (c_X_firstOf l hP hX x_2 (by omega)) (cwV 1 hts (tt_V tw_242 tw_239 tw_241 tw_6 tw_30) rfl rfl rfl (by decide +kernel) ⟨Nat.le_of_ble_eq_true rfl, Nat.le_of_ble_eq_true rfl⟩) (zPc_V hKN hP (ci := 3) (q := (R_X, F_X, 5)) rfl (PX_x hX)) rfl rfl hl.1 rfl (lv_room (Nat.le_of_ble_eq_true rfl)) d_X_first_16 ⟨Nat.zero_le _, Nat.zero_le _⟩) hS (fun locs hS => ?_)
    rcases ho : fst f time n (nI x_2) n with _ | t
    · have hm1 : True := trivial
      refine lv_astore_nN (lv' := [(3, .null), (2, .ref (qad x_2)), (0, .ref (xa 0)), (1, .int (nI x_2))]) hx hb d_X_first_19 rfl hl (by decide) rfl (fun ls hl => ?_)
      refine lv_aload_nN hx hb d_X_first_20 rfl (zl hl rfl) ?_
      refine lv_ifnonnullN hx hb d_X_first_21 ?_
      refine lv_iconst (v := (-1)) hx hb d_X_first_24 (by decide) ?_
      refine lv_goto (tgt := 32) hx hb d_X_first_25 (by decide) ?_
      exact z_iret hx hb hr hlocks hS (by simp [mFirst, oI, *]) d_X_first_32
    · have hto := fst_lt ho
      refine lv_astore_n (lv' := [(3, .ref (tad t)), (2, .ref (qad x_2)), (0, .ref (xa 0)), (1, .int (nI x_2))]) hx hb d_X_first_19 rfl hl (by decide) rfl (fun ls hl => ?_)
      refine lv_aload_n hx hb d_X_first_20 rfl (zl hl rfl) ?_
      refine lv_ifnonnull (tgt := 28) hx hb d_X_first_21 (by decide) ?_
      refine lv_aload_n hx hb d_X_first_28 rfl (zl hl rfl) ?_
      refine z_get (C := R_T) (T := F_T) (N := 12) (v := .int (nI t)) hx hb hts inT_T hown hK hP (PX_t hX (k := t) (by omega)) rfl 0 (by decide) tw_398 (fun _ h => h) rfl d_X_first_29 ?_
      exact z_iret hx hb hr hlocks hS (by simp [mFirst, oI, *]) d_X_first_32
  · have bq_1 : sWithin v 0 3 = false := by simpa using bq_1
    have hr_5 : qRef qad v = none := by rw [qRef, if_neg (by rw [bq_1]; decide)]
    refine z_callq (va_runV (As := [.int v]) (rest := []) ⟨hx, hb, hml, hown, hts⟩ (c_X_queueAt l hP hX v) (cwV 1 hts (tt_V tw_226 tw_223 tw_225 tw_5 tw_30) rfl rfl rfl (by decide +kernel) ⟨Nat.le_of_ble_eq_true rfl, Nat.le_of_ble_eq_true rfl⟩) (zPc_V hKN hP (ci := 3) (q := (R_X, F_X, 5)) rfl (PX_x hX)) rfl rfl hl.1 rfl (lv_room (Nat.le_of_ble_eq_true rfl)) d_X_first_2 ⟨Nat.zero_le _, Nat.zero_le _⟩) hS (fun locs hS => ?_)
    rw [hr_5]
    refine lv_astore_nN (lv' := [(2, .null), (0, .ref (xa 0)), (1, .int v)]) hx hb d_X_first_5 rfl hl (by decide) rfl (fun ls hl => ?_)
    refine lv_aload_nN hx hb d_X_first_6 rfl (zl hl rfl) ?_
    refine lv_ifnonnullN hx hb d_X_first_7 ?_
    refine lv_null hx hb d_X_first_10 ?_
    refine lv_goto (tgt := 19) hx hb d_X_first_11 (by decide) ?_
    refine lv_astore_nN (lv' := [(3, .null), (2, .null), (0, .ref (xa 0)), (1, .int v)]) hx hb d_X_first_19 rfl hl (by decide) rfl (fun ls hl => ?_)
    refine lv_aload_nN hx hb d_X_first_20 rfl (zl hl rfl) ?_
    refine lv_ifnonnullN hx hb d_X_first_21 ?_
    refine lv_iconst (v := (-1)) hx hb d_X_first_24 (by decide) ?_
    refine lv_goto (tgt := 32) hx hb d_X_first_25 (by decide) ?_
    exact z_iret hx hb hr hlocks hS (by simp [mFirst, oI, *]) d_X_first_32
set_option maxHeartbeats 4000000 in
set_option maxRecDepth 100000 in
theorem c_X_next (l : Launch) {D : va_G} {ws : va_W} {H : Heap} (hP : va_P D vwCl ws H) {kk : Nat → ClassId} {xa qad gad tad : Nat → Nat} {e0 : Nat} {time tok : Int32} {n : Nat} {f : FF} {ky : Nat → Int64} {h : FF} {qar gar arr : Nat → Option Nat} {ea cap : Nat} {md : Int32} (hX : PX kk xa qad gad tad e0 time tok n f ky h qar gar arr ea cap md ws) (ht0 : ¬ time < -1) : Met l y_X_next (Cond.code y_X_next b_X_next 4 (some .int) :: TT) ({ frames := 4, cells := 0, slots := 0, locals := 160 }) (zPc [.ref (xa 0)] H D vwCl (TY kk)) (zQi (nxs f time n) H) 0 0 (fun _ => False) := by
  refine z_body (by decide) (Nat.le_of_ble_eq_true rfl) ?_
  intro p e s m below meth c ls C0 hH hKN hl
  obtain ⟨hx, hb, hr, hts, hown, hlocks, hml⟩ := C0
  subst hH
  have hK := hKN.1
  have hN := hKN.2
  have hS : va_S (fun _ => False) s.heap s.heap [] := va_S.rf
  have hn := PX_n hX
  have key : ∀ (r i : Nat) (ls : Array Slot) (locs : List Loc), i ≤ n → n + 1 ≤ i + r → lv_has ls 4 [(0, .ref (xa 0)), (1, .int (nxs f time i)), (2, .int (nI i))] → va_S (fun _ => False) s.heap s.heap locs → W p l e ({ frames := 4, cells := 0, slots := 0, locals := 160 }) s m ([.ref (xa 0)] : List Value).toArray below meth c s.heap locs 0 0 (MQ below (zQi (nxs f time n) s.heap) ([.ref (xa 0)] : List Value).toArray s 0 0 (fun _ => False)) (F0 m 4 ls []) := by
    intro r
    induction r with
    | zero => intro i ls locs h1 h2; omega
    | succ r ih =>
      intro i ls locs hi hir hl hS
      refine lv_iload_n hx hb d_X_next_4 rfl (zl hl rfl) ?_
      refine lv_aload_n hx hb d_X_next_5 rfl (zl hl rfl) ?_
      refine z_get (C := R_X) (T := F_X) (N := 5) (v := .ref (xa 3)) hx hb hts inT_X hown hK hP (PX_x hX) rfl 2 (by decide) tw_135 (fun _ h => h) rfl d_X_next_6 ?_
      refine z_calli (va_runV (As := []) (rest := [.int (nI i)]) ⟨hx, hb, hml, hown, hts⟩ (c_A_size l hP (PX_l hX)) (cwV 0 hts (tt_V tw_160 tw_157 tw_158 tw_159 tw_33) rfl rfl rfl (by decide +kernel) ⟨Nat.le_of_ble_eq_true rfl, Nat.le_of_ble_eq_true rfl⟩) (zPc_V hKN hP (ci := 5) (q := (R_A, F_A, 3)) rfl (PX_l hX)) rfl rfl hl.1 rfl (lv_room (Nat.le_of_ble_eq_true rfl)) d_X_next_9 ⟨Nat.zero_le _, Nat.zero_le _⟩) hS (fun locs hS => ?_)
      refine lv_icmp_ge (tgt := 56) hx hb d_X_next_12 (by decide) (fun c_1 => ?_) (fun c_1 => ?_)
      · have hin := z_ge hi (by omega) c_1
        refine lv_iload_n hx hb d_X_next_56 rfl (zl hl rfl) ?_
        exact z_iret hx hb hr hlocks hS (by rw [hin]) d_X_next_57
      · have hlt := z_lt hi (by omega) c_1
        refine lv_aload_n hx hb d_X_next_15 rfl (zl hl rfl) ?_
        refine z_get (C := R_X) (T := F_X) (N := 5) (v := .ref (xa 3)) hx hb hts inT_X hown hK hP (PX_x hX) rfl 2 (by decide) tw_135 (fun _ h => h) rfl d_X_next_16 ?_
        refine lv_iload_n hx hb d_X_next_19 rfl (zl hl rfl) ?_
        have he := PX_e hX (i := i) (by omega)
        refine z_callq (va_runV (As := [.int (nI i)]) (rest := []) ⟨hx, hb, hml, hown, hts⟩ (c_A_get l hP (PX_l hX) he.1 i (by omega) (by omega) (PX_tr hX (by omega)) (by omega) (by omega)) (cwV 1 hts (tt_V tw_164 tw_161 tw_162 tw_163 tw_33) rfl rfl rfl (by decide +kernel) ⟨Nat.le_of_ble_eq_true rfl, Nat.le_of_ble_eq_true rfl⟩) (zPc_V hKN hP (ci := 5) (q := (R_A, F_A, 3)) rfl (PX_l hX)) rfl rfl hl.1 rfl (lv_room (Nat.le_of_ble_eq_true rfl)) d_X_next_20 ⟨Nat.zero_le _, Nat.zero_le _⟩) hS (fun locs hS => ?_)
        refine z_cast (ci := 2) (q := (R_T, F_T, 12)) hx hb hts hown tw_175 hK hP (PX_t hX (k := i) (by omega)) rfl d_X_next_23 ?_
        refine z_calli (va_runV (As := []) (rest := []) ⟨hx, hb, hml, hown, hts⟩ (c_T_comesAt l hP (PX_t hX (k := i) (by omega))) (cwV 0 hts (tt_V tw_269 tw_266 tw_267 tw_268 tw_44) rfl rfl rfl (by decide +kernel) ⟨Nat.le_of_ble_eq_true rfl, Nat.le_of_ble_eq_true rfl⟩) (zPc_V hKN hP (ci := 2) (q := (R_T, F_T, 12)) rfl (PX_t hX (k := i) (by omega))) rfl rfl hl.1 rfl (lv_room (Nat.le_of_ble_eq_true rfl)) d_X_next_26 ⟨Nat.zero_le _, Nat.zero_le _⟩) hS (fun locs hS => ?_)
        rcases comes_eq (PX_rel hX) hlt with ⟨hv1, hv2⟩ | ⟨hv1, hv2⟩
        · rw [hv2]
          refine lv_istore_n (lv' := [(3, .int (f 7 i)), (0, .ref (xa 0)), (1, .int (nxs f time i)), (2, .int (nI i))]) hx hb d_X_next_29 rfl hl (by decide) rfl (fun ls hl => ?_)
          refine lv_iload_n hx hb d_X_next_30 rfl (zl hl rfl) ?_
          refine lv_aload_n hx hb d_X_next_31 rfl (zl hl rfl) ?_
          refine z_get (C := R_X) (T := F_X) (N := 5) (v := .int time) hx hb hts inT_X hown hK hP (PX_x hX) rfl 3 (by decide) tw_136 (fun _ h => h) rfl d_X_next_32 ?_
          refine lv_icmp_le (tgt := 50) hx hb d_X_next_35 (by decide) (fun c_2 => ?_) (fun c_2 => ?_)
          · have b2 := zle_nlt c_2
            refine lv_iinc (v := (nI (i + 1))) (lv' := [(2, .int (nI (i + 1))), (3, .int (f 7 i)), (0, .ref (xa 0)), (1, .int (nxs f time i))]) hx hb d_X_next_50 hl (k := 3) rfl (nI_1 i) (by decide) rfl (fun ls hl => ?_)
            refine lv_goto (tgt := 4) hx hb d_X_next_53 (by decide) ?_
            have hst : nxs f time i = nxs f time (i + 1) := by
              show _ = if _ then _ else _
              clear hv2
              simp [*]
            rw [hst] at hl
            exact ih (i + 1) ls locs (by omega) (by omega) (lv_sub hl [2, 3, 0] rfl) hS
          · have b2 := znle_lt c_2
            refine lv_iload_n hx hb d_X_next_38 rfl (zl hl rfl) ?_
            refine lv_iconst (v := (-1)) hx hb d_X_next_39 (by decide) ?_
            refine lv_icmp_eq (tgt := 48) hx hb d_X_next_40 (by decide) (fun c_3 => ?_) (fun c_3 => ?_)
            · refine lv_iload_n hx hb d_X_next_48 rfl (zl hl rfl) ?_
              refine lv_istore_n (lv' := [(1, .int (f 7 i)), (3, .int (f 7 i)), (0, .ref (xa 0)), (2, .int (nI i))]) hx hb d_X_next_49 rfl hl (by decide) rfl (fun ls hl => ?_)
              refine lv_iinc (v := (nI (i + 1))) (lv' := [(2, .int (nI (i + 1))), (1, .int (f 7 i)), (3, .int (f 7 i)), (0, .ref (xa 0))]) hx hb d_X_next_50 hl (k := 3) rfl (nI_1 i) (by decide) rfl (fun ls hl => ?_)
              refine lv_goto (tgt := 4) hx hb d_X_next_53 (by decide) ?_
              have hst : f 7 i = nxs f time (i + 1) := by
                show _ = if _ then _ else _
                clear hv2
                simp [*]
              rw [hst] at hl
              exact ih (i + 1) ls locs (by omega) (by omega) (lv_sub hl [3, 1, 0] rfl) hS
            · refine lv_iload_n hx hb d_X_next_43 rfl (zl hl rfl) ?_
              refine lv_iload_n hx hb d_X_next_44 rfl (zl hl rfl) ?_
              refine lv_icmp_ge (tgt := 50) hx hb d_X_next_45 (by decide) (fun c_4 => ?_) (fun c_4 => ?_)
              · have b4 := zle_nlt c_4
                refine lv_iinc (v := (nI (i + 1))) (lv' := [(2, .int (nI (i + 1))), (3, .int (f 7 i)), (0, .ref (xa 0)), (1, .int (nxs f time i))]) hx hb d_X_next_50 hl (k := 3) rfl (nI_1 i) (by decide) rfl (fun ls hl => ?_)
                refine lv_goto (tgt := 4) hx hb d_X_next_53 (by decide) ?_
                have hst : nxs f time i = nxs f time (i + 1) := by
                  show _ = if _ then _ else _
                  clear hv2
                  simp [*]
                rw [hst] at hl
                exact ih (i + 1) ls locs (by omega) (by omega) (lv_sub hl [2, 3, 0] rfl) hS
              · have b4 := znle_lt c_4
                refine lv_iload_n hx hb d_X_next_48 rfl (zl hl rfl) ?_
                refine lv_istore_n (lv' := [(1, .int (f 7 i)), (3, .int (f 7 i)), (0, .ref (xa 0)), (2, .int (nI i))]) hx hb d_X_next_49 rfl hl (by decide) rfl (fun ls hl => ?_)
                refine lv_iinc (v := (nI (i + 1))) (lv' := [(2, .int (nI (i + 1))), (1, .int (f 7 i)), (3, .int (f 7 i)), (0, .ref (xa 0))]) hx hb d_X_next_50 hl (k := 3) rfl (nI_1 i) (by decide) rfl (fun ls hl => ?_)
                refine lv_goto (tgt := 4) hx hb d_X_next_53 (by decide) ?_
                have hst : f 7 i = nxs f time (i + 1) := by
                  show _ = if _ then _ else _
                  clear hv2
                  simp [*]
                rw [hst] at hl
                exact ih (i + 1) ls locs (by omega) (by omega) (lv_sub hl [3, 1, 0] rfl) hS
        · rw [hv2]
          refine lv_istore_n (lv' := [(3, .int (-1)), (0, .ref (xa 0)), (1, .int (nxs f time i)), (2, .int (nI i))]) hx hb d_X_next_29 rfl hl (by decide) rfl (fun ls hl => ?_)
          refine lv_iload_n hx hb d_X_next_30 rfl (zl hl rfl) ?_
          refine lv_aload_n hx hb d_X_next_31 rfl (zl hl rfl) ?_
          refine z_get (C := R_X) (T := F_X) (N := 5) (v := .int time) hx hb hts inT_X hown hK hP (PX_x hX) rfl 3 (by decide) tw_136 (fun _ h => h) rfl d_X_next_32 ?_
          refine lv_icmp_le (tgt := 50) hx hb d_X_next_35 (by decide) (fun c_5 => ?_) (fun c_5 => ?_)
          · have b2 := zle_nlt c_5
            refine lv_iinc (v := (nI (i + 1))) (lv' := [(2, .int (nI (i + 1))), (3, .int (-1)), (0, .ref (xa 0)), (1, .int (nxs f time i))]) hx hb d_X_next_50 hl (k := 3) rfl (nI_1 i) (by decide) rfl (fun ls hl => ?_)
            refine lv_goto (tgt := 4) hx hb d_X_next_53 (by decide) ?_
            have hst : nxs f time i = nxs f time (i + 1) := by
              show _ = if _ then _ else _
              clear hv2
              simp [*]
            rw [hst] at hl
            exact ih (i + 1) ls locs (by omega) (by omega) (lv_sub hl [2, 3, 0] rfl) hS
          · exact absurd (znle_lt c_5) ht0
  have hl : lv_has ls 4 [(0, .ref (xa 0))] := hl
  refine lv_iconst (v := (-1)) hx hb d_X_next_0 (by decide) ?_
  refine lv_istore_n (lv' := [(1, .int (-1)), (0, .ref (xa 0))]) hx hb d_X_next_1 rfl hl (by decide) rfl (fun ls hl => ?_)
  refine lv_iconst (v := 0) hx hb d_X_next_2 (by decide) ?_
  refine lv_istore_n (lv' := [(2, .int 0), (1, .int (-1)), (0, .ref (xa 0))]) hx hb d_X_next_3 rfl hl (by decide) rfl (fun ls hl => ?_)
  exact key (n + 1) 0 ls [] (Nat.zero_le _) (by omega) (lv_sub hl [2, 1, 0] rfl) hS
set_option maxHeartbeats 4000000 in
set_option maxRecDepth 100000 in
theorem c_X_countOfOne (l : Launch) {D : va_G} {ws : va_W} {H : Heap} (hP : va_P D vwCl ws H) {kk : Nat → ClassId} {xa qad gad tad : Nat → Nat} {e0 : Nat} {time tok : Int32} {n : Nat} {f : FF} {ky : Nat → Int64} {h : FF} {qar gar arr : Nat → Option Nat} {ea cap : Nat} {md : Int32} (hX : PX kk xa qad gad tad e0 time tok n f ky h qar gar arr ea cap md ws) (v : Int32) (h5 : ∀ k, k < 5 → ¬ v = nI k) : Met l y_X_countOfOne (Cond.code y_X_countOfOne b_X_countOfOne 4 (some .int) :: TT) ({ frames := 5, cells := 0, slots := 0, locals := 200 }) (zPc [.ref (xa 0), .int v] H D vwCl (TY kk)) (zQi (mCount f time n v) H) 0 0 (fun _ => False) := by
  refine z_body (by decide) (Nat.le_of_ble_eq_true rfl) ?_
  intro p e s m below meth c ls C0 hH hKN hl
  obtain ⟨hx, hb, hr, hts, hown, hlocks, hml⟩ := C0
  subst hH
  have hK := hKN.1
  have hN := hKN.2
  have hS : va_S (fun _ => False) s.heap s.heap [] := va_S.rf
  have hn := PX_n hX
  have hl : lv_has ls 4 [(0, .ref (xa 0)), (1, .int v)] := hl
  refine lv_iload_n hx hb d_X_countOfOne_0 rfl (zl hl rfl) ?_
  refine lv_iconst (v := 5) hx hb d_X_countOfOne_1 (by decide) ?_
  refine lv_isub hx hb d_X_countOfOne_2 ?_
  refine z_calli (va_runS (As := [.int (v - 5)]) (rest := []) ⟨hx, hb, hml, hown, hts⟩ (c_X_isWorker l hP (v - 5)) (va_cwS 1 hts (tt_S tw_280 tw_278 tw_279 tw_30) rfl rfl rfl (by decide +kernel) ⟨Nat.le_of_ble_eq_true rfl, Nat.le_of_ble_eq_true rfl⟩) (zPc_S hKN) rfl rfl hl.1 rfl (lv_room (Nat.le_of_ble_eq_true rfl)) d_X_countOfOne_3 ⟨Nat.zero_le _, Nat.zero_le _⟩) hS (fun locs hS => ?_)
  rw [win_sub5]
  refine lv_if_eq (tgt := 17) hx hb d_X_countOfOne_6 (by decide) (fun c_1 => ?_) (fun c_1 => ?_)
  · have b1 := zb_f c_1
    refine lv_aload_n hx hb d_X_countOfOne_17 rfl (zl hl rfl) ?_
    refine lv_iload_n hx hb d_X_countOfOne_18 rfl (zl hl rfl) ?_
    refine lv_bipush (v := 13) hx hb d_X_countOfOne_19 (by decide) ?_
    refine lv_isub hx hb d_X_countOfOne_21 ?_
    by_cases bq_2 : sWithin (v - 13) 0 7 = true
    · obtain ⟨x_3, hx_4, he_6⟩ := sWithin_nI (h := 7) (by decide) bq_2
      have ht_5 : tx (nI x_3) = x_3 := tx_nI (by omega)
      have hr_7 : gRef gad (v - 13) = some (gad x_3) := by rw [he_6, gRef, if_pos (by rw [← he_6]; exact bq_2), ht_5]
      refine z_callq (va_runV (As := [.int (v - 13)]) (rest := []) ⟨hx, hb, hml, hown, hts⟩ (c_X_groupAt l hP hX (v - 13)) (cwV 1 hts (tt_V tw_219 tw_216 tw_218 tw_4 tw_30) rfl rfl rfl (by decide +kernel) ⟨Nat.le_of_ble_eq_true rfl, Nat.le_of_ble_eq_true rfl⟩) (zPc_V hKN hP (ci := 3) (q := (R_X, F_X, 5)) rfl (PX_x hX)) rfl rfl hl.1 rfl (lv_room (Nat.le_of_ble_eq_true rfl)) d_X_countOfOne_22 ⟨Nat.zero_le _, Nat.zero_le _⟩) hS (fun locs hS => ?_)
      rw [hr_7]
      refine lv_astore_n (lv' := [(2, .ref (gad x_3)), (0, .ref (xa 0)), (1, .int v)]) hx hb d_X_countOfOne_25 rfl hl (by decide) rfl (fun ls hl => ?_)
      refine lv_aload_n hx hb d_X_countOfOne_26 rfl (zl hl rfl) ?_
      refine lv_ifnull hx hb d_X_countOfOne_27 ?_
      refine lv_aload_n hx hb d_X_countOfOne_30 rfl (zl hl rfl) ?_
      refine z_get (C := R_G) (T := F_G) (N := 2) (v := .int (nI (cnt (pLent f (nI x_3)) n))) hx hb hts inT_G hown hK hP (PX_g hX (i := x_3) (by omega)) rfl 1 (by decide) tw_127 (fun _ h => h) rfl d_X_countOfOne_31 ?_
      have n0 := h5 0 (by decide)
      have n1 := h5 1 (by decide)
      have n2 := h5 2 (by decide)
      have n3 := h5 3 (by decide)
      have n4 := h5 4 (by decide)
      have w13 := win_sub13 v
      have w21 := win_sub21 v
      exact z_iret hx hb hr hlocks hS (by
        simp only [show nI 0 = 0 from rfl, show nI 1 = 1 from rfl, show nI 2 = 2 from rfl, show nI 3 = 3 from rfl, show nI 4 = 4 from rfl] at n0 n1 n2 n3 n4
        simp_all [mCount]) d_X_countOfOne_34
    · have bq_2 : sWithin (v - 13) 0 7 = false := by simpa using bq_2
      have hr_7 : gRef gad (v - 13) = none := by rw [gRef, if_neg (by rw [bq_2]; decide)]
      refine z_callq (va_runV (As := [.int (v - 13)]) (rest := []) ⟨hx, hb, hml, hown, hts⟩ (c_X_groupAt l hP hX (v - 13)) (cwV 1 hts (tt_V tw_219 tw_216 tw_218 tw_4 tw_30) rfl rfl rfl (by decide +kernel) ⟨Nat.le_of_ble_eq_true rfl, Nat.le_of_ble_eq_true rfl⟩) (zPc_V hKN hP (ci := 3) (q := (R_X, F_X, 5)) rfl (PX_x hX)) rfl rfl hl.1 rfl (lv_room (Nat.le_of_ble_eq_true rfl)) d_X_countOfOne_22 ⟨Nat.zero_le _, Nat.zero_le _⟩) hS (fun locs hS => ?_)
      rw [hr_7]
      refine lv_astore_nN (lv' := [(2, .null), (0, .ref (xa 0)), (1, .int v)]) hx hb d_X_countOfOne_25 rfl hl (by decide) rfl (fun ls hl => ?_)
      refine lv_aload_nN hx hb d_X_countOfOne_26 rfl (zl hl rfl) ?_
      refine lv_ifnullN (tgt := 35) hx hb d_X_countOfOne_27 (by decide) ?_
      refine lv_aload_n hx hb d_X_countOfOne_35 rfl (zl hl rfl) ?_
      refine lv_iload_n hx hb d_X_countOfOne_36 rfl (zl hl rfl) ?_
      refine lv_bipush (v := 21) hx hb d_X_countOfOne_37 (by decide) ?_
      refine lv_isub hx hb d_X_countOfOne_39 ?_
      by_cases bq_8 : sWithin (v - 21) 0 3 = true
      · obtain ⟨x_9, hx_10, he_12⟩ := sWithin_nI (h := 3) (by decide) bq_8
        have ht_11 : tx (nI x_9) = x_9 := tx_nI (by omega)
        have hr_13 : qRef qad (v - 21) = some (qad x_9) := by rw [he_12, qRef, if_pos (by rw [← he_12]; exact bq_8), ht_11]
        refine z_callq (va_runV (As := [.int (v - 21)]) (rest := []) ⟨hx, hb, hml, hown, hts⟩ (c_X_queueAt l hP hX (v - 21)) (cwV 1 hts (tt_V tw_226 tw_223 tw_225 tw_5 tw_30) rfl rfl rfl (by decide +kernel) ⟨Nat.le_of_ble_eq_true rfl, Nat.le_of_ble_eq_true rfl⟩) (zPc_V hKN hP (ci := 3) (q := (R_X, F_X, 5)) rfl (PX_x hX)) rfl rfl hl.1 rfl (lv_room (Nat.le_of_ble_eq_true rfl)) d_X_countOfOne_40 ⟨Nat.zero_le _, Nat.zero_le _⟩) hS (fun locs hS => ?_)
        rw [hr_13]
        refine lv_astore_n (lv' := [(3, .ref (qad x_9)), (2, .null), (0, .ref (xa 0)), (1, .int v)]) hx hb d_X_countOfOne_43 rfl hl (by decide) rfl (fun ls hl => ?_)
        refine lv_aload_n hx hb d_X_countOfOne_44 rfl (zl hl rfl) ?_
        refine lv_ifnonnull (tgt := 52) hx hb d_X_countOfOne_45 (by decide) ?_
        refine lv_aload_n hx hb d_X_countOfOne_52 rfl (zl hl rfl) ?_
        refine lv_aload_n hx hb d_X_countOfOne_53 rfl (zl hl rfl) ?_
        refine z_calli (va_runV (As := [.ref (qad x_9)]) (rest := []) ⟨hx, hb, hml, hown, hts⟩ (c_X_waitingIn l hP hX x_9 (by omega)) (cwV 1 hts (tt_V tw_288 tw_285 tw_287 tw_9 tw_30) rfl rfl rfl (by decide +kernel) ⟨Nat.le_of_ble_eq_true rfl, Nat.le_of_ble_eq_true rfl⟩) (zPc_V hKN hP (ci := 3) (q := (R_X, F_X, 5)) rfl (PX_x hX)) rfl rfl hl.1 rfl (lv_room (Nat.le_of_ble_eq_true rfl)) d_X_countOfOne_54 ⟨Nat.zero_le _, Nat.zero_le _⟩) hS (fun locs hS => ?_)
        have n0 := h5 0 (by decide)
        have n1 := h5 1 (by decide)
        have n2 := h5 2 (by decide)
        have n3 := h5 3 (by decide)
        have n4 := h5 4 (by decide)
        have w13 := win_sub13 v
        have w21 := win_sub21 v
        exact z_iret hx hb hr hlocks hS (by
          simp only [show nI 0 = 0 from rfl, show nI 1 = 1 from rfl, show nI 2 = 2 from rfl, show nI 3 = 3 from rfl, show nI 4 = 4 from rfl] at n0 n1 n2 n3 n4
          simp_all [mCount]) d_X_countOfOne_57
      · have bq_8 : sWithin (v - 21) 0 3 = false := by simpa using bq_8
        have hr_13 : qRef qad (v - 21) = none := by rw [qRef, if_neg (by rw [bq_8]; decide)]
        refine z_callq (va_runV (As := [.int (v - 21)]) (rest := []) ⟨hx, hb, hml, hown, hts⟩ (c_X_queueAt l hP hX (v - 21)) (cwV 1 hts (tt_V tw_226 tw_223 tw_225 tw_5 tw_30) rfl rfl rfl (by decide +kernel) ⟨Nat.le_of_ble_eq_true rfl, Nat.le_of_ble_eq_true rfl⟩) (zPc_V hKN hP (ci := 3) (q := (R_X, F_X, 5)) rfl (PX_x hX)) rfl rfl hl.1 rfl (lv_room (Nat.le_of_ble_eq_true rfl)) d_X_countOfOne_40 ⟨Nat.zero_le _, Nat.zero_le _⟩) hS (fun locs hS => ?_)
        rw [hr_13]
        refine lv_astore_nN (lv' := [(3, .null), (2, .null), (0, .ref (xa 0)), (1, .int v)]) hx hb d_X_countOfOne_43 rfl hl (by decide) rfl (fun ls hl => ?_)
        refine lv_aload_nN hx hb d_X_countOfOne_44 rfl (zl hl rfl) ?_
        refine lv_ifnonnullN hx hb d_X_countOfOne_45 ?_
        refine lv_iconst (v := (-1)) hx hb d_X_countOfOne_48 (by decide) ?_
        refine lv_goto (tgt := 57) hx hb d_X_countOfOne_49 (by decide) ?_
        have n0 := h5 0 (by decide)
        have n1 := h5 1 (by decide)
        have n2 := h5 2 (by decide)
        have n3 := h5 3 (by decide)
        have n4 := h5 4 (by decide)
        have w13 := win_sub13 v
        have w21 := win_sub21 v
        exact z_iret hx hb hr hlocks hS (by
          simp only [show nI 0 = 0 from rfl, show nI 1 = 1 from rfl, show nI 2 = 2 from rfl, show nI 3 = 3 from rfl, show nI 4 = 4 from rfl] at n0 n1 n2 n3 n4
          simp_all [mCount]) d_X_countOfOne_57
  · have b1 := zb_t c_1
    refine lv_aload_n hx hb d_X_countOfOne_9 rfl (zl hl rfl) ?_
    refine lv_iload_n hx hb d_X_countOfOne_10 rfl (zl hl rfl) ?_
    refine lv_iconst (v := 5) hx hb d_X_countOfOne_11 (by decide) ?_
    refine lv_isub hx hb d_X_countOfOne_12 ?_
    refine z_calli (va_runV (As := [.int (v - 5)]) (rest := []) ⟨hx, hb, hml, hown, hts⟩ (c_X_lentTo l hP hX (v - 5)) (cwV 1 hts (tt_V tw_284 tw_281 tw_283 tw_8 tw_30) rfl rfl rfl (by decide +kernel) ⟨Nat.le_of_ble_eq_true rfl, Nat.le_of_ble_eq_true rfl⟩) (zPc_V hKN hP (ci := 3) (q := (R_X, F_X, 5)) rfl (PX_x hX)) rfl rfl hl.1 rfl (lv_room (Nat.le_of_ble_eq_true rfl)) d_X_countOfOne_13 ⟨Nat.zero_le _, Nat.zero_le _⟩) hS (fun locs hS => ?_)
    have n0 := h5 0 (by decide)
    have n1 := h5 1 (by decide)
    have n2 := h5 2 (by decide)
    have n3 := h5 3 (by decide)
    have n4 := h5 4 (by decide)
    have w13 := win_sub13 v
    have w21 := win_sub21 v
    exact z_iret hx hb hr hlocks hS (by
      simp only [show nI 0 = 0 from rfl, show nI 1 = 1 from rfl, show nI 2 = 2 from rfl, show nI 3 = 3 from rfl, show nI 4 = 4 from rfl] at n0 n1 n2 n3 n4
      simp_all [mCount]) d_X_countOfOne_16
set_option maxHeartbeats 4000000 in
set_option maxRecDepth 100000 in
theorem c_X_count (l : Launch) {D : va_G} {ws : va_W} {H : Heap} (hP : va_P D vwCl ws H) {kk : Nat → ClassId} {xa qad gad tad : Nat → Nat} {e0 : Nat} {time tok : Int32} {n : Nat} {f : FF} {ky : Nat → Int64} {h : FF} {qar gar arr : Nat → Option Nat} {ea cap : Nat} {md : Int32} (hX : PX kk xa qad gad tad e0 time tok n f ky h qar gar arr ea cap md ws) (v : Int32) : Met l y_X_count (Cond.code y_X_count b_X_count 2 (some .int) :: TT) ({ frames := 6, cells := 0, slots := 0, locals := 240 }) (zPc [.ref (xa 0), .int v] H D vwCl (TY kk)) (zQi (mCount f time n v) H) 0 0 (fun _ => False) := by
  refine z_body (by decide) (Nat.le_of_ble_eq_true rfl) ?_
  intro p e s m below meth c ls C0 hH hKN hl
  obtain ⟨hx, hb, hr, hts, hown, hlocks, hml⟩ := C0
  subst hH
  have hK := hKN.1
  have hN := hKN.2
  have hS : va_S (fun _ => False) s.heap s.heap [] := va_S.rf
  have hn := PX_n hX
  have hl : lv_has ls 2 [(0, .ref (xa 0)), (1, .int v)] := hl
  refine lv_iload_n hx hb d_X_count_0 rfl (zl hl rfl) ?_
  rcases z_sw v 4 (by decide) with d_1 | ⟨k9, hk9, hkk⟩
  · have n_2 : ¬ v = 0 := fun h => absurd (h ▸ d_1) (by decide)
    have n_3 : ¬ v = 1 := fun h => absurd (h ▸ d_1) (by decide)
    have n_4 : ¬ v = 2 := fun h => absurd (h ▸ d_1) (by decide)
    have n_5 : ¬ v = 3 := fun h => absurd (h ▸ d_1) (by decide)
    have n_6 : ¬ v = 4 := fun h => absurd (h ▸ d_1) (by decide)
    refine lv_tableOut (tgt := 66) hx hb d_X_count_1 d_1 (by decide) ?_
    refine lv_aload_n hx hb d_X_count_66 rfl (zl hl rfl) ?_
    refine lv_iload_n hx hb d_X_count_67 rfl (zl hl rfl) ?_
    have h5 : ∀ k, k < 5 → ¬ v = nI k := by
      intro k hk
      rcases (show k = 0 ∨ k = 1 ∨ k = 2 ∨ k = 3 ∨ k = 4 by omega) with rfl | rfl | rfl | rfl | rfl <;> assumption
    refine z_calli (va_runV (As := [.int v]) (rest := []) ⟨hx, hb, hml, hown, hts⟩ (c_X_countOfOne l hP hX v h5) (cwV 1 hts (tt_V tw_277 tw_274 tw_276 tw_7 tw_30) rfl rfl rfl (by decide +kernel) ⟨Nat.le_of_ble_eq_true rfl, Nat.le_of_ble_eq_true rfl⟩) (zPc_V hKN hP (ci := 3) (q := (R_X, F_X, 5)) rfl (PX_x hX)) rfl rfl hl.1 rfl (lv_room (Nat.le_of_ble_eq_true rfl)) d_X_count_68 ⟨Nat.zero_le _, Nat.zero_le _⟩) hS (fun locs hS => ?_)
    exact z_iret hx hb hr hlocks hS (by first | rfl | simp [mCount, *]) d_X_count_71
  · obtain rfl | rfl | rfl | rfl | rfl : k9 = 0 ∨ k9 = 1 ∨ k9 = 2 ∨ k9 = 3 ∨ k9 = 4 := by omega
    · have e9 : v = 0 := hkk
      clear hkk
      subst e9
      refine lv_tableIn (tgt := 36) hx hb d_X_count_1 (by decide) (by decide) rfl (by decide) ?_
      refine lv_aload_n hx hb d_X_count_36 rfl (zl hl rfl) ?_
      refine z_get (C := R_X) (T := F_X) (N := 5) (v := .int time) hx hb hts inT_X hown hK hP (PX_x hX) rfl 3 (by decide) tw_136 (fun _ h => h) rfl d_X_count_37 ?_
      exact z_iret hx hb hr hlocks hS (by first | rfl | simp [mCount, *]) d_X_count_40
    · have e9 : v = 1 := hkk
      clear hkk
      subst e9
      refine lv_tableIn (tgt := 41) hx hb d_X_count_1 (by decide) (by decide) rfl (by decide) ?_
      refine lv_aload_n hx hb d_X_count_41 rfl (zl hl rfl) ?_
      refine z_get (C := R_X) (T := F_X) (N := 5) (v := .ref (xa 3)) hx hb hts inT_X hown hK hP (PX_x hX) rfl 2 (by decide) tw_135 (fun _ h => h) rfl d_X_count_42 ?_
      refine z_calli (va_runV (As := []) (rest := []) ⟨hx, hb, hml, hown, hts⟩ (c_A_size l hP (PX_l hX)) (cwV 0 hts (tt_V tw_160 tw_157 tw_158 tw_159 tw_33) rfl rfl rfl (by decide +kernel) ⟨Nat.le_of_ble_eq_true rfl, Nat.le_of_ble_eq_true rfl⟩) (zPc_V hKN hP (ci := 5) (q := (R_A, F_A, 3)) rfl (PX_l hX)) rfl rfl hl.1 rfl (lv_room (Nat.le_of_ble_eq_true rfl)) d_X_count_45 ⟨Nat.zero_le _, Nat.zero_le _⟩) hS (fun locs hS => ?_)
      exact z_iret hx hb hr hlocks hS (by first | rfl | simp [mCount, *]) d_X_count_48
    · have e9 : v = 2 := hkk
      clear hkk
      subst e9
      refine lv_tableIn (tgt := 49) hx hb d_X_count_1 (by decide) (by decide) rfl (by decide) ?_
      refine lv_aload_n hx hb d_X_count_49 rfl (zl hl rfl) ?_
      refine z_calli (va_runV (As := []) (rest := []) ⟨hx, hb, hml, hown, hts⟩ (c_X_liveTasks l hP hX) (cwV 0 hts (tt_V tw_202 tw_199 tw_201 tw_2 tw_30) rfl rfl rfl (by decide +kernel) ⟨Nat.le_of_ble_eq_true rfl, Nat.le_of_ble_eq_true rfl⟩) (zPc_V hKN hP (ci := 3) (q := (R_X, F_X, 5)) rfl (PX_x hX)) rfl rfl hl.1 rfl (lv_room (Nat.le_of_ble_eq_true rfl)) d_X_count_50 ⟨Nat.zero_le _, Nat.zero_le _⟩) hS (fun locs hS => ?_)
      exact z_iret hx hb hr hlocks hS (by first | rfl | simp [mCount, *]) d_X_count_53
    · have e9 : v = 3 := hkk
      clear hkk
      subst e9
      refine lv_tableIn (tgt := 54) hx hb d_X_count_1 (by decide) (by decide) rfl (by decide) ?_
      refine lv_aload_n hx hb d_X_count_54 rfl (zl hl rfl) ?_
      refine lv_iconst (v := 1) hx hb d_X_count_55 (by decide) ?_
      refine z_calli (va_runV (As := [.int 1]) (rest := []) ⟨hx, hb, hml, hown, hts⟩ (c_X_tasksThatAre l hP hX 1) (cwV 1 hts (tt_V tw_206 tw_203 tw_205 tw_3 tw_30) rfl rfl rfl (by decide +kernel) ⟨Nat.le_of_ble_eq_true rfl, Nat.le_of_ble_eq_true rfl⟩) (zPc_V hKN hP (ci := 3) (q := (R_X, F_X, 5)) rfl (PX_x hX)) rfl rfl hl.1 rfl (lv_room (Nat.le_of_ble_eq_true rfl)) d_X_count_56 ⟨Nat.zero_le _, Nat.zero_le _⟩) hS (fun locs hS => ?_)
      exact z_iret hx hb hr hlocks hS (by first | rfl | simp [mCount, *]) d_X_count_59
    · have e9 : v = 4 := hkk
      clear hkk
      subst e9
      refine lv_tableIn (tgt := 60) hx hb d_X_count_1 (by decide) (by decide) rfl (by decide) ?_
      refine lv_aload_n hx hb d_X_count_60 rfl (zl hl rfl) ?_
      refine lv_iconst (v := 3) hx hb d_X_count_61 (by decide) ?_
      refine z_calli (va_runV (As := [.int 3]) (rest := []) ⟨hx, hb, hml, hown, hts⟩ (c_X_tasksThatAre l hP hX 3) (cwV 1 hts (tt_V tw_206 tw_203 tw_205 tw_3 tw_30) rfl rfl rfl (by decide +kernel) ⟨Nat.le_of_ble_eq_true rfl, Nat.le_of_ble_eq_true rfl⟩) (zPc_V hKN hP (ci := 3) (q := (R_X, F_X, 5)) rfl (PX_x hX)) rfl rfl hl.1 rfl (lv_room (Nat.le_of_ble_eq_true rfl)) d_X_count_62 ⟨Nat.zero_le _, Nat.zero_le _⟩) hS (fun locs hS => ?_)
      exact z_iret hx hb hr hlocks hS (by first | rfl | simp [mCount, *]) d_X_count_65
