theorem again_rel2 {f f' : FF} {tm : Int32} {t : Nat} (hT : okT f) (hq : qx f t < 4) {tr : Nat} (h5 : f 5 t = nI tr) (h1 : 1 ≤ tr) (h2 : tr < 2 ^ 30) (h7 : f' 7 t = mAgain f tm t 7 t) {u0 u1 u2 u3 u4 : Int32} :
    ((if f 5 t < f 10 (6 * qx f t + 1) then 0 else 3 : Int32) = 0 → (if f 5 t < f 10 (6 * qx f t + 1) then tm + sPause (f 10 (6 * qx f t + 2)) (f 10 (6 * qx f t + 3)) (f 5 t) else u0) = f' 7 t) ∧
    ((if f 5 t < f 10 (6 * qx f t + 1) then 0 else 3 : Int32) = 1 → u1 = f' 7 t ∧ u2 = f' 8 t ∧ u3 = f' 9 t) ∧ ((if f 5 t < f 10 (6 * qx f t + 1) then 0 else 3 : Int32) = 2 → u4 = f' 7 t) := by
  rw [h7]
  by_cases hlt : f 5 t < f 10 (6 * qx f t + 1)
  · rw [if_pos hlt, if_pos hlt, mAgain_x7 hT hq h5 h1 h2 hlt]
    exact ⟨fun _ => rfl, fun z => absurd z (by decide), fun z => absurd z (by decide)⟩
  · rw [if_neg hlt, if_neg hlt]
    exact ⟨fun z => absurd z (by decide), fun z => absurd z (by decide), fun z => absurd z (by decide)⟩
set_option maxHeartbeats 4000000 in
set_option maxRecDepth 100000 in
theorem c_X_tick (l : Launch) {D : va_G} {ws : va_W} {H : Heap} (hP : va_P D vwCl ws H) {kk : Nat → ClassId} {xa qad gad tad : Nat → Nat} {e0 : Nat} {time tok : Int32} {n : Nat} {f : FF} {ky : Nat → Int64} {h : FF} {qar gar arr : Nat → Option Nat} {ea cap : Nat} {md : Int32} (hX : PX kk xa qad gad tad e0 time tok n f ky h qar gar arr ea cap md ws) {B : Nat} (hD : va_D (fun q => B ≤ q) ws) (v : Int32) (hc : sWithin v 1 1000 = true) (tm : Nat) (htime : time = nI tm) (htm : tm < 2 ^ 29) (hE : okE f tm n) (hA : okA f n) (hT : okT f) : Met l y_X_tick (Cond.code y_X_tick b_X_tick 6 (some .int) :: TT) ({ frames := 4, cells := 0, slots := 0, locals := 160 }) (zPc [.ref (xa 0), .int v] H D vwCl (TY kk)) (zR D vwCl B (some (.int (nI (outC f (nI tm) n (tx v))))) (fun ws' => XR kk xa qad gad tad e0 (nI tm + v) tok n (outF f (nI tm) n (tx v)) ky qar gar arr ea cap md ws ws')) 0 0 (fun q => B ≤ q) := by
  refine z_body (by decide) (Nat.le_of_ble_eq_true rfl) ?_
  intro p e s m below meth c ls C0 hH hKN hl
  obtain ⟨hx, hb, hr, hts, hown, hlocks, hml⟩ := C0
  subst hH
  have hK := hKN.1
  have hN := hKN.2
  have hS : va_S (fun q => B ≤ q) s.heap s.heap [] := va_S.rf
  have hn := PX_n hX
  subst htime
  obtain ⟨N, hN1, hN2, rfl⟩ := sWithin_2 (a := 1) (b := 1000) (by decide) (by decide) hc
  have htN : tx (nI N) = N := tx_nI (by omega)
  rw [htN, nI_add tm N]
  obtain ⟨f0, hf0⟩ : ∃ z, z = f := ⟨_, rfl⟩
  rw [← hf0] at hE hA hT ⊢
  obtain ⟨ws0, hws0⟩ : ∃ z, z = ws := ⟨_, rfl⟩
  rw [← hws0]
  have hF : zfrX ws0 ws := by rw [hws0]; exact zfrX_rf
  have key : ∀ (r i : Nat) (f h : FF) (ws : va_W) (H : Heap) (ls : Array Slot) (locs : List Loc), i ≤ n → n + 1 ≤ i + r → f = tkF f0 (nI (tm + N)) i → PX kk xa qad gad tad e0 (nI tm) tok n f ky h qar gar arr ea cap md ws → zfrX ws0 ws → va_P D vwCl ws H → va_D (fun q => B ≤ q) ws → va_S (fun q => B ≤ q) s.heap H locs → lv_has ls 6 [(0, .ref (xa 0)), (1, .int (nI N)), (2, .int (nI (tm + N))), (3, .int (nI (cnt (aC f0 (nI (tm + N))) i))), (4, .int (nI i))] → W p l e ({ frames := 4, cells := 0, slots := 0, locals := 160 }) s m ([.ref (xa 0), .int (nI N)] : List Value).toArray below meth c H locs 0 0 (MQ below (zR D vwCl B (some (.int (nI (outC f0 (nI tm) n N)))) (fun ws' => XR kk xa qad gad tad e0 (nI (tm + N)) tok n (outF f0 (nI tm) n N) ky qar gar arr ea cap md ws0 ws')) ([.ref (xa 0), .int (nI N)] : List Value).toArray s 0 0 (fun q => B ≤ q)) (F0 m 33 ls []) := by
    intro r
    induction r with
    | zero => intro i f h ws H ls locs h1 h2; omega
    | succ r ih =>
      intro i f h ws H ls locs hi hir hf hX hF hP hD hS hl
      have hfi : ∀ c, f c i = f0 c i := fun c => by rw [hf]; exact tkF_ge (Nat.le_refl _)
      have hf10 : f 10 = f0 10 := by rw [hf]; exact tkF_c (by decide) (by decide)
      have hTf : okT f := by unfold okT; rw [hf10]; exact hT
      refine lv_iload hx hb d_X_tick_33 (zl hl rfl) ?_
      refine lv_aload_n hx hb d_X_tick_35 rfl (zl hl rfl) ?_
      refine z_get (C := R_X) (T := F_X) (N := 5) (v := .ref (xa 3)) hx hb hts inT_X hown hK hP (PX_x hX) rfl 2 (by decide) tw_135 (fun _ h => h) rfl d_X_tick_36 ?_
      refine z_calli (va_runV (As := []) (rest := [.int (nI i)]) ⟨hx, hb, hml, hown, hts⟩ (c_A_size l hP (PX_l hX)) (cwV 0 hts (tt_V tw_160 tw_157 tw_158 tw_159 tw_33) rfl rfl rfl (by decide +kernel) ⟨Nat.le_of_ble_eq_true rfl, Nat.le_of_ble_eq_true rfl⟩) (zPc_V hKN hP (ci := 5) (q := (R_A, F_A, 3)) rfl (PX_l hX)) rfl rfl hl.1 rfl (lv_room (Nat.le_of_ble_eq_true rfl)) d_X_tick_39 ⟨Nat.zero_le _, Nat.zero_le _⟩) hS (fun locs hS => ?_)
      refine lv_icmp_ge (tgt := 96) hx hb d_X_tick_42 (by decide) (fun c_1 => ?_) (fun c_1 => ?_)
      · have hin := z_ge hi (by omega) c_1
        refine lv_aload_n hx hb d_X_tick_96 rfl (zl hl rfl) ?_
        refine lv_iload_n hx hb d_X_tick_97 rfl (zl hl rfl) ?_
        have hD0 := hD
        refine z_put (C := R_X) (T := F_X) (N := 5) (v := .int (nI (tm + N))) hx hb hts inT_X ft_X ft_X_ok fn_X hown hK hP hD hS (PX_x hX) rfl 3 (by decide) tw_136 (fun _ h => h) rfl rfl rfl (by simp) d_X_tick_98 (fun ws H locs hP hD hS u => ?_)
        have hF := zfrX_tr hF (zfrX_up hD0 (PX_x hX) rfl u)
        have hX := PX_wx (time' := nI (tm + N)) (tok' := tok) hD0 hX u
        refine lv_iload_n hx hb d_X_tick_101 rfl (zl hl rfl) ?_
        subst hin
        exact z_iretR hx hb hr hlocks hP hD hS (by rw [outC_eq hE htm N hN2]) ⟨⟨h, PX_congr hX (fun c k hk => by rw [hf]; exact tkF_out hE htm hN2 hk) (by rw [outF_10, hf10]) (by rw [outF_c (by decide) (by decide), hf, tkF_c (by decide) (by decide)])⟩, hF⟩ d_X_tick_102
      · have hlt := z_lt hi (by omega) c_1
        refine lv_aload_n hx hb d_X_tick_45 rfl (zl hl rfl) ?_
        refine z_get (C := R_X) (T := F_X) (N := 5) (v := .ref (xa 3)) hx hb hts inT_X hown hK hP (PX_x hX) rfl 2 (by decide) tw_135 (fun _ h => h) rfl d_X_tick_46 ?_
        refine lv_iload hx hb d_X_tick_49 (zl hl rfl) ?_
        have he := PX_e hX (i := i) (by omega)
        refine z_callq (va_runV (As := [.int (nI i)]) (rest := []) ⟨hx, hb, hml, hown, hts⟩ (c_A_get l hP (PX_l hX) he.1 i (by omega) (by omega) (PX_tr hX (by omega)) (by omega) (by omega)) (cwV 1 hts (tt_V tw_164 tw_161 tw_162 tw_163 tw_33) rfl rfl rfl (by decide +kernel) ⟨Nat.le_of_ble_eq_true rfl, Nat.le_of_ble_eq_true rfl⟩) (zPc_V hKN hP (ci := 5) (q := (R_A, F_A, 3)) rfl (PX_l hX)) rfl rfl hl.1 rfl (lv_room (Nat.le_of_ble_eq_true rfl)) d_X_tick_51 ⟨Nat.zero_le _, Nat.zero_le _⟩) hS (fun locs hS => ?_)
        refine z_cast (ci := 2) (q := (R_T, F_T, 12)) hx hb hts hown tw_175 hK hP (PX_t hX (k := i) (by omega)) rfl d_X_tick_54 ?_
        refine lv_astore (lv' := [(5, .ref (tad i)), (0, .ref (xa 0)), (1, .int (nI N)), (2, .int (nI (tm + N))), (3, .int (nI (cnt (aC f0 (nI (tm + N))) i))), (4, .int (nI i))]) hx hb d_X_tick_57 hl (by decide) rfl (fun ls hl => ?_)
        refine lv_aload hx hb d_X_tick_59 (zl hl rfl) ?_
        refine z_get (C := R_T) (T := F_T) (N := 12) (v := .int (f 6 i)) hx hb hts inT_T hown hK hP (PX_t hX (k := i) (by omega)) rfl 5 (by decide) tw_406 (fun _ h => h) rfl d_X_tick_61 ?_
        refine lv_iconst (v := 1) hx hb d_X_tick_64 (by decide) ?_
        refine lv_icmp_ne (tgt := 90) hx hb d_X_tick_65 (by decide) (fun c_2 => ?_) (fun c_2 => ?_)
        · have b1 : ¬ _ := c_2
          refine lv_iinc (v := (nI (i + 1))) (lv' := [(4, .int (nI (i + 1))), (5, .ref (tad i)), (0, .ref (xa 0)), (1, .int (nI N)), (2, .int (nI (tm + N))), (3, .int (nI (cnt (aC f0 (nI (tm + N))) i)))]) hx hb d_X_tick_90 hl (k := 5) rfl (nI_1 i) (by decide) rfl (fun ls hl => ?_)
          refine lv_goto (tgt := 33) hx hb d_X_tick_93 (by decide) ?_
          have hac : aC f0 (nI (tm + N)) i = false := by
            unfold aC
            rw [← hfi 6, ← hfi 7]
            first | (simp [b1]; done) | (rw [← ((PX_rel hX i (by omega)).2.1 b1).1, decide_eq_false b2, Bool.and_false])
          rw [show nI (cnt (aC f0 (nI (tm + N))) i) = nI (cnt (aC f0 (nI (tm + N))) (i + 1)) from cnt_f hac] at hl
          exact ih (i + 1) f h ws H ls locs (by omega) (by omega) (by rw [tkF_f hac]; exact hf) hX hF hP hD hS (lv_sub hl [2, 3, 4, 5, 0] rfl)
        · have b1 := c_2
          refine lv_aload hx hb d_X_tick_68 (zl hl rfl) ?_
          refine z_get (C := R_T) (T := F_T) (N := 12) (v := .int (h 1 i)) hx hb hts inT_T hown hK hP (PX_t hX (k := i) (by omega)) rfl 8 (by decide) tw_412 (fun _ h => h) rfl d_X_tick_70 ?_
          refine lv_iload_n hx hb d_X_tick_73 rfl (zl hl rfl) ?_
          refine lv_icmp_gt (tgt := 90) hx hb d_X_tick_74 (by decide) (fun c_3 => ?_) (fun c_3 => ?_)
          · have b2 := zlt_nle c_3
            refine lv_iinc (v := (nI (i + 1))) (lv' := [(4, .int (nI (i + 1))), (5, .ref (tad i)), (0, .ref (xa 0)), (1, .int (nI N)), (2, .int (nI (tm + N))), (3, .int (nI (cnt (aC f0 (nI (tm + N))) i)))]) hx hb d_X_tick_90 hl (k := 5) rfl (nI_1 i) (by decide) rfl (fun ls hl => ?_)
            refine lv_goto (tgt := 33) hx hb d_X_tick_93 (by decide) ?_
            have hac : aC f0 (nI (tm + N)) i = false := by
              unfold aC
              rw [← hfi 6, ← hfi 7]
              first | (simp [b1]; done) | (rw [← ((PX_rel hX i (by omega)).2.1 b1).1, decide_eq_false b2, Bool.and_false])
            rw [show nI (cnt (aC f0 (nI (tm + N))) i) = nI (cnt (aC f0 (nI (tm + N))) (i + 1)) from cnt_f hac] at hl
            exact ih (i + 1) f h ws H ls locs (by omega) (by omega) (by rw [tkF_f hac]; exact hf) hX hF hP hD hS (lv_sub hl [2, 3, 4, 5, 0] rfl)
          · have b2 := znlt_le c_3
            refine lv_aload hx hb d_X_tick_77 (zl hl rfl) ?_
            refine lv_aload hx hb d_X_tick_79 (zl hl rfl) ?_
            refine z_get (C := R_T) (T := F_T) (N := 12) (v := .int (h 1 i)) hx hb hts inT_T hown hK hP (PX_t hX (k := i) (by omega)) rfl 8 (by decide) tw_412 (fun _ h => h) rfl d_X_tick_81 ?_
            have hac : aC f0 (nI (tm + N)) i = true := by unfold aC; rw [← hfi 6, ← hfi 7, ← (PX_rel hX i (by omega)).2.1 b1 |>.1]; simp [b1, b2]
            obtain ⟨tr, q1, q2, q3⟩ := hA.2 i (by omega) (by rw [← hfi 6]; exact b1)
            rw [← hfi 5] at q3
            have h17 := ((PX_rel hX i (by omega)).2.1 b1).1
            have hD0 := hD
            refine z_call (va_runV (As := [.int (h 1 i)]) (rest := []) ⟨hx, hb, hml, hown, hts⟩ (c_T_tryAgain l hP (PX_t hX (k := i) (by omega)) (PX_tg hX (k := i) (by omega)) hD (PX_q hX (PX_okq hX i (by omega)).2) (h 1 i)) (cwV 1 hts (tt_V tw_540 tw_537 tw_538 tw_539 tw_44) rfl rfl rfl (by decide +kernel) ⟨Nat.le_of_ble_eq_true rfl, Nat.le_of_ble_eq_true rfl⟩) (zPc_V hKN hP (ci := 2) (q := (R_T, F_T, 12)) rfl (PX_t hX (k := i) (by omega))) rfl rfl hl.1 rfl (lv_room (Nat.le_of_ble_eq_true rfl)) d_X_tick_84 ⟨Nat.le_of_ble_eq_true rfl, Nat.le_of_ble_eq_true rfl⟩) hS (fun ws H locs hR hP hD hz9 hS => ?_)
            obtain ⟨hz1, hg1, hFr⟩ := hR
            have hcg : ∀ c, c ≠ 10 → mAgain f0 (f0 7 i) i c i = mAgain f (h 1 i) i c i := fun c hc9 => by rw [h17, hfi 7]; exact mAgain_congr (fun c => (hfi c).symm) hf10.symm c hc9
            have hXR := PX_task (f' := tkF f0 (nI (tm + N)) (i + 1)) hD0 hX (by omega) hz1 hg1 hFr (by rw [tkF_t hac (Or.inl rfl), hcg 6 (by decide), mAgain_x6]) (by rw [tkF_c (by decide) (by decide), ← hfi 5]) (fun j h5 h6 h7 h8 h9 => by rw [tkF_c h6 h7, hf, tkF_c h6 h7]) (fun k hk j => by rw [tkF_o hk, hf]) (again_rel2 hTf (PX_okq hX i (by omega)).2 q3 q1 q2 (by rw [tkF_t hac (Or.inr rfl), hcg 7 (by decide)]))
            refine lv_iinc (v := (nI (cnt (aC f0 (nI (tm + N))) i + 1))) (lv' := [(3, .int (nI (cnt (aC f0 (nI (tm + N))) i + 1))), (5, .ref (tad i)), (0, .ref (xa 0)), (1, .int (nI N)), (2, .int (nI (tm + N))), (4, .int (nI i))]) hx hb d_X_tick_87 hl (k := 4) rfl (nI_1 _) (by decide) rfl (fun ls hl => ?_)
            refine lv_iinc (v := (nI (i + 1))) (lv' := [(4, .int (nI (i + 1))), (3, .int (nI (cnt (aC f0 (nI (tm + N))) i + 1))), (5, .ref (tad i)), (0, .ref (xa 0)), (1, .int (nI N)), (2, .int (nI (tm + N)))]) hx hb d_X_tick_90 hl (k := 5) rfl (nI_1 i) (by decide) rfl (fun ls hl => ?_)
            refine lv_goto (tgt := 33) hx hb d_X_tick_93 (by decide) ?_
            rw [show nI (cnt (aC f0 (nI (tm + N))) i + 1) = nI (cnt (aC f0 (nI (tm + N))) (i + 1)) from cnt_t2 hac] at hl
            obtain ⟨⟨h9, hX9⟩, hF9⟩ := hXR
            exact ih (i + 1) _ h9 ws H ls locs (by omega) (by omega) rfl hX9 (zfrX_tr hF hF9) hP hD hS (lv_sub hl [3, 4, 5, 1, 0] rfl)
  have hl : lv_has ls 6 [(0, .ref (xa 0)), (1, .int (nI N))] := hl
  refine lv_iload_n hx hb d_X_tick_0 rfl (zl hl rfl) ?_
  refine lv_iconst (v := 1) hx hb d_X_tick_1 (by decide) ?_
  refine lv_sipush (v := 1000) hx hb d_X_tick_2 (by decide) ?_
  refine z_calli (va_runS (As := [.int (nI N), .int 1, .int 1000]) (rest := []) ⟨hx, hb, hml, hown, hts⟩ (c_X_within l hP (nI N) 1 1000) (va_cwS 3 hts (tt_S tw_186 tw_184 tw_185 tw_30) rfl rfl rfl (by decide +kernel) ⟨Nat.le_of_ble_eq_true rfl, Nat.le_of_ble_eq_true rfl⟩) (zPc_S hKN) rfl rfl hl.1 rfl (lv_room (Nat.le_of_ble_eq_true rfl)) d_X_tick_5 ⟨Nat.zero_le _, Nat.zero_le _⟩) hS (fun locs hS => ?_)
  rw [show zb (sWithin (nI N) 1 1000) = 1 by rw [hc]; rfl]
  refine lv_if_ne (tgt := 21) hx hb d_X_tick_8 (by decide) (fun c_1 => ?_) (fun c_1 => ?_)
  · refine lv_aload_n hx hb d_X_tick_21 rfl (zl hl rfl) ?_
    refine z_get (C := R_X) (T := F_X) (N := 5) (v := .int (nI tm)) hx hb hts inT_X hown hK hP (PX_x hX) rfl 3 (by decide) tw_136 (fun _ h => h) rfl d_X_tick_22 ?_
    refine lv_iload_n hx hb d_X_tick_25 rfl (zl hl rfl) ?_
    refine lv_iadd hx hb d_X_tick_26 ?_
    refine z_top (y := nI (tm + N)) (nI_add tm N) ?_
    refine lv_istore_n (lv' := [(2, .int (nI (tm + N))), (0, .ref (xa 0)), (1, .int (nI N))]) hx hb d_X_tick_27 rfl hl (by decide) rfl (fun ls hl => ?_)
    refine lv_iconst (v := 0) hx hb d_X_tick_28 (by decide) ?_
    refine lv_istore_n (lv' := [(3, .int 0), (2, .int (nI (tm + N))), (0, .ref (xa 0)), (1, .int (nI N))]) hx hb d_X_tick_29 rfl hl (by decide) rfl (fun ls hl => ?_)
    refine lv_iconst (v := 0) hx hb d_X_tick_30 (by decide) ?_
    refine lv_istore (lv' := [(4, .int 0), (3, .int 0), (2, .int (nI (tm + N))), (0, .ref (xa 0)), (1, .int (nI N))]) hx hb d_X_tick_31 hl (by decide) rfl (fun ls hl => ?_)
    exact key (n + 1) 0 f h ws _ ls _ (Nat.zero_le _) (by omega) (by rw [tkF_0, hf0]) hX hF hP hD hS (lv_sub hl [3, 4, 2, 1, 0] rfl)
  · exact absurd c_1 (by decide)
set_option maxHeartbeats 4000000 in
set_option maxRecDepth 100000 in
theorem c_X_tick_T (l : Launch) (hl0 : l.stackTraces = false) {D : va_G} {ws : va_W} {H : Heap} (hP : va_P D vwCl ws H) {kk : Nat → ClassId} {xa qad gad tad : Nat → Nat} {e0 : Nat} {time tok : Int32} {n : Nat} {f : FF} {ky : Nat → Int64} {h : FF} {qar gar arr : Nat → Option Nat} {ea cap : Nat} {md : Int32} (hX : PX kk xa qad gad tad e0 time tok n f ky h qar gar arr ea cap md ws) {B : Nat} (v : Int32) (hc : sWithin v 1 1000 = false) : zMT l y_X_tick (Cond.code y_X_tick b_X_tick 6 (some .int) :: TT) ({ frames := 6, cells := 1, slots := 6, locals := 240 }) (zPx [.ref (xa 0), .int v] H D vwCl (TY kk) B) "java/lang/IllegalArgumentException" 1 6 := by
  refine z_bodyT (by decide) (Nat.le_of_ble_eq_true rfl) ?_
  intro p e s m below meth c ls C0 htab hH hKN hT hSt hl
  obtain ⟨hx, hb, hr, hts, hown, hlocks, hml⟩ := C0
  subst hH
  have hK := hKN.1
  have hN := hKN.2
  have hn := PX_n hX
  have hl : lv_has ls 6 [(0, .ref (xa 0)), (1, .int v)] := hl
  refine lv_iload_n hx hb d_X_tick_0 rfl (zl hl rfl) ?_
  refine lv_iconst (v := 1) hx hb d_X_tick_1 (by decide) ?_
  refine lv_sipush (v := 1000) hx hb d_X_tick_2 (by decide) ?_
  refine z_calliK (va_runS (As := [.int v, .int 1, .int 1000]) (rest := []) ⟨hx, hb, hml, hown, hts⟩ (c_X_within l hP v 1 1000) (va_cwS 3 hts (tt_S tw_186 tw_184 tw_185 tw_30) rfl rfl rfl (by decide +kernel) ⟨Nat.le_of_ble_eq_true rfl, Nat.le_of_ble_eq_true rfl⟩) (zPc_S hKN) rfl rfl hl.1 rfl (lv_room (Nat.le_of_ble_eq_true rfl)) d_X_tick_5 ⟨Nat.zero_le _, Nat.zero_le _⟩) ?_
  refine lv_if_ne (tgt := 21) hx hb d_X_tick_8 (by decide) (fun c_1 => ?_) (fun c_1 => ?_)
  · have b1 := zb_t c_1
    exact absurd hc (by rw [b1]; decide)
  · exact zx_throw (own := "LoanRounds") (E := "java/lang/IllegalArgumentException") (text := "no such number of ticks") hx hb hl0 Bundle.six_0 Bundle.six_1 Bundle.six_2 Bundle.six_5 hts hown (by decide) tw_298 tw_40 ow_IAE hT (hSt (138, "no such number of ticks") (by simp [strL])) (hl.1.trans hml.symm) d_X_tick_11 d_X_tick_14 d_X_tick_15 d_X_tick_17 d_X_tick_20 htab (Nat.le_of_ble_eq_true rfl) (Nat.le_of_ble_eq_true rfl) (Nat.le_of_ble_eq_true rfl) (Nat.le_of_ble_eq_true rfl) hlocks (by decide) (by decide)
