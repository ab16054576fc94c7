def aC (f : FF) (time : Int32) (t : Nat) : Bool := decide (f 6 t = 1) && decide (f 7 t ≤ time)
def aStep (f : FF) (time : Int32) (t : Nat) : FF := if aC f time t = true then mAgain f time t else f
def inn (f : FF) (time : Int32) : Nat → FF
  | 0 => f
  | k + 1 => aStep (inn f time k) time k
def innC (f : FF) (time : Int32) : Nat → Nat
  | 0 => 0
  | k + 1 => innC f time k + (if aC (inn f time k) time k = true then 1 else 0)
def outF (f : FF) (time : Int32) (n : Nat) : Nat → FF
  | 0 => f
  | j + 1 => inn (outF f time n j) (time + nI (j + 1)) n
def outC (f : FF) (time : Int32) (n : Nat) : Nat → Nat
  | 0 => 0
  | j + 1 => outC f time n j + innC (outF f time n j) (time + nI (j + 1)) n
def okA (f : FF) (n : Nat) : Prop := okq f n ∧ ∀ t, t < n → f 6 t = 1 → ∃ tr, 1 ≤ tr ∧ tr < 2 ^ 30 ∧ f 5 t = nI tr
theorem mAgain_j {f : FF} {time : Int32} {t : Nat} (j : Nat) (h6 : j ≠ 6) (h7 : j ≠ 7) : (mAgain f time t) j = f j := by
  unfold mAgain w1
  split
  · rw [va_up_ne _ _ h7, va_up_ne _ _ h6]
  · rw [va_up_ne _ _ h6]
theorem mAgain_6 {f : FF} {time : Int32} {t k : Nat} : (mAgain f time t) 6 k = if k = t then (if f 5 t < f 10 (6 * qx f t + 1) then 0 else 3) else f 6 k := by
  unfold mAgain
  by_cases h : f 5 t < f 10 (6 * qx f t + 1)
  · rw [if_pos h, if_pos h]
    rfl
  · rw [if_neg h, if_neg h]
    rfl
theorem okA_again {f : FF} {n : Nat} (h : okA f n) (time : Int32) (t : Nat) : okA (mAgain f time t) n := by
  have e1 : (mAgain f time t) 1 = f 1 := mAgain_j 1 (by decide) (by decide)
  have e5 : (mAgain f time t) 5 = f 5 := mAgain_j 5 (by decide) (by decide)
  refine ⟨fun k hk => ?_, fun k hk h6 => ?_⟩
  · have e2 : qx (mAgain f time t) k = qx f k := by unfold qx; rw [e1]
    rw [e1, e2]
    exact h.1 k hk
  · rw [e5]
    refine h.2 k hk ?_
    rw [mAgain_6] at h6
    by_cases hkt : k = t
    · rw [if_pos hkt] at h6
      split at h6
      · exact absurd h6 (by decide)
      · exact absurd h6 (by decide)
    · rw [if_neg hkt] at h6
      exact h6
theorem okA_step {f : FF} {n : Nat} (h : okA f n) (time : Int32) (t : Nat) : okA (aStep f time t) n := by
  unfold aStep
  split
  · exact okA_again h time t
  · exact h
theorem okA_inn {f : FF} {n : Nat} (h : okA f n) (time : Int32) : ∀ k, okA (inn f time k) n
  | 0 => h
  | k + 1 => okA_step (okA_inn h time k) time k
theorem inn_t {f : FF} {time : Int32} {k : Nat} (h : aC (inn f time k) time k = true) : inn f time (k + 1) = mAgain (inn f time k) time k := by
  show aStep _ _ _ = _
  unfold aStep
  rw [if_pos h]
theorem inn_f {f : FF} {time : Int32} {k : Nat} (h : aC (inn f time k) time k = false) : inn f time (k + 1) = inn f time k := by
  show aStep _ _ _ = _
  unfold aStep
  rw [if_neg (by rw [h]; decide)]
theorem innC_t {f : FF} {time : Int32} {k : Nat} (h : aC (inn f time k) time k = true) : innC f time (k + 1) = innC f time k + 1 := by
  show _ + (if _ then _ else _) = _
  rw [if_pos h]
theorem innC_f {f : FF} {time : Int32} {k : Nat} (h : aC (inn f time k) time k = false) : innC f time (k + 1) = innC f time k := by
  show _ + (if _ then _ else _) = _
  rw [if_neg (by rw [h]; decide), Nat.add_zero]
theorem z_tm (time : Int32) (j : Nat) : time + nI j + 1 = time + nI (j + 1) := by rw [Int32.add_assoc, nI_1]
set_option maxHeartbeats 4000000 in
set_option maxRecDepth 100000 in
theorem c_M_tick (l : Launch) {D : va_G} {ws : va_W} {H : Heap} (hP : va_P D vwCl ws H) {kk : Nat → ClassId} {ad : Nat → Nat} {thr time tok : Int32} {n : Nat} {f : Nat → Nat → Int32} {ky : Nat → Int64} (hM : PM kk ad thr time n tok f ky ws)  {B : Nat} (hD : va_D (fun q => B ≤ q) ws) (v : Int32) (hn : n ≤ 400) (hA : okA f n) : Met l y_M_tick (Cond.code y_M_tick b_M_tick 5 (some .int) :: TT) ({ frames := 2, cells := 0, slots := 0, locals := 80 }) (zPc [.ref (ad 0), .int v] H D vwCl (TY kk)) (zR D vwCl B (some (.int (if sWithin v 1 1000 = true then nI (outC f time n (tx v)) else 0))) (fun ws' => PM kk ad (if sWithin v 1 1000 = true then 0 else 1) (if sWithin v 1 1000 = true then time + v else time) n tok (if sWithin v 1 1000 = true then outF f time n (tx v) else f) ky ws' ∧ zfrM ws ws')) 0 0 (fun q => B ≤ q) := by
  refine z_body (by decide) (Nat.le_of_ble_eq_true rfl) ?_
  intro p e s m below meth c ls C0 hH hKN hl
  obtain ⟨hx, hb, hr, hts, hown, hlocks, hml⟩ := C0
  subst hH
  have hK := hKN.1
  have hN := hKN.2
  have hS : va_S (fun q => B ≤ q) s.heap s.heap [] := va_S.rf
  have hF : zfrM ws ws := zfrM_rf
  obtain ⟨ws0, hws0⟩ : ∃ z, z = ws := ⟨_, rfl⟩
  have hF : zfrM ws0 ws := by rw [hws0]; exact zfrM_rf
  rw [show (fun ws' => PM kk ad (if sWithin v 1 1000 = true then 0 else 1) (if sWithin v 1 1000 = true then time + v else time) n tok (if sWithin v 1 1000 = true then outF f time n (tx v) else f) ky ws' ∧ zfrM ws ws') = (fun ws' => PM kk ad (if sWithin v 1 1000 = true then 0 else 1) (if sWithin v 1 1000 = true then time + v else time) n tok (if sWithin v 1 1000 = true then outF f time n (tx v) else f) ky ws' ∧ zfrM ws0 ws') by rw [hws0]]
  have hl : lv_has ls 5 [(0, .ref (ad 0)), (1, .int v)] := hl
  refine lv_iload_n hx hb d_M_tick_0 rfl (zl hl rfl) ?_
  refine lv_iconst (v := 1) hx hb d_M_tick_1 (by decide) ?_
  refine lv_sipush (v := 1000) hx hb d_M_tick_2 (by decide) ?_
  refine z_calli (va_runS (As := [.int v, .int 1, .int 1000]) (rest := []) ⟨hx, hb, hml, hown, hts⟩ (c_M_within l hP v 1 1000) (va_cwS 3 hts (tt_S tw_631 tw_629 tw_630 tw_36) rfl rfl rfl (by decide +kernel) ⟨Nat.le_of_ble_eq_true rfl, Nat.le_of_ble_eq_true rfl⟩) (zPc_S hKN) rfl rfl hl.1 rfl (lv_room (Nat.le_of_ble_eq_true rfl)) d_M_tick_5 ⟨Nat.zero_le _, Nat.zero_le _⟩) hS (fun locs hS => ?_)
  refine lv_if_ne (tgt := 17) hx hb d_M_tick_8 (by decide) (fun c_1 => ?_) (fun c_1 => ?_)
  · have b1 := zb_t c_1
    obtain ⟨N, hN1, hN2, rfl⟩ := sWithin_2 (a := 1) (b := 1000) (by decide) (by decide) b1
    have htN : tx (nI N) = N := tx_nI (by omega)
    refine lv_aload_n hx hb d_M_tick_17 rfl (zl hl rfl) ?_
    refine lv_iconst (v := 0) hx hb d_M_tick_18 (by decide) ?_
    have hD0 := hD
    refine z_put (C := R_M) (T := F_M) (N := 15) (v := .int 0) hx hb hts inT_M ft_M ft_M_ok fn_M hown hK hP hD hS (PM_o hM) rfl 0 (by decide) tw_573 (fun _ h => h) rfl rfl rfl (by simp) d_M_tick_19 (fun ws H locs hP hD hS u_2 => ?_)
    have hF := zfrM_tr hF (zfrM_up hD0 (PM_o hM) rfl u_2)
    have hM := PM_wo (thr' := 0) (time' := time) (n' := n) (tok' := tok) hM u_2
    refine lv_iconst (v := 0) hx hb d_M_tick_22 (by decide) ?_
    refine lv_istore_n (lv' := [(2, .int 0), (0, .ref (ad 0)), (1, .int (nI N))]) hx hb d_M_tick_23 rfl hl (by decide) rfl (fun ls hl => ?_)
    refine lv_iconst (v := 0) hx hb d_M_tick_24 (by decide) ?_
    refine lv_istore_n (lv' := [(3, .int 0), (2, .int 0), (0, .ref (ad 0)), (1, .int (nI N))]) hx hb d_M_tick_25 rfl hl (by decide) rfl (fun ls hl => ?_)
    have key : ∀ (r j : Nat) (ws : va_W) (H : Heap) (ls : Array Slot) (locs : List Loc), j ≤ N → N + 1 ≤ j + r → okA (outF f time n j) n → PM kk ad 0 (time + nI j) n tok (outF f time n j) ky ws → zfrM ws0 ws → va_P D vwCl ws H → va_D (fun q => B ≤ q) ws → va_S (fun q => B ≤ q) s.heap H locs → lv_has ls 5 [(0, .ref (ad 0)), (1, .int (nI N)), (2, .int (nI (outC f time n j))), (3, .int (nI j))] → W p l e ({ frames := 2, cells := 0, slots := 0, locals := 80 }) s m ([.ref (ad 0), .int (nI N)] : List Value).toArray below meth c H locs 0 0 (MQ below (zR D vwCl B (some (.int (if sWithin (nI N) 1 1000 = true then nI (outC f time n (tx (nI N))) else 0))) (fun ws' => PM kk ad (if sWithin (nI N) 1 1000 = true then 0 else 1) (if sWithin (nI N) 1 1000 = true then time + (nI N) else time) n tok (if sWithin (nI N) 1 1000 = true then outF f time n (tx (nI N)) else f) ky ws' ∧ zfrM ws0 ws')) ([.ref (ad 0), .int (nI N)] : List Value).toArray s 0 0 (fun q => B ≤ q)) (F0 m 26 ls []) := by
      intro r
      induction r with
      | zero => intro j ws H ls locs h1 h2; omega
      | succ r ih =>
        intro j ws H ls locs hj hjr hA hM hF hP hD hS hl
        refine lv_iload_n hx hb d_M_tick_26 rfl (zl hl rfl) ?_
        refine lv_iload_n hx hb d_M_tick_27 rfl (zl hl rfl) ?_
        refine lv_icmp_ge (tgt := 102) hx hb d_M_tick_28 (by decide) (fun c_1 => ?_) (fun c_1 => ?_)
        · have hin := z_ge hj (by omega) c_1
          refine lv_iload_n hx hb d_M_tick_102 rfl (zl hl rfl) ?_
          exact z_iretR hx hb hr hlocks hP hD hS (by rw [if_pos b1, htN, hin]) (⟨by rw [if_pos b1, if_pos b1, if_pos b1, htN, ← hin]; exact hM, hF⟩) d_M_tick_103
        · have hlt := z_lt hj (by omega) c_1
          refine lv_aload_n hx hb d_M_tick_31 rfl (zl hl rfl) ?_
          refine lv_dup hx hb d_M_tick_32 rfl ?_
          refine z_get (C := R_M) (T := F_M) (N := 15) (v := .int (time + nI j)) hx hb hts inT_M hown hK hP (PM_o hM) rfl 1 (by decide) tw_574 (fun _ h => h) rfl d_M_tick_33 ?_
          refine lv_iconst (v := 1) hx hb d_M_tick_36 (by decide) ?_
          refine lv_iadd hx hb d_M_tick_37 ?_
          refine z_top (y := time + nI (j + 1)) (z_tm time j) ?_
          have hD0 := hD
          refine z_put (C := R_M) (T := F_M) (N := 15) (v := .int (time + nI (j + 1))) hx hb hts inT_M ft_M ft_M_ok fn_M hown hK hP hD hS (PM_o hM) rfl 1 (by decide) tw_574 (fun _ h => h) rfl rfl rfl (by simp) d_M_tick_38 (fun ws H locs hP hD hS u_2 => ?_)
          have hF := zfrM_tr hF (zfrM_up hD0 (PM_o hM) rfl u_2)
          have hM := PM_wo (thr' := 0) (time' := time + nI (j + 1)) (n' := n) (tok' := tok) hM u_2
          refine lv_iconst (v := 0) hx hb d_M_tick_41 (by decide) ?_
          refine lv_istore (lv' := [(4, .int 0), (0, .ref (ad 0)), (1, .int (nI N)), (2, .int (nI (outC f time n j))), (3, .int (nI j))]) hx hb d_M_tick_42 hl (by decide) rfl (fun ls hl => ?_)
          have key2 : ∀ (r2 i : Nat) (ws : va_W) (H : Heap) (ls : Array Slot) (locs : List Loc), i ≤ n → n + 1 ≤ i + r2 → PM kk ad 0 (time + nI (j + 1)) n tok (inn (outF f time n j) (time + nI (j + 1)) i) ky ws → zfrM ws0 ws → va_P D vwCl ws H → va_D (fun q => B ≤ q) ws → va_S (fun q => B ≤ q) s.heap H locs → lv_has ls 5 [(0, .ref (ad 0)), (1, .int (nI N)), (2, .int (nI (outC f time n j + innC (outF f time n j) (time + nI (j + 1)) i))), (3, .int (nI j)), (4, .int (nI i))] → W p l e ({ frames := 2, cells := 0, slots := 0, locals := 80 }) s m ([.ref (ad 0), .int (nI N)] : List Value).toArray below meth c H locs 0 0 (MQ below (zR D vwCl B (some (.int (if sWithin (nI N) 1 1000 = true then nI (outC f time n (tx (nI N))) else 0))) (fun ws' => PM kk ad (if sWithin (nI N) 1 1000 = true then 0 else 1) (if sWithin (nI N) 1 1000 = true then time + (nI N) else time) n tok (if sWithin (nI N) 1 1000 = true then outF f time n (tx (nI N)) else f) ky ws' ∧ zfrM ws0 ws')) ([.ref (ad 0), .int (nI N)] : List Value).toArray s 0 0 (fun q => B ≤ q)) (F0 m 44 ls []) := by
            intro r2
            induction r2 with
            | zero => intro i ws H ls locs h1 h2; omega
            | succ r2 ih2 =>
              intro i ws H ls locs hi hir hM hF hP hD hS hl
              have hAi := okA_inn hA (time + nI (j + 1)) i
              refine lv_iload hx hb d_M_tick_44 (zl hl rfl) ?_
              refine lv_aload_n hx hb d_M_tick_46 rfl (zl hl rfl) ?_
              refine z_get (C := R_M) (T := F_M) (N := 15) (v := .int (nI n)) hx hb hts inT_M hown hK hP (PM_o hM) rfl 2 (by decide) tw_575 (fun _ h => h) rfl d_M_tick_47 ?_
              refine lv_icmp_ge (tgt := 96) hx hb d_M_tick_50 (by decide) (fun c_1 => ?_) (fun c_1 => ?_)
              · have hin2 := z_ge hi (by omega) c_1
                refine lv_iinc (v := (nI (j + 1))) (lv' := [(3, .int (nI (j + 1))), (0, .ref (ad 0)), (1, .int (nI N)), (2, .int (nI (outC f time n j + innC (outF f time n j) (time + nI (j + 1)) i))), (4, .int (nI i))]) hx hb d_M_tick_96 hl (k := 3) rfl (nI_1 j) (by decide) rfl (fun ls hl => ?_)
                refine lv_goto (tgt := 26) hx hb d_M_tick_99 (by decide) ?_
                subst hin2
                exact ih (j + 1) ws H ls locs (by omega) (by omega) (okA_inn hA _ i) hM hF hP hD hS (lv_sub hl [1, 2, 3, 0] rfl)
              · have hlt2 := z_lt hi (by omega) c_1
                refine lv_aload_n hx hb d_M_tick_53 rfl (zl hl rfl) ?_
                refine z_get (C := R_M) (T := F_M) (N := 15) (v := .ref (ad 6)) hx hb hts inT_M hown hK hP (PM_o hM) rfl 9 (by decide) tw_582 (fun _ h => h) rfl d_M_tick_54 ?_
                refine lv_iload hx hb d_M_tick_57 (zl hl rfl) ?_
                refine z_iald hx hb hK hP 0 (PM_6 hM) rfl i rfl (by omega) (by decide) d_M_tick_59 ?_
                refine lv_iconst (v := 1) hx hb d_M_tick_60 (by decide) ?_
                refine lv_icmp_ne (tgt := 90) hx hb d_M_tick_61 (by decide) (fun c_2 => ?_) (fun c_2 => ?_)
                · refine lv_iinc (v := (nI (i + 1))) (lv' := [(4, .int (nI (i + 1))), (0, .ref (ad 0)), (1, .int (nI N)), (2, .int (nI (outC f time n j + innC (outF f time n j) (time + nI (j + 1)) i))), (3, .int (nI j))]) hx hb d_M_tick_90 hl (k := 4) rfl (nI_1 i) (by decide) rfl (fun ls hl => ?_)
                  refine lv_goto (tgt := 44) hx hb d_M_tick_93 (by decide) ?_
                  have hc9 : aC (inn (outF f time n j) (time + nI (j + 1)) i) (time + nI (j + 1)) i = false := by simp [aC, *]
                  have hM : PM kk ad 0 (time + nI (j + 1)) n tok (inn (outF f time n j) (time + nI (j + 1)) (i + 1)) ky ws := by rw [inn_f hc9]; exact hM
                  rw [show nI (outC f time n j + innC (outF f time n j) (time + nI (j + 1)) i) = nI (outC f time n j + innC (outF f time n j) (time + nI (j + 1)) (i + 1)) by rw [innC_f hc9]] at hl
                  exact ih2 (i + 1) ws H ls locs (by omega) (by omega) hM hF hP hD hS (lv_sub hl [1, 2, 3, 4, 0] rfl)
                · have b2 := c_2
                  refine lv_aload_n hx hb d_M_tick_64 rfl (zl hl rfl) ?_
                  refine z_get (C := R_M) (T := F_M) (N := 15) (v := .ref (ad 7)) hx hb hts inT_M hown hK hP (PM_o hM) rfl 10 (by decide) tw_583 (fun _ h => h) rfl d_M_tick_65 ?_
                  refine lv_iload hx hb d_M_tick_68 (zl hl rfl) ?_
                  refine z_iald hx hb hK hP 0 (PM_7 hM) rfl i rfl (by omega) (by decide) d_M_tick_70 ?_
                  refine lv_aload_n hx hb d_M_tick_71 rfl (zl hl rfl) ?_
                  refine z_get (C := R_M) (T := F_M) (N := 15) (v := .int (time + nI (j + 1))) hx hb hts inT_M hown hK hP (PM_o hM) rfl 1 (by decide) tw_574 (fun _ h => h) rfl d_M_tick_72 ?_
                  refine lv_icmp_le (tgt := 81) hx hb d_M_tick_75 (by decide) (fun c_3 => ?_) (fun c_3 => ?_)
                  · have b3 := c_3
                    refine lv_aload_n hx hb d_M_tick_81 rfl (zl hl rfl) ?_
                    refine lv_iload hx hb d_M_tick_82 (zl hl rfl) ?_
                    obtain ⟨tr, q1, q2, q3⟩ := hAi.2 i (by omega) b2
                    refine z_call (va_runV (As := [.int (nI i)]) (rest := []) ⟨hx, hb, hml, hown, hts⟩ (c_M_again l hP hM hD i (by omega) (hAi.1 i (by omega)).1 (hAi.1 i (by omega)).2 tr q3 q1 q2) (cwV 1 hts (tt_V tw_687 tw_684 tw_686 tw_25 tw_36) rfl rfl rfl (by decide +kernel) ⟨Nat.le_of_ble_eq_true rfl, Nat.le_of_ble_eq_true rfl⟩) (zPc_V hKN hP (ci := 4) (q := (R_M, F_M, 15)) rfl (PM_o hM)) rfl rfl hl.1 rfl (lv_room (Nat.le_of_ble_eq_true rfl)) d_M_tick_84 ⟨Nat.le_of_ble_eq_true rfl, Nat.le_of_ble_eq_true rfl⟩) hS (fun ws H locs hR hP hD hz hS => ?_)
                    have hF := zfrM_tr hF hR.2
                    have hM := hR.1
                    clear hR
                    refine lv_iinc (v := ((nI (outC f time n j + innC (outF f time n j) (time + nI (j + 1)) i)) + 1)) (lv' := [(2, .int ((nI (outC f time n j + innC (outF f time n j) (time + nI (j + 1)) i)) + 1)), (0, .ref (ad 0)), (1, .int (nI N)), (3, .int (nI j)), (4, .int (nI i))]) hx hb d_M_tick_87 hl (k := 2) rfl (rfl) (by decide) rfl (fun ls hl => ?_)
                    refine lv_iinc (v := (nI (i + 1))) (lv' := [(4, .int (nI (i + 1))), (2, .int ((nI (outC f time n j + innC (outF f time n j) (time + nI (j + 1)) i)) + 1)), (0, .ref (ad 0)), (1, .int (nI N)), (3, .int (nI j))]) hx hb d_M_tick_90 hl (k := 4) rfl (nI_1 i) (by decide) rfl (fun ls hl => ?_)
                    refine lv_goto (tgt := 44) hx hb d_M_tick_93 (by decide) ?_
                    have hc9 : aC (inn (outF f time n j) (time + nI (j + 1)) i) (time + nI (j + 1)) i = true := by simp [aC, *]
                    have hM : PM kk ad 0 (time + nI (j + 1)) n tok (inn (outF f time n j) (time + nI (j + 1)) (i + 1)) ky ws := by rw [inn_t hc9]; exact hM
                    rw [show (nI (outC f time n j + innC (outF f time n j) (time + nI (j + 1)) i)) + 1 = nI (outC f time n j + innC (outF f time n j) (time + nI (j + 1)) (i + 1)) by rw [innC_t hc9, nI_1]; rfl] at hl
                    exact ih2 (i + 1) ws H ls locs (by omega) (by omega) hM hF hP hD hS (lv_sub hl [2, 3, 1, 4, 0] rfl)
                  · have b3 : ¬ _ := c_3
                    refine lv_goto (tgt := 90) hx hb d_M_tick_78 (by decide) ?_
                    refine lv_iinc (v := (nI (i + 1))) (lv' := [(4, .int (nI (i + 1))), (0, .ref (ad 0)), (1, .int (nI N)), (2, .int (nI (outC f time n j + innC (outF f time n j) (time + nI (j + 1)) i))), (3, .int (nI j))]) hx hb d_M_tick_90 hl (k := 4) rfl (nI_1 i) (by decide) rfl (fun ls hl => ?_)
                    refine lv_goto (tgt := 44) hx hb d_M_tick_93 (by decide) ?_
                    have hc9 : aC (inn (outF f time n j) (time + nI (j + 1)) i) (time + nI (j + 1)) i = false := by simp [aC, *]
                    have hM : PM kk ad 0 (time + nI (j + 1)) n tok (inn (outF f time n j) (time + nI (j + 1)) (i + 1)) ky ws := by rw [inn_f hc9]; exact hM
                    rw [show nI (outC f time n j + innC (outF f time n j) (time + nI (j + 1)) i) = nI (outC f time n j + innC (outF f time n j) (time + nI (j + 1)) (i + 1)) by rw [innC_f hc9]] at hl
                    exact ih2 (i + 1) ws H ls locs (by omega) (by omega) hM hF hP hD hS (lv_sub hl [1, 2, 3, 4, 0] rfl)
          exact key2 (n + 1) 0 ws H ls locs (Nat.zero_le _) (by omega) hM hF hP hD hS (lv_sub hl [1, 2, 3, 4, 0] rfl)
    have hM : PM kk ad 0 (time + nI 0) n tok (outF f time n 0) ky ws := by rw [show time + nI 0 = time from Int32.add_zero time]; exact hM
    exact key (N + 1) 0 ws H ls locs (Nat.zero_le _) (by omega) hA hM hF hP hD hS (lv_sub hl [2, 3, 1, 0] rfl)
  · have b1 := zb_f c_1
    refine lv_aload_n hx hb d_M_tick_11 rfl (zl hl rfl) ?_
    refine lv_iconst (v := 1) hx hb d_M_tick_12 (by decide) ?_
    refine z_call (va_runV (As := [.int 1]) (rest := []) ⟨hx, hb, hml, hown, hts⟩ (c_M_raise l hP hM hD 1) (cwV 1 hts (tt_V tw_635 tw_632 tw_634 tw_15 tw_36) rfl rfl rfl (by decide +kernel) ⟨Nat.le_of_ble_eq_true rfl, Nat.le_of_ble_eq_true rfl⟩) (zPc_V hKN hP (ci := 4) (q := (R_M, F_M, 15)) rfl (PM_o hM)) rfl rfl hl.1 rfl (lv_room (Nat.le_of_ble_eq_true rfl)) d_M_tick_13 ⟨Nat.le_of_ble_eq_true rfl, Nat.le_of_ble_eq_true rfl⟩) hS (fun ws H locs hR hP hD hz hS => ?_)
    have hF := zfrM_tr hF hR.2
    have hM := hR.1
    clear hR
    exact z_iretR hx hb hr hlocks hP hD hS (by simp [*]) (⟨by first | (simp only [*, reduceIte, Bool.false_eq_true]; done) | (simp only [*, reduceIte, Bool.false_eq_true]; exact hM), hF⟩) d_M_tick_16
