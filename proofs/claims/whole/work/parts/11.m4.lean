theorem sWithin_2 {x : Int32} {a b : Nat} (hb : b < 2 ^ 31) (hab : a ≤ b) (hw : sWithin x (nI a) (nI b) = true) : ∃ k : Nat, a ≤ k ∧ k ≤ b ∧ x = nI k := by
  simp only [sWithin, Bool.and_eq_true, decide_eq_true_eq] at hw
  have h0 : ¬ x < 0 := fun z => absurd (Int32.lt_of_le_of_lt hw.1 z) (nI_pos (by omega))
  obtain ⟨j, hj, rfl⟩ := nI_of (x := x) h0
  exact ⟨j, (nI_leI (by omega) hj).mp hw.1, (nI_leI hj hb).mp hw.2, rfl⟩
def cLend (w q : Int32) : Bool := sWithin w 0 7 && sWithin q 0 3
def oLend (f : FF) (time : Int32) (n : Nat) (w q : Int32) : Option Nat := if nI (cnt (pTo f w) n) = 4 then none else fst f time n q n
def mLent (f : FF) (time : Int32) (qi t : Nat) (w tok : Int32) : FF := w1 (w1 (w1 (w1 (w1 f 6 t 1) 8 t w) 9 t tok) 5 t ((w1 (w1 (w1 f 6 t 1) 8 t w) 9 t tok) 5 t + 1)) 7 t (time + (w1 (w1 (w1 (w1 f 6 t 1) 8 t w) 9 t tok) 5 t ((w1 (w1 (w1 f 6 t 1) 8 t w) 9 t tok) 5 t + 1)) 10 (6 * qi))
def mLend (f : FF) (time : Int32) (n : Nat) (w q tok : Int32) : FF := if cLend w q = true then (match oLend f time n w q with
  | none => f
  | some t => mLent f time (tx q) t w tok) else f
def rLend (f : FF) (time : Int32) (n : Nat) (w q tok : Int32) : Int32 := if cLend w q = true then (match oLend f time n w q with
  | none => -1
  | some _ => tok) else 0
def tLend (f : FF) (time : Int32) (n : Nat) (w q tok : Int32) : Int32 := if cLend w q = true then (match oLend f time n w q with
  | none => tok
  | some _ => tok + 1) else tok
def cAdd (q r g delay : Int32) : Bool := sWithin q 0 3 && sWithin r 0 3 && sWithin g (-1) 7 && sWithin delay 0 1000
def oAdd (f : FF) (ky : Nat → Int64) (time : Int32) (n : Nat) (q : Int32) (k : Int64) : Option Nat := lstD (pKey f ky time (tx q) k) n
def fullA (f : FF) (n : Nat) : Bool := decide (nI (cnt (pLive f) n) = 64) || decide (nI n = 400)
def xAdd (f : FF) (ky : Nat → Int64) (time : Int32) (n : Nat) (q r g : Int32) (k : Int64) (delay : Int32) : Int32 := if cAdd q r g delay = true then (match oAdd f ky time n q k with
  | none => if fullA f n = true then 2 else 0
  | some _ => 0) else 1
def cNew (f : FF) (ky : Nat → Int64) (time : Int32) (n : Nat) (q r g : Int32) (k : Int64) (delay : Int32) : Bool := cAdd q r g delay && (oAdd f ky time n q k).isNone && !fullA f n
def rAdd (f : FF) (ky : Nat → Int64) (time : Int32) (n : Nat) (q r g : Int32) (k : Int64) (delay : Int32) : Int32 := if cAdd q r g delay = true then (match oAdd f ky time n q k with
  | none => if fullA f n = true then 0 else nI n
  | some t => nI t) else 0
def mAdd (f : FF) (n : Nat) (q r g time delay : Int32) : FF := w1 (w1 (w1 (w1 (w1 (w1 f 1 n q) 2 n r) 3 n g) 5 n 0) 6 n 0) 7 n (time + delay)
def dwl (top : Int32) : Nat → Int32 → Int32
  | 0, w => w
  | r + 1, w => if w < top then dwl top r (w * 2) else w
def mWait (f : FF) (t : Nat) : Int32 := dwl (f 10 (6 * qx f t + 3)) (tx (f 5 t) - 1) (f 10 (6 * qx f t + 2))
def mAgain (f : FF) (time : Int32) (t : Nat) : FF := if f 5 t < f 10 (6 * qx f t + 1) then w1 (w1 f 6 t 0) 7 t (time + (if mWait f t < f 10 (6 * qx f t + 3) then mWait f t else f 10 (6 * qx f t + 3))) else w1 f 6 t 3
def mEnd1 (f : FF) (time how : Int32) (t : Nat) : FF := if how = 1 then mAgain f time t else w1 (w1 (w1 f 6 t (if how = 0 then 2 else 0)) 7 t time) 5 t ((w1 (w1 f 6 t (if how = 0 then 2 else 0)) 7 t time) 5 t - (if how = 2 then 1 else 0))
def mEnd (f : FF) (time : Int32) (n : Nat) (v how : Int32) : FF := match fnd (pTok f v) 0 n with
  | none => f
  | some t => if sWithin how 0 2 = true then mEnd1 f time how t else f
def xEnd (f : FF) (n : Nat) (v how : Int32) : Int32 := match fnd (pTok f v) 0 n with
  | none => 1
  | some _ => if sWithin how 0 2 = true then 0 else 2
def rEnd (f : FF) (n : Nat) (v how : Int32) : Int32 := match fnd (pTok f v) 0 n with
  | none => 0
  | some t => if sWithin how 0 2 = true then nI t else 0
theorem mAgain_1 {f : FF} {time : Int32} {t : Nat} {w : Int32} (h : f 5 t < f 10 (6 * qx f t + 1)) (hw : mWait f t = w) (b : w < f 10 (6 * qx f t + 3)) : mAgain f time t = w1 (w1 f 6 t 0) 7 t (time + w) := by
  unfold mAgain
  rw [if_pos h, hw, if_pos b]
theorem mAgain_2 {f : FF} {time : Int32} {t : Nat} {w : Int32} (h : f 5 t < f 10 (6 * qx f t + 1)) (hw : mWait f t = w) (b : ¬ w < f 10 (6 * qx f t + 3)) : mAgain f time t = w1 (w1 f 6 t 0) 7 t (time + f 10 (6 * qx f t + 3)) := by
  unfold mAgain
  rw [if_pos h, hw, if_neg b]
set_option maxHeartbeats 4000000 in
set_option maxRecDepth 100000 in
theorem c_M_lend (l : Launch) {D : va_G} {ws : va_W} {H : Heap} (hP : va_P D vwCl ws H) {kk : Nat → ClassId} {ad : Nat → Nat} {thr time tok : Int32} {n : Nat} {f : Nat → Nat → Int32} {ky : Nat → Int64} (hM : PM kk ad thr time n tok f ky ws)  {B : Nat} (hD : va_D (fun q => B ≤ q) ws) (v q : Int32) (hn : n ≤ 400) (hq : okq f n) (hg : okg f n) : Met l y_M_lend (Cond.code y_M_lend b_M_lend 4 (some .int) :: TT) ({ frames := 4, cells := 0, slots := 0, locals := 160 }) (zPc [.ref (ad 0), .int v, .int q] H D vwCl (TY kk)) (zR D vwCl B (some (.int (rLend f time n v q tok))) (fun ws' => PM kk ad (if cLend v q = true then 0 else 1) time n (tLend f time n v q tok) (mLend f time n v q tok) ky ws' ∧ zfrM ws ws')) 0 0 (fun q => B ≤ q) := by
  refine z_body (by decide) (Nat.le_of_ble_eq_true rfl) ?_
  intro p e s m below meth c ls C0 hH hKN hl
  obtain ⟨hx, hb, hr, hts, hown, hlocks, hml⟩ := C0
  subst hH
  have hK := hKN.1
  have hN := hKN.2
  have hS : va_S (fun q => B ≤ q) s.heap s.heap [] := va_S.rf
  have hF : zfrM ws ws := zfrM_rf
  have hl : lv_has ls 4 [(0, .ref (ad 0)), (1, .int v), (2, .int q)] := hl
  refine lv_iload_n hx hb d_M_lend_0 rfl (zl hl rfl) ?_
  refine lv_iconst (v := 0) hx hb d_M_lend_1 (by decide) ?_
  refine lv_bipush (v := 7) hx hb d_M_lend_2 (by decide) ?_
  refine z_calli (va_runS (As := [.int v, .int 0, .int 7]) (rest := []) ⟨hx, hb, hml, hown, hts⟩ (c_M_within l hP v 0 7) (va_cwS 3 hts (tt_S tw_631 tw_629 tw_630 tw_36) rfl rfl rfl (by decide +kernel) ⟨Nat.le_of_ble_eq_true rfl, Nat.le_of_ble_eq_true rfl⟩) (zPc_S hKN) rfl rfl hl.1 rfl (lv_room (Nat.le_of_ble_eq_true rfl)) d_M_lend_4 ⟨Nat.zero_le _, Nat.zero_le _⟩) hS (fun locs hS => ?_)
  refine lv_if_eq (tgt := 19) hx hb d_M_lend_7 (by decide) (fun c_1 => ?_) (fun c_1 => ?_)
  · have b1 := zb_f c_1
    refine lv_aload_n hx hb d_M_lend_19 rfl (zl hl rfl) ?_
    refine lv_iconst (v := 1) hx hb d_M_lend_20 (by decide) ?_
    refine z_call (va_runV (As := [.int 1]) (rest := []) ⟨hx, hb, hml, hown, hts⟩ (c_M_raise l hP hM hD 1) (cwV 1 hts (tt_V tw_635 tw_632 tw_634 tw_15 tw_36) rfl rfl rfl (by decide +kernel) ⟨Nat.le_of_ble_eq_true rfl, Nat.le_of_ble_eq_true rfl⟩) (zPc_V hKN hP (ci := 4) (q := (R_M, F_M, 15)) rfl (PM_o hM)) rfl rfl hl.1 rfl (lv_room (Nat.le_of_ble_eq_true rfl)) d_M_lend_21 ⟨Nat.le_of_ble_eq_true rfl, Nat.le_of_ble_eq_true rfl⟩) hS (fun ws H locs hR hP hD hz hS => ?_)
    have hF := zfrM_tr hF hR.2
    have hM := hR.1
    clear hR
    exact z_iretR hx hb hr hlocks hP hD hS (by first | (simp [rLend, cLend, oLend, *]; done) | (simp [rLend, cLend, oLend, va_up, upd, *]; done)) (⟨by first | (simp only [tLend, mLend, cLend, oLend, *, reduceIte, Bool.true_and, Bool.false_and, Bool.and_false, Bool.and_true, Bool.false_eq_true, Bool.or_true, Bool.true_or, Bool.or_false, Bool.false_or, decide_true, decide_false, Option.isNone_none, Option.isNone_some, Bool.not_true, Bool.not_false, ite_self]; done) | (simp only [tLend, mLend, cLend, oLend, *, reduceIte, Bool.true_and, Bool.false_and, Bool.and_false, Bool.and_true, Bool.false_eq_true, Bool.or_true, Bool.true_or, Bool.or_false, Bool.false_or, decide_true, decide_false, Option.isNone_none, Option.isNone_some, Bool.not_true, Bool.not_false, ite_self]; exact hM), hF⟩) d_M_lend_24
  · have b1 := zb_t c_1
    refine lv_iload_n hx hb d_M_lend_10 rfl (zl hl rfl) ?_
    refine lv_iconst (v := 0) hx hb d_M_lend_11 (by decide) ?_
    refine lv_iconst (v := 3) hx hb d_M_lend_12 (by decide) ?_
    refine z_calli (va_runS (As := [.int q, .int 0, .int 3]) (rest := []) ⟨hx, hb, hml, hown, hts⟩ (c_M_within l hP q 0 3) (va_cwS 3 hts (tt_S tw_631 tw_629 tw_630 tw_36) rfl rfl rfl (by decide +kernel) ⟨Nat.le_of_ble_eq_true rfl, Nat.le_of_ble_eq_true rfl⟩) (zPc_S hKN) rfl rfl hl.1 rfl (lv_room (Nat.le_of_ble_eq_true rfl)) d_M_lend_13 ⟨Nat.zero_le _, Nat.zero_le _⟩) hS (fun locs hS => ?_)
    refine lv_if_ne (tgt := 25) hx hb d_M_lend_16 (by decide) (fun c_2 => ?_) (fun c_2 => ?_)
    · have b2 := zb_t c_2
      obtain ⟨qi, hqi, rfl⟩ := sWithin_nI (h := 3) (by decide) b2
      have htq : tx (nI qi) = qi := tx_nI (by omega)
      refine lv_aload_n hx hb d_M_lend_25 rfl (zl hl rfl) ?_
      refine lv_iconst (v := 0) hx hb d_M_lend_26 (by decide) ?_
      have hD0 := hD
      refine z_put (C := R_M) (T := F_M) (N := 15) (v := .int 0) hx hb hts inT_M ft_M ft_M_ok fn_M hown hK hP hD hS (PM_o hM) rfl 0 (by decide) tw_573 (fun _ h => h) rfl rfl rfl (by simp) d_M_lend_27 (fun ws H locs hP hD hS u_3 => ?_)
      have hF := zfrM_tr hF (zfrM_up hD0 (PM_o hM) rfl u_3)
      have hM := PM_wo (thr' := 0) (time' := time) (n' := n) (tok' := tok) hM u_3
      refine lv_aload_n hx hb d_M_lend_30 rfl (zl hl rfl) ?_
      refine lv_iload_n hx hb d_M_lend_31 rfl (zl hl rfl) ?_
      refine z_calli (va_runV (As := [.int (nI qi)]) (rest := []) ⟨hx, hb, hml, hown, hts⟩ (c_M_firstOf l hP hM (nI qi) hn hq hg) (cwV 1 hts (tt_V tw_655 tw_652 tw_654 tw_19 tw_36) rfl rfl rfl (by decide +kernel) ⟨Nat.le_of_ble_eq_true rfl, Nat.le_of_ble_eq_true rfl⟩) (zPc_V hKN hP (ci := 4) (q := (R_M, F_M, 15)) rfl (PM_o hM)) rfl rfl hl.1 rfl (lv_room (Nat.le_of_ble_eq_true rfl)) d_M_lend_32 ⟨Nat.zero_le _, Nat.zero_le _⟩) hS (fun locs hS => ?_)
      rcases ho : fst f time n (nI qi) n with _ | t
      · have hm1 : True := trivial
        refine lv_istore_n (lv' := [(3, .int (-1)), (0, .ref (ad 0)), (1, .int v), (2, .int (nI qi))]) hx hb d_M_lend_35 rfl hl (by decide) rfl (fun ls hl => ?_)
        refine lv_iload_n hx hb d_M_lend_36 rfl (zl hl rfl) ?_
        refine lv_iconst (v := (-1)) hx hb d_M_lend_37 (by decide) ?_
        refine lv_icmp_eq (tgt := 50) hx hb d_M_lend_38 (by decide) (fun c_4 => ?_) (fun c_4 => ?_)
        · refine lv_iconst (v := (-1)) hx hb d_M_lend_50 (by decide) ?_
          exact z_iretR hx hb hr hlocks hP hD hS (by first | (simp [rLend, cLend, oLend, *]; done) | (simp [rLend, cLend, oLend, va_up, upd, *]; done)) (⟨by first | (simp only [tLend, mLend, cLend, oLend, *, reduceIte, Bool.true_and, Bool.false_and, Bool.and_false, Bool.and_true, Bool.false_eq_true, Bool.or_true, Bool.true_or, Bool.or_false, Bool.false_or, decide_true, decide_false, Option.isNone_none, Option.isNone_some, Bool.not_true, Bool.not_false, ite_self]; done) | (simp only [tLend, mLend, cLend, oLend, *, reduceIte, Bool.true_and, Bool.false_and, Bool.and_false, Bool.and_true, Bool.false_eq_true, Bool.or_true, Bool.true_or, Bool.or_false, Bool.false_or, decide_true, decide_false, Option.isNone_none, Option.isNone_some, Bool.not_true, Bool.not_false, ite_self]; exact hM), hF⟩) d_M_lend_51
        · exact absurd rfl c_4
      · have hto := fst_lt ho
        refine lv_istore_n (lv' := [(3, .int (nI t)), (0, .ref (ad 0)), (1, .int v), (2, .int (nI qi))]) hx hb d_M_lend_35 rfl hl (by decide) rfl (fun ls hl => ?_)
        refine lv_iload_n hx hb d_M_lend_36 rfl (zl hl rfl) ?_
        refine lv_iconst (v := (-1)) hx hb d_M_lend_37 (by decide) ?_
        refine lv_icmp_eq (tgt := 50) hx hb d_M_lend_38 (by decide) (fun c_5 => ?_) (fun c_5 => ?_)
        · exact absurd c_5 (nI_m1 (by omega))
        · refine lv_aload_n hx hb d_M_lend_41 rfl (zl hl rfl) ?_
          refine lv_iload_n hx hb d_M_lend_42 rfl (zl hl rfl) ?_
          refine z_calli (va_runV (As := [.int v]) (rest := []) ⟨hx, hb, hml, hown, hts⟩ (c_M_lentTo l hP hM v hn) (cwV 1 hts (tt_V tw_671 tw_668 tw_670 tw_23 tw_36) rfl rfl rfl (by decide +kernel) ⟨Nat.le_of_ble_eq_true rfl, Nat.le_of_ble_eq_true rfl⟩) (zPc_V hKN hP (ci := 4) (q := (R_M, F_M, 15)) rfl (PM_o hM)) rfl rfl hl.1 rfl (lv_room (Nat.le_of_ble_eq_true rfl)) d_M_lend_43 ⟨Nat.zero_le _, Nat.zero_le _⟩) hS (fun locs hS => ?_)
          refine lv_iconst (v := 4) hx hb d_M_lend_46 (by decide) ?_
          refine lv_icmp_ne (tgt := 52) hx hb d_M_lend_47 (by decide) (fun c_6 => ?_) (fun c_6 => ?_)
          · refine lv_aload_n hx hb d_M_lend_52 rfl (zl hl rfl) ?_
            refine z_get (C := R_M) (T := F_M) (N := 15) (v := .ref (ad 6)) hx hb hts inT_M hown hK hP (PM_o hM) rfl 9 (by decide) tw_582 (fun _ h => h) rfl d_M_lend_53 ?_
            refine lv_iload_n hx hb d_M_lend_56 rfl (zl hl rfl) ?_
            refine lv_iconst (v := 1) hx hb d_M_lend_57 (by decide) ?_
            have hD0 := hD
            refine z_iast hx hb hK hP hD hS 0 (PM_6 hM) rfl t rfl (by omega) (by decide) d_M_lend_58 (fun ws H locs hP hD hS u_7 => ?_)
            have hF := zfrM_tr hF (zfrM_up hD0 (PM_6 hM) rfl u_7)
            have hM := PM_wa hM 6 (by decide) (by decide) (by decide) rfl u_7
            refine lv_aload_n hx hb d_M_lend_59 rfl (zl hl rfl) ?_
            refine z_get (C := R_M) (T := F_M) (N := 15) (v := .ref (ad 8)) hx hb hts inT_M hown hK hP (PM_o hM) rfl 11 (by decide) tw_584 (fun _ h => h) rfl d_M_lend_60 ?_
            refine lv_iload_n hx hb d_M_lend_63 rfl (zl hl rfl) ?_
            refine lv_iload_n hx hb d_M_lend_64 rfl (zl hl rfl) ?_
            have hD0 := hD
            refine z_iast hx hb hK hP hD hS 0 (PM_8 hM) rfl t rfl (by omega) (by decide) d_M_lend_65 (fun ws H locs hP hD hS u_8 => ?_)
            have hF := zfrM_tr hF (zfrM_up hD0 (PM_8 hM) rfl u_8)
            have hM := PM_wa hM 8 (by decide) (by decide) (by decide) rfl u_8
            refine lv_aload_n hx hb d_M_lend_66 rfl (zl hl rfl) ?_
            refine z_get (C := R_M) (T := F_M) (N := 15) (v := .ref (ad 9)) hx hb hts inT_M hown hK hP (PM_o hM) rfl 12 (by decide) tw_585 (fun _ h => h) rfl d_M_lend_67 ?_
            refine lv_iload_n hx hb d_M_lend_70 rfl (zl hl rfl) ?_
            refine lv_aload_n hx hb d_M_lend_71 rfl (zl hl rfl) ?_
            refine z_get (C := R_M) (T := F_M) (N := 15) (v := .int tok) hx hb hts inT_M hown hK hP (PM_o hM) rfl 3 (by decide) tw_576 (fun _ h => h) rfl d_M_lend_72 ?_
            have hD0 := hD
            refine z_iast hx hb hK hP hD hS 0 (PM_9 hM) rfl t rfl (by omega) (by decide) d_M_lend_75 (fun ws H locs hP hD hS u_9 => ?_)
            have hF := zfrM_tr hF (zfrM_up hD0 (PM_9 hM) rfl u_9)
            have hM := PM_wa hM 9 (by decide) (by decide) (by decide) rfl u_9
            refine lv_aload_n hx hb d_M_lend_76 rfl (zl hl rfl) ?_
            refine lv_dup hx hb d_M_lend_77 rfl ?_
            refine z_get (C := R_M) (T := F_M) (N := 15) (v := .int tok) hx hb hts inT_M hown hK hP (PM_o hM) rfl 3 (by decide) tw_576 (fun _ h => h) rfl d_M_lend_78 ?_
            refine lv_iconst (v := 1) hx hb d_M_lend_81 (by decide) ?_
            refine lv_iadd hx hb d_M_lend_82 ?_
            have hD0 := hD
            refine z_put (C := R_M) (T := F_M) (N := 15) (v := .int (tok + 1)) hx hb hts inT_M ft_M ft_M_ok fn_M hown hK hP hD hS (PM_o hM) rfl 3 (by decide) tw_576 (fun _ h => h) rfl rfl rfl (by simp) d_M_lend_83 (fun ws H locs hP hD hS u_10 => ?_)
            have hF := zfrM_tr hF (zfrM_up hD0 (PM_o hM) rfl u_10)
            have hM := PM_wo (thr' := 0) (time' := time) (n' := n) (tok' := tok + 1) hM u_10
            refine lv_aload_n hx hb d_M_lend_86 rfl (zl hl rfl) ?_
            refine z_get (C := R_M) (T := F_M) (N := 15) (v := .ref (ad 5)) hx hb hts inT_M hown hK hP (PM_o hM) rfl 8 (by decide) tw_581 (fun _ h => h) rfl d_M_lend_87 ?_
            refine lv_iload_n hx hb d_M_lend_90 rfl (zl hl rfl) ?_
            refine lv_dup2_11 hx hb d_M_lend_91 rfl rfl ?_
            refine z_iald hx hb hK hP 0 (PM_5 hM) rfl t rfl (by omega) (by decide) d_M_lend_92 ?_
            refine lv_iconst (v := 1) hx hb d_M_lend_93 (by decide) ?_
            refine lv_iadd hx hb d_M_lend_94 ?_
            have hD0 := hD
            refine z_iast hx hb hK hP hD hS 0 (PM_5 hM) rfl t rfl (by omega) (by decide) d_M_lend_95 (fun ws H locs hP hD hS u_11 => ?_)
            have hF := zfrM_tr hF (zfrM_up hD0 (PM_5 hM) rfl u_11)
            have hM := PM_wa hM 5 (by decide) (by decide) (by decide) rfl u_11
            refine lv_aload_n hx hb d_M_lend_96 rfl (zl hl rfl) ?_
            refine z_get (C := R_M) (T := F_M) (N := 15) (v := .ref (ad 7)) hx hb hts inT_M hown hK hP (PM_o hM) rfl 10 (by decide) tw_583 (fun _ h => h) rfl d_M_lend_97 ?_
            refine lv_iload_n hx hb d_M_lend_100 rfl (zl hl rfl) ?_
            refine lv_aload_n hx hb d_M_lend_101 rfl (zl hl rfl) ?_
            refine z_get (C := R_M) (T := F_M) (N := 15) (v := .int time) hx hb hts inT_M hown hK hP (PM_o hM) rfl 1 (by decide) tw_574 (fun _ h => h) rfl d_M_lend_102 ?_
            refine lv_aload_n hx hb d_M_lend_105 rfl (zl hl rfl) ?_
            refine z_get (C := R_M) (T := F_M) (N := 15) (v := .ref (ad 10)) hx hb hts inT_M hown hK hP (PM_o hM) rfl 13 (by decide) tw_586 (fun _ h => h) rfl d_M_lend_106 ?_
            refine lv_bipush (v := 6) hx hb d_M_lend_109 (by decide) ?_
            refine lv_iload_n hx hb d_M_lend_111 rfl (zl hl rfl) ?_
            refine lv_imul hx hb d_M_lend_112 ?_
            refine z_iald hx hb hK hP 0 (PM_10 hM) rfl (6 * qi) (z_idx0 qi) (by omega) (by decide) d_M_lend_113 ?_
            refine lv_iadd hx hb d_M_lend_114 ?_
            have hD0 := hD
            refine z_iast hx hb hK hP hD hS 0 (PM_7 hM) rfl t rfl (by omega) (by decide) d_M_lend_115 (fun ws H locs hP hD hS u_12 => ?_)
            have hF := zfrM_tr hF (zfrM_up hD0 (PM_7 hM) rfl u_12)
            have hM := PM_wa hM 7 (by decide) (by decide) (by decide) rfl u_12
            refine lv_aload_n hx hb d_M_lend_116 rfl (zl hl rfl) ?_
            refine z_get (C := R_M) (T := F_M) (N := 15) (v := .ref (ad 9)) hx hb hts inT_M hown hK hP (PM_o hM) rfl 12 (by decide) tw_585 (fun _ h => h) rfl d_M_lend_117 ?_
            refine lv_iload_n hx hb d_M_lend_120 rfl (zl hl rfl) ?_
            refine z_iald hx hb hK hP 0 (PM_9 hM) rfl t rfl (by omega) (by decide) d_M_lend_121 ?_
            exact z_iretR hx hb hr hlocks hP hD hS (by first | (simp [rLend, cLend, oLend, *]; done) | (simp [rLend, cLend, oLend, va_up, upd, *]; done)) (⟨by first | (simp only [tLend, mLend, cLend, oLend, *, reduceIte, Bool.true_and, Bool.false_and, Bool.and_false, Bool.and_true, Bool.false_eq_true, Bool.or_true, Bool.true_or, Bool.or_false, Bool.false_or, decide_true, decide_false, Option.isNone_none, Option.isNone_some, Bool.not_true, Bool.not_false, ite_self]; done) | (simp only [tLend, mLend, cLend, oLend, *, reduceIte, Bool.true_and, Bool.false_and, Bool.and_false, Bool.and_true, Bool.false_eq_true, Bool.or_true, Bool.true_or, Bool.or_false, Bool.false_or, decide_true, decide_false, Option.isNone_none, Option.isNone_some, Bool.not_true, Bool.not_false, ite_self]; exact hM), hF⟩) d_M_lend_122
          · refine lv_iconst (v := (-1)) hx hb d_M_lend_50 (by decide) ?_
            exact z_iretR hx hb hr hlocks hP hD hS (by first | (simp [rLend, cLend, oLend, *]; done) | (simp [rLend, cLend, oLend, va_up, upd, *]; done)) (⟨by first | (simp only [tLend, mLend, cLend, oLend, *, reduceIte, Bool.true_and, Bool.false_and, Bool.and_false, Bool.and_true, Bool.false_eq_true, Bool.or_true, Bool.true_or, Bool.or_false, Bool.false_or, decide_true, decide_false, Option.isNone_none, Option.isNone_some, Bool.not_true, Bool.not_false, ite_self]; done) | (simp only [tLend, mLend, cLend, oLend, *, reduceIte, Bool.true_and, Bool.false_and, Bool.and_false, Bool.and_true, Bool.false_eq_true, Bool.or_true, Bool.true_or, Bool.or_false, Bool.false_or, decide_true, decide_false, Option.isNone_none, Option.isNone_some, Bool.not_true, Bool.not_false, ite_self]; exact hM), hF⟩) d_M_lend_51
    · have b2 := zb_f c_2
      refine lv_aload_n hx hb d_M_lend_19 rfl (zl hl rfl) ?_
      refine lv_iconst (v := 1) hx hb d_M_lend_20 (by decide) ?_
      refine z_call (va_runV (As := [.int 1]) (rest := []) ⟨hx, hb, hml, hown, hts⟩ (c_M_raise l hP hM hD 1) (cwV 1 hts (tt_V tw_635 tw_632 tw_634 tw_15 tw_36) rfl rfl rfl (by decide +kernel) ⟨Nat.le_of_ble_eq_true rfl, Nat.le_of_ble_eq_true rfl⟩) (zPc_V hKN hP (ci := 4) (q := (R_M, F_M, 15)) rfl (PM_o hM)) rfl rfl hl.1 rfl (lv_room (Nat.le_of_ble_eq_true rfl)) d_M_lend_21 ⟨Nat.le_of_ble_eq_true rfl, Nat.le_of_ble_eq_true rfl⟩) hS (fun ws H locs hR hP hD hz hS => ?_)
      have hF := zfrM_tr hF hR.2
      have hM := hR.1
      clear hR
      exact z_iretR hx hb hr hlocks hP hD hS (by first | (simp [rLend, cLend, oLend, *]; done) | (simp [rLend, cLend, oLend, va_up, upd, *]; done)) (⟨by first | (simp only [tLend, mLend, cLend, oLend, *, reduceIte, Bool.true_and, Bool.false_and, Bool.and_false, Bool.and_true, Bool.false_eq_true, Bool.or_true, Bool.true_or, Bool.or_false, Bool.false_or, decide_true, decide_false, Option.isNone_none, Option.isNone_some, Bool.not_true, Bool.not_false, ite_self]; done) | (simp only [tLend, mLend, cLend, oLend, *, reduceIte, Bool.true_and, Bool.false_and, Bool.and_false, Bool.and_true, Bool.false_eq_true, Bool.or_true, Bool.true_or, Bool.or_false, Bool.false_or, decide_true, decide_false, Option.isNone_none, Option.isNone_some, Bool.not_true, Bool.not_false, ite_self]; exact hM), hF⟩) d_M_lend_24
set_option maxHeartbeats 4000000 in
set_option maxRecDepth 100000 in
theorem c_M_add (l : Launch) {D : va_G} {ws : va_W} {H : Heap} (hP : va_P D vwCl ws H) {kk : Nat → ClassId} {ad : Nat → Nat} {thr time tok : Int32} {n : Nat} {f : Nat → Nat → Int32} {ky : Nat → Int64} (hM : PM kk ad thr time n tok f ky ws)  {B : Nat} (hD : va_D (fun q => B ≤ q) ws) (q r g : Int32) (kv : Int64) (delay : Int32) (hn : n ≤ 400) : Met l y_M_add (Cond.code y_M_add b_M_add 9 (some .int) :: TT) ({ frames := 3, cells := 0, slots := 0, locals := 120 }) (zPc [.ref (ad 0), .int q, .int r, .int g, .long kv, .int delay] H D vwCl (TY kk)) (zR D vwCl B (some (.int (rAdd f ky time n q r g kv delay))) (fun ws' => PM kk ad (xAdd f ky time n q r g kv delay) time (if cNew f ky time n q r g kv delay = true then n + 1 else n) tok (if cNew f ky time n q r g kv delay = true then mAdd f n q r g time delay else f) (if cNew f ky time n q r g kv delay = true then vp_updL ky n kv else ky) ws' ∧ zfrM ws ws')) 0 0 (fun q => B ≤ q) := by
  refine z_body (by decide) (Nat.le_of_ble_eq_true rfl) ?_
  intro p e s m below meth c ls C0 hH hKN hl
  obtain ⟨hx, hb, hr, hts, hown, hlocks, hml⟩ := C0
  subst hH
  have hK := hKN.1
  have hN := hKN.2
  have hS : va_S (fun q => B ≤ q) s.heap s.heap [] := va_S.rf
  have hF : zfrM ws ws := zfrM_rf
  have hl : lv_has ls 9 [(0, .ref (ad 0)), (1, .int q), (2, .int r), (3, .int g), (4, .long kv), (6, .int delay)] := hl
  refine lv_iload_n hx hb d_M_add_0 rfl (zl hl rfl) ?_
  refine lv_iconst (v := 0) hx hb d_M_add_1 (by decide) ?_
  refine lv_iconst (v := 3) hx hb d_M_add_2 (by decide) ?_
  refine z_calli (va_runS (As := [.int q, .int 0, .int 3]) (rest := []) ⟨hx, hb, hml, hown, hts⟩ (c_M_within l hP q 0 3) (va_cwS 3 hts (tt_S tw_631 tw_629 tw_630 tw_36) rfl rfl rfl (by decide +kernel) ⟨Nat.le_of_ble_eq_true rfl, Nat.le_of_ble_eq_true rfl⟩) (zPc_S hKN) rfl rfl hl.1 rfl (lv_room (Nat.le_of_ble_eq_true rfl)) d_M_add_3 ⟨Nat.zero_le _, Nat.zero_le _⟩) hS (fun locs hS => ?_)
  refine lv_if_eq (tgt := 40) hx hb d_M_add_6 (by decide) (fun c_1 => ?_) (fun c_1 => ?_)
  · have b1 := zb_f c_1
    refine lv_aload_n hx hb d_M_add_40 rfl (zl hl rfl) ?_
    refine lv_iconst (v := 1) hx hb d_M_add_41 (by decide) ?_
    refine z_call (va_runV (As := [.int 1]) (rest := []) ⟨hx, hb, hml, hown, hts⟩ (c_M_raise l hP hM hD 1) (cwV 1 hts (tt_V tw_635 tw_632 tw_634 tw_15 tw_36) rfl rfl rfl (by decide +kernel) ⟨Nat.le_of_ble_eq_true rfl, Nat.le_of_ble_eq_true rfl⟩) (zPc_V hKN hP (ci := 4) (q := (R_M, F_M, 15)) rfl (PM_o hM)) rfl rfl hl.1 rfl (lv_room (Nat.le_of_ble_eq_true rfl)) d_M_add_42 ⟨Nat.le_of_ble_eq_true rfl, Nat.le_of_ble_eq_true rfl⟩) hS (fun ws H locs hR hP hD hz hS => ?_)
    have hF := zfrM_tr hF hR.2
    have hM := hR.1
    clear hR
    exact z_iretR hx hb hr hlocks hP hD hS (by simp [rAdd, cAdd, oAdd, fullA, *]) (⟨by first | (simp only [xAdd, cNew, cAdd, oAdd, fullA, *, reduceIte, Bool.true_and, Bool.false_and, Bool.and_false, Bool.and_true, Bool.false_eq_true, Bool.or_true, Bool.true_or, Bool.or_false, Bool.false_or, decide_true, decide_false, Option.isNone_none, Option.isNone_some, Bool.not_true, Bool.not_false, ite_self]; done) | (simp only [xAdd, cNew, cAdd, oAdd, fullA, *, reduceIte, Bool.true_and, Bool.false_and, Bool.and_false, Bool.and_true, Bool.false_eq_true, Bool.or_true, Bool.true_or, Bool.or_false, Bool.false_or, decide_true, decide_false, Option.isNone_none, Option.isNone_some, Bool.not_true, Bool.not_false, ite_self]; exact hM), hF⟩) d_M_add_45
  · have b1 := zb_t c_1
    obtain ⟨qi, hqi, rfl⟩ := sWithin_nI (h := 3) (by decide) b1
    have htq : tx (nI qi) = qi := tx_nI (by omega)
    refine lv_iload_n hx hb d_M_add_9 rfl (zl hl rfl) ?_
    refine lv_iconst (v := 0) hx hb d_M_add_10 (by decide) ?_
    refine lv_iconst (v := 3) hx hb d_M_add_11 (by decide) ?_
    refine z_calli (va_runS (As := [.int r, .int 0, .int 3]) (rest := []) ⟨hx, hb, hml, hown, hts⟩ (c_M_within l hP r 0 3) (va_cwS 3 hts (tt_S tw_631 tw_629 tw_630 tw_36) rfl rfl rfl (by decide +kernel) ⟨Nat.le_of_ble_eq_true rfl, Nat.le_of_ble_eq_true rfl⟩) (zPc_S hKN) rfl rfl hl.1 rfl (lv_room (Nat.le_of_ble_eq_true rfl)) d_M_add_12 ⟨Nat.zero_le _, Nat.zero_le _⟩) hS (fun locs hS => ?_)
    refine lv_if_eq (tgt := 40) hx hb d_M_add_15 (by decide) (fun c_2 => ?_) (fun c_2 => ?_)
    · have b2 := zb_f c_2
      refine lv_aload_n hx hb d_M_add_40 rfl (zl hl rfl) ?_
      refine lv_iconst (v := 1) hx hb d_M_add_41 (by decide) ?_
      refine z_call (va_runV (As := [.int 1]) (rest := []) ⟨hx, hb, hml, hown, hts⟩ (c_M_raise l hP hM hD 1) (cwV 1 hts (tt_V tw_635 tw_632 tw_634 tw_15 tw_36) rfl rfl rfl (by decide +kernel) ⟨Nat.le_of_ble_eq_true rfl, Nat.le_of_ble_eq_true rfl⟩) (zPc_V hKN hP (ci := 4) (q := (R_M, F_M, 15)) rfl (PM_o hM)) rfl rfl hl.1 rfl (lv_room (Nat.le_of_ble_eq_true rfl)) d_M_add_42 ⟨Nat.le_of_ble_eq_true rfl, Nat.le_of_ble_eq_true rfl⟩) hS (fun ws H locs hR hP hD hz hS => ?_)
      have hF := zfrM_tr hF hR.2
      have hM := hR.1
      clear hR
      exact z_iretR hx hb hr hlocks hP hD hS (by simp [rAdd, cAdd, oAdd, fullA, *]) (⟨by first | (simp only [xAdd, cNew, cAdd, oAdd, fullA, *, reduceIte, Bool.true_and, Bool.false_and, Bool.and_false, Bool.and_true, Bool.false_eq_true, Bool.or_true, Bool.true_or, Bool.or_false, Bool.false_or, decide_true, decide_false, Option.isNone_none, Option.isNone_some, Bool.not_true, Bool.not_false, ite_self]; done) | (simp only [xAdd, cNew, cAdd, oAdd, fullA, *, reduceIte, Bool.true_and, Bool.false_and, Bool.and_false, Bool.and_true, Bool.false_eq_true, Bool.or_true, Bool.true_or, Bool.or_false, Bool.false_or, decide_true, decide_false, Option.isNone_none, Option.isNone_some, Bool.not_true, Bool.not_false, ite_self]; exact hM), hF⟩) d_M_add_45
    · have b2 := zb_t c_2
      refine lv_iload_n hx hb d_M_add_18 rfl (zl hl rfl) ?_
      refine lv_iconst (v := (-1)) hx hb d_M_add_19 (by decide) ?_
      refine lv_bipush (v := 7) hx hb d_M_add_20 (by decide) ?_
      refine z_calli (va_runS (As := [.int g, .int (-1), .int 7]) (rest := []) ⟨hx, hb, hml, hown, hts⟩ (c_M_within l hP g (-1) 7) (va_cwS 3 hts (tt_S tw_631 tw_629 tw_630 tw_36) rfl rfl rfl (by decide +kernel) ⟨Nat.le_of_ble_eq_true rfl, Nat.le_of_ble_eq_true rfl⟩) (zPc_S hKN) rfl rfl hl.1 rfl (lv_room (Nat.le_of_ble_eq_true rfl)) d_M_add_22 ⟨Nat.zero_le _, Nat.zero_le _⟩) hS (fun locs hS => ?_)
      refine lv_if_eq (tgt := 40) hx hb d_M_add_25 (by decide) (fun c_3 => ?_) (fun c_3 => ?_)
      · have b3 := zb_f c_3
        refine lv_aload_n hx hb d_M_add_40 rfl (zl hl rfl) ?_
        refine lv_iconst (v := 1) hx hb d_M_add_41 (by decide) ?_
        refine z_call (va_runV (As := [.int 1]) (rest := []) ⟨hx, hb, hml, hown, hts⟩ (c_M_raise l hP hM hD 1) (cwV 1 hts (tt_V tw_635 tw_632 tw_634 tw_15 tw_36) rfl rfl rfl (by decide +kernel) ⟨Nat.le_of_ble_eq_true rfl, Nat.le_of_ble_eq_true rfl⟩) (zPc_V hKN hP (ci := 4) (q := (R_M, F_M, 15)) rfl (PM_o hM)) rfl rfl hl.1 rfl (lv_room (Nat.le_of_ble_eq_true rfl)) d_M_add_42 ⟨Nat.le_of_ble_eq_true rfl, Nat.le_of_ble_eq_true rfl⟩) hS (fun ws H locs hR hP hD hz hS => ?_)
        have hF := zfrM_tr hF hR.2
        have hM := hR.1
        clear hR
        exact z_iretR hx hb hr hlocks hP hD hS (by simp [rAdd, cAdd, oAdd, fullA, *]) (⟨by first | (simp only [xAdd, cNew, cAdd, oAdd, fullA, *, reduceIte, Bool.true_and, Bool.false_and, Bool.and_false, Bool.and_true, Bool.false_eq_true, Bool.or_true, Bool.true_or, Bool.or_false, Bool.false_or, decide_true, decide_false, Option.isNone_none, Option.isNone_some, Bool.not_true, Bool.not_false, ite_self]; done) | (simp only [xAdd, cNew, cAdd, oAdd, fullA, *, reduceIte, Bool.true_and, Bool.false_and, Bool.and_false, Bool.and_true, Bool.false_eq_true, Bool.or_true, Bool.true_or, Bool.or_false, Bool.false_or, decide_true, decide_false, Option.isNone_none, Option.isNone_some, Bool.not_true, Bool.not_false, ite_self]; exact hM), hF⟩) d_M_add_45
      · have b3 := zb_t c_3
        refine lv_iload hx hb d_M_add_28 (zl hl rfl) ?_
        refine lv_iconst (v := 0) hx hb d_M_add_30 (by decide) ?_
        refine lv_sipush (v := 1000) hx hb d_M_add_31 (by decide) ?_
        refine z_calli (va_runS (As := [.int delay, .int 0, .int 1000]) (rest := []) ⟨hx, hb, hml, hown, hts⟩ (c_M_within l hP delay 0 1000) (va_cwS 3 hts (tt_S tw_631 tw_629 tw_630 tw_36) rfl rfl rfl (by decide +kernel) ⟨Nat.le_of_ble_eq_true rfl, Nat.le_of_ble_eq_true rfl⟩) (zPc_S hKN) rfl rfl hl.1 rfl (lv_room (Nat.le_of_ble_eq_true rfl)) d_M_add_34 ⟨Nat.zero_le _, Nat.zero_le _⟩) hS (fun locs hS => ?_)
        refine lv_if_ne (tgt := 46) hx hb d_M_add_37 (by decide) (fun c_4 => ?_) (fun c_4 => ?_)
        · have b4 := zb_t c_4
          refine lv_aload_n hx hb d_M_add_46 rfl (zl hl rfl) ?_
          refine lv_iload_n hx hb d_M_add_47 rfl (zl hl rfl) ?_
          refine lv_lload hx hb d_M_add_48 (zl hl rfl) ?_
          refine z_calli (va_runV (As := [.int (nI qi), .long kv]) (rest := []) ⟨hx, hb, hml, hown, hts⟩ (c_M_found l hP hM qi (by omega) kv hn) (cwV 2 hts (tt_V tw_639 tw_636 tw_638 tw_16 tw_36) rfl rfl rfl (by decide +kernel) ⟨Nat.le_of_ble_eq_true rfl, Nat.le_of_ble_eq_true rfl⟩) (zPc_V hKN hP (ci := 4) (q := (R_M, F_M, 15)) rfl (PM_o hM)) rfl rfl hl.1 rfl (lv_room (Nat.le_of_ble_eq_true rfl)) d_M_add_50 ⟨Nat.zero_le _, Nat.zero_le _⟩) hS (fun locs hS => ?_)
          rcases ho : lstD (pKey f ky time qi kv) n with _ | t
          · have hm1 : True := trivial
            refine lv_istore (lv' := [(7, .int (-1)), (0, .ref (ad 0)), (1, .int (nI qi)), (2, .int r), (3, .int g), (4, .long kv), (6, .int delay)]) hx hb d_M_add_53 hl (by decide) rfl (fun ls hl => ?_)
            refine lv_aload_n hx hb d_M_add_55 rfl (zl hl rfl) ?_
            refine lv_iload hx hb d_M_add_56 (zl hl rfl) ?_
            refine lv_iconst (v := (-1)) hx hb d_M_add_58 (by decide) ?_
            refine lv_icmp_ne (tgt := 85) hx hb d_M_add_59 (by decide) (fun c_5 => ?_) (fun c_5 => ?_)
            · exact absurd rfl c_5
            · refine lv_aload_n hx hb d_M_add_62 rfl (zl hl rfl) ?_
              refine z_calli (va_runV (As := []) (rest := [.ref (ad 0)]) ⟨hx, hb, hml, hown, hts⟩ (c_M_lives l hP hM hn) (cwV 0 hts (tt_V tw_647 tw_644 tw_646 tw_18 tw_36) rfl rfl rfl (by decide +kernel) ⟨Nat.le_of_ble_eq_true rfl, Nat.le_of_ble_eq_true rfl⟩) (zPc_V hKN hP (ci := 4) (q := (R_M, F_M, 15)) rfl (PM_o hM)) rfl rfl hl.1 rfl (lv_room (Nat.le_of_ble_eq_true rfl)) d_M_add_63 ⟨Nat.zero_le _, Nat.zero_le _⟩) hS (fun locs hS => ?_)
              refine lv_bipush (v := 64) hx hb d_M_add_66 (by decide) ?_
              refine lv_icmp_eq (tgt := 81) hx hb d_M_add_68 (by decide) (fun c_6 => ?_) (fun c_6 => ?_)
              · refine lv_iconst (v := 2) hx hb d_M_add_81 (by decide) ?_
                refine lv_goto (tgt := 86) hx hb d_M_add_82 (by decide) ?_
                have hD0 := hD
                refine z_put (C := R_M) (T := F_M) (N := 15) (v := .int 2) hx hb hts inT_M ft_M ft_M_ok fn_M hown hK hP hD hS (PM_o hM) rfl 0 (by decide) tw_573 (fun _ h => h) rfl rfl rfl (by simp) d_M_add_86 (fun ws H locs hP hD hS u_7 => ?_)
                have hF := zfrM_tr hF (zfrM_up hD0 (PM_o hM) rfl u_7)
                have hM := PM_wo (thr' := 2) (time' := time) (n' := n) (tok' := tok) hM u_7
                refine lv_aload_n hx hb d_M_add_89 rfl (zl hl rfl) ?_
                refine z_get (C := R_M) (T := F_M) (N := 15) (v := .int 2) hx hb hts inT_M hown hK hP (PM_o hM) rfl 0 (by decide) tw_573 (fun _ h => h) rfl d_M_add_90 ?_
                refine lv_if_le (tgt := 98) hx hb d_M_add_93 (by decide) (fun c_8 => ?_) (fun c_8 => ?_)
                · exact absurd c_8 (by decide)
                · refine lv_iconst (v := 0) hx hb d_M_add_96 (by decide) ?_
                  exact z_iretR hx hb hr hlocks hP hD hS (by simp [rAdd, cAdd, oAdd, fullA, *]) (⟨by first | (simp only [xAdd, cNew, cAdd, oAdd, fullA, *, reduceIte, Bool.true_and, Bool.false_and, Bool.and_false, Bool.and_true, Bool.false_eq_true, Bool.or_true, Bool.true_or, Bool.or_false, Bool.false_or, decide_true, decide_false, Option.isNone_none, Option.isNone_some, Bool.not_true, Bool.not_false, ite_self]; done) | (simp only [xAdd, cNew, cAdd, oAdd, fullA, *, reduceIte, Bool.true_and, Bool.false_and, Bool.and_false, Bool.and_true, Bool.false_eq_true, Bool.or_true, Bool.true_or, Bool.or_false, Bool.false_or, decide_true, decide_false, Option.isNone_none, Option.isNone_some, Bool.not_true, Bool.not_false, ite_self]; exact hM), hF⟩) d_M_add_97
              · refine lv_aload_n hx hb d_M_add_71 rfl (zl hl rfl) ?_
                refine z_get (C := R_M) (T := F_M) (N := 15) (v := .int (nI n)) hx hb hts inT_M hown hK hP (PM_o hM) rfl 2 (by decide) tw_575 (fun _ h => h) rfl d_M_add_72 ?_
                refine lv_sipush (v := 400) hx hb d_M_add_75 (by decide) ?_
                refine lv_icmp_ne (tgt := 85) hx hb d_M_add_78 (by decide) (fun c_9 => ?_) (fun c_9 => ?_)
                · have hlt : n < 400 := by
                    rcases Nat.lt_or_ge n 400 with q | q
                    · exact q
                    · exact absurd (congrArg nI (show n = 400 by omega)) c_9
                  refine lv_iconst (v := 0) hx hb d_M_add_85 (by decide) ?_
                  have hD0 := hD
                  refine z_put (C := R_M) (T := F_M) (N := 15) (v := .int 0) hx hb hts inT_M ft_M ft_M_ok fn_M hown hK hP hD hS (PM_o hM) rfl 0 (by decide) tw_573 (fun _ h => h) rfl rfl rfl (by simp) d_M_add_86 (fun ws H locs hP hD hS u_10 => ?_)
                  have hF := zfrM_tr hF (zfrM_up hD0 (PM_o hM) rfl u_10)
                  have hM := PM_wo (thr' := 0) (time' := time) (n' := n) (tok' := tok) hM u_10
                  refine lv_aload_n hx hb d_M_add_89 rfl (zl hl rfl) ?_
                  refine z_get (C := R_M) (T := F_M) (N := 15) (v := .int 0) hx hb hts inT_M hown hK hP (PM_o hM) rfl 0 (by decide) tw_573 (fun _ h => h) rfl d_M_add_90 ?_
                  refine lv_if_le (tgt := 98) hx hb d_M_add_93 (by decide) (fun c_11 => ?_) (fun c_11 => ?_)
                  · refine lv_iload hx hb d_M_add_98 (zl hl rfl) ?_
                    refine lv_iconst (v := (-1)) hx hb d_M_add_100 (by decide) ?_
                    refine lv_icmp_eq (tgt := 107) hx hb d_M_add_101 (by decide) (fun c_12 => ?_) (fun c_12 => ?_)
                    · refine lv_aload_n hx hb d_M_add_107 rfl (zl hl rfl) ?_
                      refine z_get (C := R_M) (T := F_M) (N := 15) (v := .int (nI n)) hx hb hts inT_M hown hK hP (PM_o hM) rfl 2 (by decide) tw_575 (fun _ h => h) rfl d_M_add_108 ?_
                      refine lv_istore (lv' := [(8, .int (nI n)), (7, .int (-1)), (0, .ref (ad 0)), (1, .int (nI qi)), (2, .int r), (3, .int g), (4, .long kv), (6, .int delay)]) hx hb d_M_add_111 hl (by decide) rfl (fun ls hl => ?_)
                      refine lv_aload_n hx hb d_M_add_113 rfl (zl hl rfl) ?_
                      refine lv_dup hx hb d_M_add_114 rfl ?_
                      refine z_get (C := R_M) (T := F_M) (N := 15) (v := .int (nI n)) hx hb hts inT_M hown hK hP (PM_o hM) rfl 2 (by decide) tw_575 (fun _ h => h) rfl d_M_add_115 ?_
                      refine lv_iconst (v := 1) hx hb d_M_add_118 (by decide) ?_
                      refine lv_iadd hx hb d_M_add_119 ?_
                      refine z_top (y := nI (n + 1)) (nI_1 n) ?_
                      have hD0 := hD
                      refine z_put (C := R_M) (T := F_M) (N := 15) (v := .int (nI (n + 1))) hx hb hts inT_M ft_M ft_M_ok fn_M hown hK hP hD hS (PM_o hM) rfl 2 (by decide) tw_575 (fun _ h => h) rfl rfl rfl (by simp) d_M_add_120 (fun ws H locs hP hD hS u_13 => ?_)
                      have hF := zfrM_tr hF (zfrM_up hD0 (PM_o hM) rfl u_13)
                      have hM := PM_wo (thr' := 0) (time' := time) (n' := (n + 1)) (tok' := tok) hM u_13
                      refine lv_aload_n hx hb d_M_add_123 rfl (zl hl rfl) ?_
                      refine z_get (C := R_M) (T := F_M) (N := 15) (v := .ref (ad 1)) hx hb hts inT_M hown hK hP (PM_o hM) rfl 4 (by decide) tw_577 (fun _ h => h) rfl d_M_add_124 ?_
                      refine lv_iload hx hb d_M_add_127 (zl hl rfl) ?_
                      refine lv_iload_n hx hb d_M_add_129 rfl (zl hl rfl) ?_
                      have hD0 := hD
                      refine z_iast hx hb hK hP hD hS 0 (PM_1 hM) rfl n rfl (by omega) (by decide) d_M_add_130 (fun ws H locs hP hD hS u_14 => ?_)
                      have hF := zfrM_tr hF (zfrM_up hD0 (PM_1 hM) rfl u_14)
                      have hM := PM_wa hM 1 (by decide) (by decide) (by decide) rfl u_14
                      refine lv_aload_n hx hb d_M_add_131 rfl (zl hl rfl) ?_
                      refine z_get (C := R_M) (T := F_M) (N := 15) (v := .ref (ad 2)) hx hb hts inT_M hown hK hP (PM_o hM) rfl 5 (by decide) tw_578 (fun _ h => h) rfl d_M_add_132 ?_
                      refine lv_iload hx hb d_M_add_135 (zl hl rfl) ?_
                      refine lv_iload_n hx hb d_M_add_137 rfl (zl hl rfl) ?_
                      have hD0 := hD
                      refine z_iast hx hb hK hP hD hS 0 (PM_2 hM) rfl n rfl (by omega) (by decide) d_M_add_138 (fun ws H locs hP hD hS u_15 => ?_)
                      have hF := zfrM_tr hF (zfrM_up hD0 (PM_2 hM) rfl u_15)
                      have hM := PM_wa hM 2 (by decide) (by decide) (by decide) rfl u_15
                      refine lv_aload_n hx hb d_M_add_139 rfl (zl hl rfl) ?_
                      refine z_get (C := R_M) (T := F_M) (N := 15) (v := .ref (ad 3)) hx hb hts inT_M hown hK hP (PM_o hM) rfl 6 (by decide) tw_579 (fun _ h => h) rfl d_M_add_140 ?_
                      refine lv_iload hx hb d_M_add_143 (zl hl rfl) ?_
                      refine lv_iload_n hx hb d_M_add_145 rfl (zl hl rfl) ?_
                      have hD0 := hD
                      refine z_iast hx hb hK hP hD hS 0 (PM_3 hM) rfl n rfl (by omega) (by decide) d_M_add_146 (fun ws H locs hP hD hS u_16 => ?_)
                      have hF := zfrM_tr hF (zfrM_up hD0 (PM_3 hM) rfl u_16)
                      have hM := PM_wa hM 3 (by decide) (by decide) (by decide) rfl u_16
                      refine lv_aload_n hx hb d_M_add_147 rfl (zl hl rfl) ?_
                      refine z_get (C := R_M) (T := F_M) (N := 15) (v := .ref (ad 4)) hx hb hts inT_M hown hK hP (PM_o hM) rfl 7 (by decide) tw_580 (fun _ h => h) rfl d_M_add_148 ?_
                      refine lv_iload hx hb d_M_add_151 (zl hl rfl) ?_
                      refine lv_lload hx hb d_M_add_153 (zl hl rfl) ?_
                      have hD0 := hD
                      refine z_last hx hb hK hP hD hS 1 (PM_4 hM) rfl n rfl (by omega) (by decide) d_M_add_155 (fun ws H locs hP hD hS u_17 => ?_)
                      have hF := zfrM_tr hF (zfrM_up hD0 (PM_4 hM) rfl u_17)
                      have hM := PM_wk hM u_17
                      refine lv_aload_n hx hb d_M_add_156 rfl (zl hl rfl) ?_
                      refine z_get (C := R_M) (T := F_M) (N := 15) (v := .ref (ad 5)) hx hb hts inT_M hown hK hP (PM_o hM) rfl 8 (by decide) tw_581 (fun _ h => h) rfl d_M_add_157 ?_
                      refine lv_iload hx hb d_M_add_160 (zl hl rfl) ?_
                      refine lv_iconst (v := 0) hx hb d_M_add_162 (by decide) ?_
                      have hD0 := hD
                      refine z_iast hx hb hK hP hD hS 0 (PM_5 hM) rfl n rfl (by omega) (by decide) d_M_add_163 (fun ws H locs hP hD hS u_18 => ?_)
                      have hF := zfrM_tr hF (zfrM_up hD0 (PM_5 hM) rfl u_18)
                      have hM := PM_wa hM 5 (by decide) (by decide) (by decide) rfl u_18
                      refine lv_aload_n hx hb d_M_add_164 rfl (zl hl rfl) ?_
                      refine z_get (C := R_M) (T := F_M) (N := 15) (v := .ref (ad 6)) hx hb hts inT_M hown hK hP (PM_o hM) rfl 9 (by decide) tw_582 (fun _ h => h) rfl d_M_add_165 ?_
                      refine lv_iload hx hb d_M_add_168 (zl hl rfl) ?_
                      refine lv_iconst (v := 0) hx hb d_M_add_170 (by decide) ?_
                      have hD0 := hD
                      refine z_iast hx hb hK hP hD hS 0 (PM_6 hM) rfl n rfl (by omega) (by decide) d_M_add_171 (fun ws H locs hP hD hS u_19 => ?_)
                      have hF := zfrM_tr hF (zfrM_up hD0 (PM_6 hM) rfl u_19)
                      have hM := PM_wa hM 6 (by decide) (by decide) (by decide) rfl u_19
                      refine lv_aload_n hx hb d_M_add_172 rfl (zl hl rfl) ?_
                      refine z_get (C := R_M) (T := F_M) (N := 15) (v := .ref (ad 7)) hx hb hts inT_M hown hK hP (PM_o hM) rfl 10 (by decide) tw_583 (fun _ h => h) rfl d_M_add_173 ?_
                      refine lv_iload hx hb d_M_add_176 (zl hl rfl) ?_
                      refine lv_aload_n hx hb d_M_add_178 rfl (zl hl rfl) ?_
                      refine z_get (C := R_M) (T := F_M) (N := 15) (v := .int time) hx hb hts inT_M hown hK hP (PM_o hM) rfl 1 (by decide) tw_574 (fun _ h => h) rfl d_M_add_179 ?_
                      refine lv_iload hx hb d_M_add_182 (zl hl rfl) ?_
                      refine lv_iadd hx hb d_M_add_184 ?_
                      have hD0 := hD
                      refine z_iast hx hb hK hP hD hS 0 (PM_7 hM) rfl n rfl (by omega) (by decide) d_M_add_185 (fun ws H locs hP hD hS u_20 => ?_)
                      have hF := zfrM_tr hF (zfrM_up hD0 (PM_7 hM) rfl u_20)
                      have hM := PM_wa hM 7 (by decide) (by decide) (by decide) rfl u_20
                      refine lv_iload hx hb d_M_add_186 (zl hl rfl) ?_
                      exact z_iretR hx hb hr hlocks hP hD hS (by simp [rAdd, cAdd, oAdd, fullA, *]) (⟨by first | (simp only [xAdd, cNew, cAdd, oAdd, fullA, *, reduceIte, Bool.true_and, Bool.false_and, Bool.and_false, Bool.and_true, Bool.false_eq_true, Bool.or_true, Bool.true_or, Bool.or_false, Bool.false_or, decide_true, decide_false, Option.isNone_none, Option.isNone_some, Bool.not_true, Bool.not_false, ite_self]; done) | (simp only [xAdd, cNew, cAdd, oAdd, fullA, *, reduceIte, Bool.true_and, Bool.false_and, Bool.and_false, Bool.and_true, Bool.false_eq_true, Bool.or_true, Bool.true_or, Bool.or_false, Bool.false_or, decide_true, decide_false, Option.isNone_none, Option.isNone_some, Bool.not_true, Bool.not_false, ite_self]; exact hM), hF⟩) d_M_add_188
                    · exact absurd rfl c_12
                  · exact absurd (by decide) c_11
                · refine lv_iconst (v := 2) hx hb d_M_add_81 (by decide) ?_
                  refine lv_goto (tgt := 86) hx hb d_M_add_82 (by decide) ?_
                  have hD0 := hD
                  refine z_put (C := R_M) (T := F_M) (N := 15) (v := .int 2) hx hb hts inT_M ft_M ft_M_ok fn_M hown hK hP hD hS (PM_o hM) rfl 0 (by decide) tw_573 (fun _ h => h) rfl rfl rfl (by simp) d_M_add_86 (fun ws H locs hP hD hS u_21 => ?_)
                  have hF := zfrM_tr hF (zfrM_up hD0 (PM_o hM) rfl u_21)
                  have hM := PM_wo (thr' := 2) (time' := time) (n' := n) (tok' := tok) hM u_21
                  refine lv_aload_n hx hb d_M_add_89 rfl (zl hl rfl) ?_
                  refine z_get (C := R_M) (T := F_M) (N := 15) (v := .int 2) hx hb hts inT_M hown hK hP (PM_o hM) rfl 0 (by decide) tw_573 (fun _ h => h) rfl d_M_add_90 ?_
                  refine lv_if_le (tgt := 98) hx hb d_M_add_93 (by decide) (fun c_22 => ?_) (fun c_22 => ?_)
                  · exact absurd c_22 (by decide)
                  · refine lv_iconst (v := 0) hx hb d_M_add_96 (by decide) ?_
                    exact z_iretR hx hb hr hlocks hP hD hS (by simp [rAdd, cAdd, oAdd, fullA, *]) (⟨by first | (simp only [xAdd, cNew, cAdd, oAdd, fullA, *, reduceIte, Bool.true_and, Bool.false_and, Bool.and_false, Bool.and_true, Bool.false_eq_true, Bool.or_true, Bool.true_or, Bool.or_false, Bool.false_or, decide_true, decide_false, Option.isNone_none, Option.isNone_some, Bool.not_true, Bool.not_false, ite_self]; done) | (simp only [xAdd, cNew, cAdd, oAdd, fullA, *, reduceIte, Bool.true_and, Bool.false_and, Bool.and_false, Bool.and_true, Bool.false_eq_true, Bool.or_true, Bool.true_or, Bool.or_false, Bool.false_or, decide_true, decide_false, Option.isNone_none, Option.isNone_some, Bool.not_true, Bool.not_false, ite_self]; exact hM), hF⟩) d_M_add_97
          · have hto := lstD_some ho
            refine lv_istore (lv' := [(7, .int (nI t)), (0, .ref (ad 0)), (1, .int (nI qi)), (2, .int r), (3, .int g), (4, .long kv), (6, .int delay)]) hx hb d_M_add_53 hl (by decide) rfl (fun ls hl => ?_)
            refine lv_aload_n hx hb d_M_add_55 rfl (zl hl rfl) ?_
            refine lv_iload hx hb d_M_add_56 (zl hl rfl) ?_
            refine lv_iconst (v := (-1)) hx hb d_M_add_58 (by decide) ?_
            refine lv_icmp_ne (tgt := 85) hx hb d_M_add_59 (by decide) (fun c_23 => ?_) (fun c_23 => ?_)
            · refine lv_iconst (v := 0) hx hb d_M_add_85 (by decide) ?_
              have hD0 := hD
              refine z_put (C := R_M) (T := F_M) (N := 15) (v := .int 0) hx hb hts inT_M ft_M ft_M_ok fn_M hown hK hP hD hS (PM_o hM) rfl 0 (by decide) tw_573 (fun _ h => h) rfl rfl rfl (by simp) d_M_add_86 (fun ws H locs hP hD hS u_24 => ?_)
              have hF := zfrM_tr hF (zfrM_up hD0 (PM_o hM) rfl u_24)
              have hM := PM_wo (thr' := 0) (time' := time) (n' := n) (tok' := tok) hM u_24
              refine lv_aload_n hx hb d_M_add_89 rfl (zl hl rfl) ?_
              refine z_get (C := R_M) (T := F_M) (N := 15) (v := .int 0) hx hb hts inT_M hown hK hP (PM_o hM) rfl 0 (by decide) tw_573 (fun _ h => h) rfl d_M_add_90 ?_
              refine lv_if_le (tgt := 98) hx hb d_M_add_93 (by decide) (fun c_25 => ?_) (fun c_25 => ?_)
              · refine lv_iload hx hb d_M_add_98 (zl hl rfl) ?_
                refine lv_iconst (v := (-1)) hx hb d_M_add_100 (by decide) ?_
                refine lv_icmp_eq (tgt := 107) hx hb d_M_add_101 (by decide) (fun c_26 => ?_) (fun c_26 => ?_)
                · exact absurd c_26 (nI_m1 (by omega))
                · refine lv_iload hx hb d_M_add_104 (zl hl rfl) ?_
                  exact z_iretR hx hb hr hlocks hP hD hS (by simp [rAdd, cAdd, oAdd, fullA, *]) (⟨by first | (simp only [xAdd, cNew, cAdd, oAdd, fullA, *, reduceIte, Bool.true_and, Bool.false_and, Bool.and_false, Bool.and_true, Bool.false_eq_true, Bool.or_true, Bool.true_or, Bool.or_false, Bool.false_or, decide_true, decide_false, Option.isNone_none, Option.isNone_some, Bool.not_true, Bool.not_false, ite_self]; done) | (simp only [xAdd, cNew, cAdd, oAdd, fullA, *, reduceIte, Bool.true_and, Bool.false_and, Bool.and_false, Bool.and_true, Bool.false_eq_true, Bool.or_true, Bool.true_or, Bool.or_false, Bool.false_or, decide_true, decide_false, Option.isNone_none, Option.isNone_some, Bool.not_true, Bool.not_false, ite_self]; exact hM), hF⟩) d_M_add_106
              · exact absurd (by decide) c_25
            · exact absurd c_23 (nI_m1 (by omega))
        · have b4 := zb_f c_4
          refine lv_aload_n hx hb d_M_add_40 rfl (zl hl rfl) ?_
          refine lv_iconst (v := 1) hx hb d_M_add_41 (by decide) ?_
          refine z_call (va_runV (As := [.int 1]) (rest := []) ⟨hx, hb, hml, hown, hts⟩ (c_M_raise l hP hM hD 1) (cwV 1 hts (tt_V tw_635 tw_632 tw_634 tw_15 tw_36) rfl rfl rfl (by decide +kernel) ⟨Nat.le_of_ble_eq_true rfl, Nat.le_of_ble_eq_true rfl⟩) (zPc_V hKN hP (ci := 4) (q := (R_M, F_M, 15)) rfl (PM_o hM)) rfl rfl hl.1 rfl (lv_room (Nat.le_of_ble_eq_true rfl)) d_M_add_42 ⟨Nat.le_of_ble_eq_true rfl, Nat.le_of_ble_eq_true rfl⟩) hS (fun ws H locs hR hP hD hz hS => ?_)
          have hF := zfrM_tr hF hR.2
          have hM := hR.1
          clear hR
          exact z_iretR hx hb hr hlocks hP hD hS (by simp [rAdd, cAdd, oAdd, fullA, *]) (⟨by first | (simp only [xAdd, cNew, cAdd, oAdd, fullA, *, reduceIte, Bool.true_and, Bool.false_and, Bool.and_false, Bool.and_true, Bool.false_eq_true, Bool.or_true, Bool.true_or, Bool.or_false, Bool.false_or, decide_true, decide_false, Option.isNone_none, Option.isNone_some, Bool.not_true, Bool.not_false, ite_self]; done) | (simp only [xAdd, cNew, cAdd, oAdd, fullA, *, reduceIte, Bool.true_and, Bool.false_and, Bool.and_false, Bool.and_true, Bool.false_eq_true, Bool.or_true, Bool.true_or, Bool.or_false, Bool.false_or, decide_true, decide_false, Option.isNone_none, Option.isNone_some, Bool.not_true, Bool.not_false, ite_self]; exact hM), hF⟩) d_M_add_45
set_option maxHeartbeats 4000000 in
set_option maxRecDepth 100000 in
theorem c_M_again (l : Launch) {D : va_G} {ws : va_W} {H : Heap} (hP : va_P D vwCl ws H) {kk : Nat → ClassId} {ad : Nat → Nat} {thr time tok : Int32} {n : Nat} {f : Nat → Nat → Int32} {ky : Nat → Int64} (hM : PM kk ad thr time n tok f ky ws)  {B : Nat} (hD : va_D (fun q => B ≤ q) ws) (t : Nat) (ht : t < 400) (hq : f 1 t = nI (qx f t)) (hq2 : qx f t < 4) (tr : Nat) (htr : f 5 t = nI tr) (htr1 : 1 ≤ tr) (htr2 : tr < 2 ^ 30) : Met l y_M_again (Cond.code y_M_again b_M_again 5 none :: TT) ({ frames := 1, cells := 0, slots := 0, locals := 40 }) (zPc [.ref (ad 0), .int (nI t)] H D vwCl (TY kk)) (zR D vwCl B none (fun ws' => PM kk ad thr time n tok (mAgain f time t) ky ws' ∧ zfrM ws ws')) 0 0 (fun q => B ≤ q) := by
  refine z_body (by decide) (Nat.le_of_ble_eq_true rfl) ?_
  intro p e s m below meth c ls C0 hH hKN hl
  obtain ⟨hx, hb, hr, hts, hown, hlocks, hml⟩ := C0
  subst hH
  have hK := hKN.1
  have hN := hKN.2
  have hS : va_S (fun q => B ≤ q) s.heap s.heap [] := va_S.rf
  have hF : zfrM ws ws := zfrM_rf
  have hl : lv_has ls 5 [(0, .ref (ad 0)), (1, .int (nI t))] := hl
  refine lv_bipush (v := 6) hx hb d_M_again_0 (by decide) ?_
  refine lv_aload_n hx hb d_M_again_2 rfl (zl hl rfl) ?_
  refine z_get (C := R_M) (T := F_M) (N := 15) (v := .ref (ad 1)) hx hb hts inT_M hown hK hP (PM_o hM) rfl 4 (by decide) tw_577 (fun _ h => h) rfl d_M_again_3 ?_
  refine lv_iload_n hx hb d_M_again_6 rfl (zl hl rfl) ?_
  refine z_iald hx hb hK hP 0 (PM_1 hM) rfl t rfl (by omega) (by decide) d_M_again_7 ?_
  refine lv_imul hx hb d_M_again_8 ?_
  refine z_top (y := nI (6 * qx f t)) (by rw [hq]; exact z_idx0 (qx f t)) ?_
  refine lv_istore_n (lv' := [(2, .int (nI (6 * qx f t))), (0, .ref (ad 0)), (1, .int (nI t))]) hx hb d_M_again_9 rfl hl (by decide) rfl (fun ls hl => ?_)
  refine lv_aload_n hx hb d_M_again_10 rfl (zl hl rfl) ?_
  refine z_get (C := R_M) (T := F_M) (N := 15) (v := .ref (ad 5)) hx hb hts inT_M hown hK hP (PM_o hM) rfl 8 (by decide) tw_581 (fun _ h => h) rfl d_M_again_11 ?_
  refine lv_iload_n hx hb d_M_again_14 rfl (zl hl rfl) ?_
  refine z_iald hx hb hK hP 0 (PM_5 hM) rfl t rfl (by omega) (by decide) d_M_again_15 ?_
  refine lv_aload_n hx hb d_M_again_16 rfl (zl hl rfl) ?_
  refine z_get (C := R_M) (T := F_M) (N := 15) (v := .ref (ad 10)) hx hb hts inT_M hown hK hP (PM_o hM) rfl 13 (by decide) tw_586 (fun _ h => h) rfl d_M_again_17 ?_
  refine lv_iload_n hx hb d_M_again_20 rfl (zl hl rfl) ?_
  refine lv_iconst (v := 1) hx hb d_M_again_21 (by decide) ?_
  refine lv_iadd hx hb d_M_again_22 ?_
  refine z_iald hx hb hK hP 0 (PM_10 hM) rfl (6 * qx f t + 1) (nI_add (6 * qx f t) 1) (by omega) (by decide) d_M_again_23 ?_
  refine lv_icmp_lt (tgt := 35) hx hb d_M_again_24 (by decide) (fun c_1 => ?_) (fun c_1 => ?_)
  · have hlt9 := c_1
    refine lv_aload_n hx hb d_M_again_35 rfl (zl hl rfl) ?_
    refine z_get (C := R_M) (T := F_M) (N := 15) (v := .ref (ad 10)) hx hb hts inT_M hown hK hP (PM_o hM) rfl 13 (by decide) tw_586 (fun _ h => h) rfl d_M_again_36 ?_
    refine lv_iload_n hx hb d_M_again_39 rfl (zl hl rfl) ?_
    refine lv_iconst (v := 2) hx hb d_M_again_40 (by decide) ?_
    refine lv_iadd hx hb d_M_again_41 ?_
    refine z_iald hx hb hK hP 0 (PM_10 hM) rfl (6 * qx f t + 2) (nI_add (6 * qx f t) 2) (by omega) (by decide) d_M_again_42 ?_
    refine lv_istore_n (lv' := [(3, .int (f 10 (6 * qx f t + 2))), (2, .int (nI (6 * qx f t))), (0, .ref (ad 0)), (1, .int (nI t))]) hx hb d_M_again_43 rfl hl (by decide) rfl (fun ls hl => ?_)
    refine lv_iconst (v := 1) hx hb d_M_again_44 (by decide) ?_
    refine lv_istore (lv' := [(4, .int 1), (3, .int (f 10 (6 * qx f t + 2))), (2, .int (nI (6 * qx f t))), (0, .ref (ad 0)), (1, .int (nI t))]) hx hb d_M_again_45 hl (by decide) rfl (fun ls hl => ?_)
    have key : ∀ (x j : Nat) (w : Int32) (ls : Array Slot), j + x = tr → mWait f t = dwl (f 10 (6 * qx f t + 3)) x w → lv_has ls 5 [(0, .ref (ad 0)), (1, .int (nI t)), (2, .int (nI (6 * qx f t))), (3, .int w), (4, .int (nI j))] → W p l e ({ frames := 1, cells := 0, slots := 0, locals := 40 }) s m ([.ref (ad 0), .int (nI t)] : List Value).toArray below meth c s.heap [] 0 0 (MQ below (zR D vwCl B none (fun ws' => PM kk ad thr time n tok (mAgain f time t) ky ws' ∧ zfrM ws ws')) ([.ref (ad 0), .int (nI t)] : List Value).toArray s 0 0 (fun q => B ≤ q)) (F0 m 47 ls []) := by
      intro x
      induction x with
      | zero =>
        intro j w ls hj hw hl
        have hw : mWait f t = w := hw
        refine lv_iload hx hb d_M_again_47 (zl hl rfl) ?_
        refine lv_aload_n hx hb d_M_again_49 rfl (zl hl rfl) ?_
        refine z_get (C := R_M) (T := F_M) (N := 15) (v := .ref (ad 5)) hx hb hts inT_M hown hK hP (PM_o hM) rfl 8 (by decide) tw_581 (fun _ h => h) rfl d_M_again_50 ?_
        refine lv_iload_n hx hb d_M_again_53 rfl (zl hl rfl) ?_
        refine z_iald hx hb hK hP 0 (PM_5 hM) rfl t rfl (by omega) (by decide) d_M_again_54 ?_
        refine lv_icmp_ge (tgt := 80) hx hb d_M_again_55 (by decide) (fun c_1 => ?_) (fun c_1 => ?_)
        · have hwe : mWait f t = w := hw
          refine lv_aload_n hx hb d_M_again_80 rfl (zl hl rfl) ?_
          refine z_get (C := R_M) (T := F_M) (N := 15) (v := .ref (ad 6)) hx hb hts inT_M hown hK hP (PM_o hM) rfl 9 (by decide) tw_582 (fun _ h => h) rfl d_M_again_81 ?_
          refine lv_iload_n hx hb d_M_again_84 rfl (zl hl rfl) ?_
          refine lv_iconst (v := 0) hx hb d_M_again_85 (by decide) ?_
          have hD0 := hD
          refine z_iast hx hb hK hP hD hS 0 (PM_6 hM) rfl t rfl (by omega) (by decide) d_M_again_86 (fun ws H locs hP hD hS u_2 => ?_)
          have hF := zfrM_tr hF (zfrM_up hD0 (PM_6 hM) rfl u_2)
          have hM := PM_wa hM 6 (by decide) (by decide) (by decide) rfl u_2
          refine lv_aload_n hx hb d_M_again_87 rfl (zl hl rfl) ?_
          refine z_get (C := R_M) (T := F_M) (N := 15) (v := .ref (ad 7)) hx hb hts inT_M hown hK hP (PM_o hM) rfl 10 (by decide) tw_583 (fun _ h => h) rfl d_M_again_88 ?_
          refine lv_iload_n hx hb d_M_again_91 rfl (zl hl rfl) ?_
          refine lv_aload_n hx hb d_M_again_92 rfl (zl hl rfl) ?_
          refine z_get (C := R_M) (T := F_M) (N := 15) (v := .int time) hx hb hts inT_M hown hK hP (PM_o hM) rfl 1 (by decide) tw_574 (fun _ h => h) rfl d_M_again_93 ?_
          refine lv_iload_n hx hb d_M_again_96 rfl (zl hl rfl) ?_
          refine lv_aload_n hx hb d_M_again_97 rfl (zl hl rfl) ?_
          refine z_get (C := R_M) (T := F_M) (N := 15) (v := .ref (ad 10)) hx hb hts inT_M hown hK hP (PM_o hM) rfl 13 (by decide) tw_586 (fun _ h => h) rfl d_M_again_98 ?_
          refine lv_iload_n hx hb d_M_again_101 rfl (zl hl rfl) ?_
          refine lv_iconst (v := 3) hx hb d_M_again_102 (by decide) ?_
          refine lv_iadd hx hb d_M_again_103 ?_
          refine z_iald hx hb hK hP 0 (PM_10 hM) rfl (6 * qx f t + 3) (nI_add (6 * qx f t) 3) (by omega) (by decide) d_M_again_104 ?_
          refine lv_icmp_ge (tgt := 112) hx hb d_M_again_105 (by decide) (fun c_3 => ?_) (fun c_3 => ?_)
          · have b8 := zle_nlt c_3
            refine lv_aload_n hx hb d_M_again_112 rfl (zl hl rfl) ?_
            refine z_get (C := R_M) (T := F_M) (N := 15) (v := .ref (ad 10)) hx hb hts inT_M hown hK hP (PM_o hM) rfl 13 (by decide) tw_586 (fun _ h => h) rfl d_M_again_113 ?_
            refine lv_iload_n hx hb d_M_again_116 rfl (zl hl rfl) ?_
            refine lv_iconst (v := 3) hx hb d_M_again_117 (by decide) ?_
            refine lv_iadd hx hb d_M_again_118 ?_
            refine z_iald hx hb hK hP 0 (PM_10 hM) rfl (6 * qx f t + 3) (nI_add (6 * qx f t) 3) (by omega) (by decide) d_M_again_119 ?_
            refine lv_iadd hx hb d_M_again_120 ?_
            have hD0 := hD
            refine z_iast hx hb hK hP hD hS 0 (PM_7 hM) rfl t rfl (by omega) (by decide) d_M_again_121 (fun ws H locs hP hD hS u_4 => ?_)
            have hF := zfrM_tr hF (zfrM_up hD0 (PM_7 hM) rfl u_4)
            have hM := PM_wa hM 7 (by decide) (by decide) (by decide) rfl u_4
            exact z_vretR hx hb hr hlocks hP hD hS (⟨by first | (rw [mAgain_1 hlt9 hwe b8]; exact hM) | (rw [mAgain_2 hlt9 hwe b8]; exact hM), hF⟩) d_M_again_122
          · have b8 := znle_lt c_3
            refine lv_iload_n hx hb d_M_again_108 rfl (zl hl rfl) ?_
            refine lv_goto (tgt := 120) hx hb d_M_again_109 (by decide) ?_
            refine lv_iadd hx hb d_M_again_120 ?_
            have hD0 := hD
            refine z_iast hx hb hK hP hD hS 0 (PM_7 hM) rfl t rfl (by omega) (by decide) d_M_again_121 (fun ws H locs hP hD hS u_5 => ?_)
            have hF := zfrM_tr hF (zfrM_up hD0 (PM_7 hM) rfl u_5)
            have hM := PM_wa hM 7 (by decide) (by decide) (by decide) rfl u_5
            exact z_vretR hx hb hr hlocks hP hD hS (⟨by first | (rw [mAgain_1 hlt9 hwe b8]; exact hM) | (rw [mAgain_2 hlt9 hwe b8]; exact hM), hF⟩) d_M_again_122
        · exact absurd (by rw [htr, show j = tr by omega]; exact Int32.le_refl _) c_1
      | succ x ih =>
        intro j w ls hj hw hl
        refine lv_iload hx hb d_M_again_47 (zl hl rfl) ?_
        refine lv_aload_n hx hb d_M_again_49 rfl (zl hl rfl) ?_
        refine z_get (C := R_M) (T := F_M) (N := 15) (v := .ref (ad 5)) hx hb hts inT_M hown hK hP (PM_o hM) rfl 8 (by decide) tw_581 (fun _ h => h) rfl d_M_again_50 ?_
        refine lv_iload_n hx hb d_M_again_53 rfl (zl hl rfl) ?_
        refine z_iald hx hb hK hP 0 (PM_5 hM) rfl t rfl (by omega) (by decide) d_M_again_54 ?_
        refine lv_icmp_ge (tgt := 80) hx hb d_M_again_55 (by decide) (fun c_1 => ?_) (fun c_1 => ?_)
        · exact absurd (by rw [htr] at c_1; exact c_1) (nI_ge (by omega) (by omega))
        · refine lv_iload_n hx hb d_M_again_58 rfl (zl hl rfl) ?_
          refine lv_aload_n hx hb d_M_again_59 rfl (zl hl rfl) ?_
          refine z_get (C := R_M) (T := F_M) (N := 15) (v := .ref (ad 10)) hx hb hts inT_M hown hK hP (PM_o hM) rfl 13 (by decide) tw_586 (fun _ h => h) rfl d_M_again_60 ?_
          refine lv_iload_n hx hb d_M_again_63 rfl (zl hl rfl) ?_
          refine lv_iconst (v := 3) hx hb d_M_again_64 (by decide) ?_
          refine lv_iadd hx hb d_M_again_65 ?_
          refine z_iald hx hb hK hP 0 (PM_10 hM) rfl (6 * qx f t + 3) (nI_add (6 * qx f t) 3) (by omega) (by decide) d_M_again_66 ?_
          refine lv_icmp_ge (tgt := 80) hx hb d_M_again_67 (by decide) (fun c_2 => ?_) (fun c_2 => ?_)
          · have b3 := zle_nlt c_2
            have hwe : mWait f t = w := by
              rw [hw]
              show (if w < f 10 (6 * qx f t + 3) then _ else _) = _
              rw [if_neg b3]
            refine lv_aload_n hx hb d_M_again_80 rfl (zl hl rfl) ?_
            refine z_get (C := R_M) (T := F_M) (N := 15) (v := .ref (ad 6)) hx hb hts inT_M hown hK hP (PM_o hM) rfl 9 (by decide) tw_582 (fun _ h => h) rfl d_M_again_81 ?_
            refine lv_iload_n hx hb d_M_again_84 rfl (zl hl rfl) ?_
            refine lv_iconst (v := 0) hx hb d_M_again_85 (by decide) ?_
            have hD0 := hD
            refine z_iast hx hb hK hP hD hS 0 (PM_6 hM) rfl t rfl (by omega) (by decide) d_M_again_86 (fun ws H locs hP hD hS u_3 => ?_)
            have hF := zfrM_tr hF (zfrM_up hD0 (PM_6 hM) rfl u_3)
            have hM := PM_wa hM 6 (by decide) (by decide) (by decide) rfl u_3
            refine lv_aload_n hx hb d_M_again_87 rfl (zl hl rfl) ?_
            refine z_get (C := R_M) (T := F_M) (N := 15) (v := .ref (ad 7)) hx hb hts inT_M hown hK hP (PM_o hM) rfl 10 (by decide) tw_583 (fun _ h => h) rfl d_M_again_88 ?_
            refine lv_iload_n hx hb d_M_again_91 rfl (zl hl rfl) ?_
            refine lv_aload_n hx hb d_M_again_92 rfl (zl hl rfl) ?_
            refine z_get (C := R_M) (T := F_M) (N := 15) (v := .int time) hx hb hts inT_M hown hK hP (PM_o hM) rfl 1 (by decide) tw_574 (fun _ h => h) rfl d_M_again_93 ?_
            refine lv_iload_n hx hb d_M_again_96 rfl (zl hl rfl) ?_
            refine lv_aload_n hx hb d_M_again_97 rfl (zl hl rfl) ?_
            refine z_get (C := R_M) (T := F_M) (N := 15) (v := .ref (ad 10)) hx hb hts inT_M hown hK hP (PM_o hM) rfl 13 (by decide) tw_586 (fun _ h => h) rfl d_M_again_98 ?_
            refine lv_iload_n hx hb d_M_again_101 rfl (zl hl rfl) ?_
            refine lv_iconst (v := 3) hx hb d_M_again_102 (by decide) ?_
            refine lv_iadd hx hb d_M_again_103 ?_
            refine z_iald hx hb hK hP 0 (PM_10 hM) rfl (6 * qx f t + 3) (nI_add (6 * qx f t) 3) (by omega) (by decide) d_M_again_104 ?_
            refine lv_icmp_ge (tgt := 112) hx hb d_M_again_105 (by decide) (fun c_4 => ?_) (fun c_4 => ?_)
            · have b8 := zle_nlt c_4
              refine lv_aload_n hx hb d_M_again_112 rfl (zl hl rfl) ?_
              refine z_get (C := R_M) (T := F_M) (N := 15) (v := .ref (ad 10)) hx hb hts inT_M hown hK hP (PM_o hM) rfl 13 (by decide) tw_586 (fun _ h => h) rfl d_M_again_113 ?_
              refine lv_iload_n hx hb d_M_again_116 rfl (zl hl rfl) ?_
              refine lv_iconst (v := 3) hx hb d_M_again_117 (by decide) ?_
              refine lv_iadd hx hb d_M_again_118 ?_
              refine z_iald hx hb hK hP 0 (PM_10 hM) rfl (6 * qx f t + 3) (nI_add (6 * qx f t) 3) (by omega) (by decide) d_M_again_119 ?_
              refine lv_iadd hx hb d_M_again_120 ?_
              have hD0 := hD
              refine z_iast hx hb hK hP hD hS 0 (PM_7 hM) rfl t rfl (by omega) (by decide) d_M_again_121 (fun ws H locs hP hD hS u_5 => ?_)
              have hF := zfrM_tr hF (zfrM_up hD0 (PM_7 hM) rfl u_5)
              have hM := PM_wa hM 7 (by decide) (by decide) (by decide) rfl u_5
              exact z_vretR hx hb hr hlocks hP hD hS (⟨by first | (rw [mAgain_1 hlt9 hwe b8]; exact hM) | (rw [mAgain_2 hlt9 hwe b8]; exact hM), hF⟩) d_M_again_122
            · have b8 := znle_lt c_4
              refine lv_iload_n hx hb d_M_again_108 rfl (zl hl rfl) ?_
              refine lv_goto (tgt := 120) hx hb d_M_again_109 (by decide) ?_
              refine lv_iadd hx hb d_M_again_120 ?_
              have hD0 := hD
              refine z_iast hx hb hK hP hD hS 0 (PM_7 hM) rfl t rfl (by omega) (by decide) d_M_again_121 (fun ws H locs hP hD hS u_6 => ?_)
              have hF := zfrM_tr hF (zfrM_up hD0 (PM_7 hM) rfl u_6)
              have hM := PM_wa hM 7 (by decide) (by decide) (by decide) rfl u_6
              exact z_vretR hx hb hr hlocks hP hD hS (⟨by first | (rw [mAgain_1 hlt9 hwe b8]; exact hM) | (rw [mAgain_2 hlt9 hwe b8]; exact hM), hF⟩) d_M_again_122
          · have b3 := znle_lt c_2
            refine lv_iload_n hx hb d_M_again_70 rfl (zl hl rfl) ?_
            refine lv_iconst (v := 2) hx hb d_M_again_71 (by decide) ?_
            refine lv_imul hx hb d_M_again_72 ?_
            refine lv_istore_n (lv' := [(3, .int (w * 2)), (0, .ref (ad 0)), (1, .int (nI t)), (2, .int (nI (6 * qx f t))), (4, .int (nI j))]) hx hb d_M_again_73 rfl hl (by decide) rfl (fun ls hl => ?_)
            refine lv_iinc (v := (nI (j + 1))) (lv' := [(4, .int (nI (j + 1))), (3, .int (w * 2)), (0, .ref (ad 0)), (1, .int (nI t)), (2, .int (nI (6 * qx f t)))]) hx hb d_M_again_74 hl (k := 4) rfl (nI_1 j) (by decide) rfl (fun ls hl => ?_)
            refine lv_goto (tgt := 47) hx hb d_M_again_77 (by decide) ?_
            exact ih (j + 1) (w * 2) ls (by omega) (by rw [hw]; show (if w < f 10 (6 * qx f t + 3) then _ else _) = _; rw [if_pos b3]) (lv_sub hl [2, 3, 4, 1, 0] rfl)
    exact key (tr - 1) 1 (f 10 (6 * qx f t + 2)) ls (by omega) (by unfold mWait; rw [htr, tx_nI (by omega)]) (lv_sub hl [3, 4, 2, 1, 0] rfl)
  · refine lv_aload_n hx hb d_M_again_27 rfl (zl hl rfl) ?_
    refine z_get (C := R_M) (T := F_M) (N := 15) (v := .ref (ad 6)) hx hb hts inT_M hown hK hP (PM_o hM) rfl 9 (by decide) tw_582 (fun _ h => h) rfl d_M_again_28 ?_
    refine lv_iload_n hx hb d_M_again_31 rfl (zl hl rfl) ?_
    refine lv_iconst (v := 3) hx hb d_M_again_32 (by decide) ?_
    have hD0 := hD
    refine z_iast hx hb hK hP hD hS 0 (PM_6 hM) rfl t rfl (by omega) (by decide) d_M_again_33 (fun ws H locs hP hD hS u_2 => ?_)
    have hF := zfrM_tr hF (zfrM_up hD0 (PM_6 hM) rfl u_2)
    have hM := PM_wa hM 6 (by decide) (by decide) (by decide) rfl u_2
    exact z_vretR hx hb hr hlocks hP hD hS (⟨by unfold mAgain; rw [if_neg (by assumption)]; exact hM, hF⟩) d_M_again_34
set_option maxHeartbeats 4000000 in
set_option maxRecDepth 100000 in
theorem c_M_end (l : Launch) {D : va_G} {ws : va_W} {H : Heap} (hP : va_P D vwCl ws H) {kk : Nat → ClassId} {ad : Nat → Nat} {thr time tok : Int32} {n : Nat} {f : Nat → Nat → Int32} {ky : Nat → Int64} (hM : PM kk ad thr time n tok f ky ws)  {B : Nat} (hD : va_D (fun q => B ≤ q) ws) (v how : Int32) (hn : n ≤ 400) (hq : okq f n) (htr : ∀ t, t < n → f 6 t = 1 → ∃ tr, 1 ≤ tr ∧ tr < 2 ^ 30 ∧ f 5 t = nI tr) : Met l y_M_end (Cond.code y_M_end b_M_end 4 (some .int) :: TT) ({ frames := 2, cells := 0, slots := 0, locals := 80 }) (zPc [.ref (ad 0), .int v, .int how] H D vwCl (TY kk)) (zR D vwCl B (some (.int (rEnd f n v how))) (fun ws' => PM kk ad (xEnd f n v how) time n tok (mEnd f time n v how) ky ws' ∧ zfrM ws ws')) 0 0 (fun q => B ≤ q) := by
  refine z_body (by decide) (Nat.le_of_ble_eq_true rfl) ?_
  intro p e s m below meth c ls C0 hH hKN hl
  obtain ⟨hx, hb, hr, hts, hown, hlocks, hml⟩ := C0
  subst hH
  have hK := hKN.1
  have hN := hKN.2
  have hS : va_S (fun q => B ≤ q) s.heap s.heap [] := va_S.rf
  have hF : zfrM ws ws := zfrM_rf
  have hl : lv_has ls 4 [(0, .ref (ad 0)), (1, .int v), (2, .int how)] := hl
  refine lv_aload_n hx hb d_M_end_0 rfl (zl hl rfl) ?_
  refine lv_iload_n hx hb d_M_end_1 rfl (zl hl rfl) ?_
  refine z_calli (va_runV (As := [.int v]) (rest := []) ⟨hx, hb, hml, hown, hts⟩ (c_M_lentWith l hP hM v hn) (cwV 1 hts (tt_V tw_679 tw_676 tw_678 tw_24 tw_36) rfl rfl rfl (by decide +kernel) ⟨Nat.le_of_ble_eq_true rfl, Nat.le_of_ble_eq_true rfl⟩) (zPc_V hKN hP (ci := 4) (q := (R_M, F_M, 15)) rfl (PM_o hM)) rfl rfl hl.1 rfl (lv_room (Nat.le_of_ble_eq_true rfl)) d_M_end_2 ⟨Nat.zero_le _, Nat.zero_le _⟩) hS (fun locs hS => ?_)
  rcases ho : fnd (pTok f v) 0 n with _ | t
  · have hm1 : True := trivial
    refine lv_istore_n (lv' := [(3, .int (-1)), (0, .ref (ad 0)), (1, .int v), (2, .int how)]) hx hb d_M_end_5 rfl hl (by decide) rfl (fun ls hl => ?_)
    refine lv_aload_n hx hb d_M_end_6 rfl (zl hl rfl) ?_
    refine lv_iload_n hx hb d_M_end_7 rfl (zl hl rfl) ?_
    refine lv_iconst (v := (-1)) hx hb d_M_end_8 (by decide) ?_
    refine lv_icmp_ne (tgt := 16) hx hb d_M_end_9 (by decide) (fun c_1 => ?_) (fun c_1 => ?_)
    · exact absurd rfl c_1
    · refine lv_iconst (v := 1) hx hb d_M_end_12 (by decide) ?_
      refine lv_goto (tgt := 30) hx hb d_M_end_13 (by decide) ?_
      have hD0 := hD
      refine z_put (C := R_M) (T := F_M) (N := 15) (v := .int 1) hx hb hts inT_M ft_M ft_M_ok fn_M hown hK hP hD hS (PM_o hM) rfl 0 (by decide) tw_573 (fun _ h => h) rfl rfl rfl (by simp) d_M_end_30 (fun ws H locs hP hD hS u_2 => ?_)
      have hF := zfrM_tr hF (zfrM_up hD0 (PM_o hM) rfl u_2)
      have hM := PM_wo (thr' := 1) (time' := time) (n' := n) (tok' := tok) hM u_2
      refine lv_aload_n hx hb d_M_end_33 rfl (zl hl rfl) ?_
      refine z_get (C := R_M) (T := F_M) (N := 15) (v := .int 1) hx hb hts inT_M hown hK hP (PM_o hM) rfl 0 (by decide) tw_573 (fun _ h => h) rfl d_M_end_34 ?_
      refine lv_if_le (tgt := 42) hx hb d_M_end_37 (by decide) (fun c_3 => ?_) (fun c_3 => ?_)
      · exact absurd c_3 (by decide)
      · refine lv_iconst (v := 0) hx hb d_M_end_40 (by decide) ?_
        exact z_iretR hx hb hr hlocks hP hD hS (by first | (simp only [rEnd, ho, b2, reduceIte]; done) | (simp [rEnd, *]; done)) (⟨by unfold xEnd mEnd mEnd1; first | (simp only [*, reduceIte]; done) | (simp only [*, reduceIte]; exact hM), hF⟩) d_M_end_41
  · have hto := fnd_some ho
    refine lv_istore_n (lv' := [(3, .int (nI t)), (0, .ref (ad 0)), (1, .int v), (2, .int how)]) hx hb d_M_end_5 rfl hl (by decide) rfl (fun ls hl => ?_)
    refine lv_aload_n hx hb d_M_end_6 rfl (zl hl rfl) ?_
    refine lv_iload_n hx hb d_M_end_7 rfl (zl hl rfl) ?_
    refine lv_iconst (v := (-1)) hx hb d_M_end_8 (by decide) ?_
    refine lv_icmp_ne (tgt := 16) hx hb d_M_end_9 (by decide) (fun c_4 => ?_) (fun c_4 => ?_)
    · refine lv_iload_n hx hb d_M_end_16 rfl (zl hl rfl) ?_
      refine lv_iconst (v := 0) hx hb d_M_end_17 (by decide) ?_
      refine lv_iconst (v := 2) hx hb d_M_end_18 (by decide) ?_
      refine z_calli (va_runS (As := [.int how, .int 0, .int 2]) (rest := [.ref (ad 0)]) ⟨hx, hb, hml, hown, hts⟩ (c_M_within l hP how 0 2) (va_cwS 3 hts (tt_S tw_631 tw_629 tw_630 tw_36) rfl rfl rfl (by decide +kernel) ⟨Nat.le_of_ble_eq_true rfl, Nat.le_of_ble_eq_true rfl⟩) (zPc_S hKN) rfl rfl hl.1 rfl (lv_room (Nat.le_of_ble_eq_true rfl)) d_M_end_19 ⟨Nat.zero_le _, Nat.zero_le _⟩) hS (fun locs hS => ?_)
      refine lv_if_ne (tgt := 29) hx hb d_M_end_22 (by decide) (fun c_5 => ?_) (fun c_5 => ?_)
      · have b2 := zb_t c_5
        refine lv_iconst (v := 0) hx hb d_M_end_29 (by decide) ?_
        have hD0 := hD
        refine z_put (C := R_M) (T := F_M) (N := 15) (v := .int 0) hx hb hts inT_M ft_M ft_M_ok fn_M hown hK hP hD hS (PM_o hM) rfl 0 (by decide) tw_573 (fun _ h => h) rfl rfl rfl (by simp) d_M_end_30 (fun ws H locs hP hD hS u_6 => ?_)
        have hF := zfrM_tr hF (zfrM_up hD0 (PM_o hM) rfl u_6)
        have hM := PM_wo (thr' := 0) (time' := time) (n' := n) (tok' := tok) hM u_6
        refine lv_aload_n hx hb d_M_end_33 rfl (zl hl rfl) ?_
        refine z_get (C := R_M) (T := F_M) (N := 15) (v := .int 0) hx hb hts inT_M hown hK hP (PM_o hM) rfl 0 (by decide) tw_573 (fun _ h => h) rfl d_M_end_34 ?_
        refine lv_if_le (tgt := 42) hx hb d_M_end_37 (by decide) (fun c_7 => ?_) (fun c_7 => ?_)
        · refine lv_iload_n hx hb d_M_end_42 rfl (zl hl rfl) ?_
          refine lv_iconst (v := 1) hx hb d_M_end_43 (by decide) ?_
          refine lv_icmp_ne (tgt := 54) hx hb d_M_end_44 (by decide) (fun c_8 => ?_) (fun c_8 => ?_)
          · refine lv_aload_n hx hb d_M_end_54 rfl (zl hl rfl) ?_
            refine z_get (C := R_M) (T := F_M) (N := 15) (v := .ref (ad 6)) hx hb hts inT_M hown hK hP (PM_o hM) rfl 9 (by decide) tw_582 (fun _ h => h) rfl d_M_end_55 ?_
            refine lv_iload_n hx hb d_M_end_58 rfl (zl hl rfl) ?_
            refine lv_iload_n hx hb d_M_end_59 rfl (zl hl rfl) ?_
            refine lv_if_ne (tgt := 67) hx hb d_M_end_60 (by decide) (fun c_9 => ?_) (fun c_9 => ?_)
            · refine lv_iconst (v := 0) hx hb d_M_end_67 (by decide) ?_
              have hD0 := hD
              refine z_iast hx hb hK hP hD hS 0 (PM_6 hM) rfl t rfl (by omega) (by decide) d_M_end_68 (fun ws H locs hP hD hS u_10 => ?_)
              have hF := zfrM_tr hF (zfrM_up hD0 (PM_6 hM) rfl u_10)
              have hM := PM_wa hM 6 (by decide) (by decide) (by decide) rfl u_10
              refine lv_aload_n hx hb d_M_end_69 rfl (zl hl rfl) ?_
              refine z_get (C := R_M) (T := F_M) (N := 15) (v := .ref (ad 7)) hx hb hts inT_M hown hK hP (PM_o hM) rfl 10 (by decide) tw_583 (fun _ h => h) rfl d_M_end_70 ?_
              refine lv_iload_n hx hb d_M_end_73 rfl (zl hl rfl) ?_
              refine lv_aload_n hx hb d_M_end_74 rfl (zl hl rfl) ?_
              refine z_get (C := R_M) (T := F_M) (N := 15) (v := .int time) hx hb hts inT_M hown hK hP (PM_o hM) rfl 1 (by decide) tw_574 (fun _ h => h) rfl d_M_end_75 ?_
              have hD0 := hD
              refine z_iast hx hb hK hP hD hS 0 (PM_7 hM) rfl t rfl (by omega) (by decide) d_M_end_78 (fun ws H locs hP hD hS u_11 => ?_)
              have hF := zfrM_tr hF (zfrM_up hD0 (PM_7 hM) rfl u_11)
              have hM := PM_wa hM 7 (by decide) (by decide) (by decide) rfl u_11
              refine lv_aload_n hx hb d_M_end_79 rfl (zl hl rfl) ?_
              refine z_get (C := R_M) (T := F_M) (N := 15) (v := .ref (ad 5)) hx hb hts inT_M hown hK hP (PM_o hM) rfl 8 (by decide) tw_581 (fun _ h => h) rfl d_M_end_80 ?_
              refine lv_iload_n hx hb d_M_end_83 rfl (zl hl rfl) ?_
              refine lv_dup2_11 hx hb d_M_end_84 rfl rfl ?_
              refine z_iald hx hb hK hP 0 (PM_5 hM) rfl t rfl (by omega) (by decide) d_M_end_85 ?_
              refine lv_iload_n hx hb d_M_end_86 rfl (zl hl rfl) ?_
              refine lv_iconst (v := 2) hx hb d_M_end_87 (by decide) ?_
              refine lv_icmp_ne (tgt := 95) hx hb d_M_end_88 (by decide) (fun c_12 => ?_) (fun c_12 => ?_)
              · refine lv_iconst (v := 0) hx hb d_M_end_95 (by decide) ?_
                refine lv_isub hx hb d_M_end_96 ?_
                have hD0 := hD
                refine z_iast hx hb hK hP hD hS 0 (PM_5 hM) rfl t rfl (by omega) (by decide) d_M_end_97 (fun ws H locs hP hD hS u_13 => ?_)
                have hF := zfrM_tr hF (zfrM_up hD0 (PM_5 hM) rfl u_13)
                have hM := PM_wa hM 5 (by decide) (by decide) (by decide) rfl u_13
                refine lv_iload_n hx hb d_M_end_98 rfl (zl hl rfl) ?_
                exact z_iretR hx hb hr hlocks hP hD hS (by first | (simp only [rEnd, ho, b2, reduceIte]; done) | (simp [rEnd, *]; done)) (⟨by unfold xEnd mEnd mEnd1; first | (simp only [*, reduceIte]; done) | (simp only [*, reduceIte]; exact hM), hF⟩) d_M_end_99
              · refine lv_iconst (v := 1) hx hb d_M_end_91 (by decide) ?_
                refine lv_goto (tgt := 96) hx hb d_M_end_92 (by decide) ?_
                refine lv_isub hx hb d_M_end_96 ?_
                have hD0 := hD
                refine z_iast hx hb hK hP hD hS 0 (PM_5 hM) rfl t rfl (by omega) (by decide) d_M_end_97 (fun ws H locs hP hD hS u_14 => ?_)
                have hF := zfrM_tr hF (zfrM_up hD0 (PM_5 hM) rfl u_14)
                have hM := PM_wa hM 5 (by decide) (by decide) (by decide) rfl u_14
                refine lv_iload_n hx hb d_M_end_98 rfl (zl hl rfl) ?_
                exact z_iretR hx hb hr hlocks hP hD hS (by first | (simp only [rEnd, ho, b2, reduceIte]; done) | (simp [rEnd, *]; done)) (⟨by unfold xEnd mEnd mEnd1; first | (simp only [*, reduceIte]; done) | (simp only [*, reduceIte]; exact hM), hF⟩) d_M_end_99
            · refine lv_iconst (v := 2) hx hb d_M_end_63 (by decide) ?_
              refine lv_goto (tgt := 68) hx hb d_M_end_64 (by decide) ?_
              have hD0 := hD
              refine z_iast hx hb hK hP hD hS 0 (PM_6 hM) rfl t rfl (by omega) (by decide) d_M_end_68 (fun ws H locs hP hD hS u_15 => ?_)
              have hF := zfrM_tr hF (zfrM_up hD0 (PM_6 hM) rfl u_15)
              have hM := PM_wa hM 6 (by decide) (by decide) (by decide) rfl u_15
              refine lv_aload_n hx hb d_M_end_69 rfl (zl hl rfl) ?_
              refine z_get (C := R_M) (T := F_M) (N := 15) (v := .ref (ad 7)) hx hb hts inT_M hown hK hP (PM_o hM) rfl 10 (by decide) tw_583 (fun _ h => h) rfl d_M_end_70 ?_
              refine lv_iload_n hx hb d_M_end_73 rfl (zl hl rfl) ?_
              refine lv_aload_n hx hb d_M_end_74 rfl (zl hl rfl) ?_
              refine z_get (C := R_M) (T := F_M) (N := 15) (v := .int time) hx hb hts inT_M hown hK hP (PM_o hM) rfl 1 (by decide) tw_574 (fun _ h => h) rfl d_M_end_75 ?_
              have hD0 := hD
              refine z_iast hx hb hK hP hD hS 0 (PM_7 hM) rfl t rfl (by omega) (by decide) d_M_end_78 (fun ws H locs hP hD hS u_16 => ?_)
              have hF := zfrM_tr hF (zfrM_up hD0 (PM_7 hM) rfl u_16)
              have hM := PM_wa hM 7 (by decide) (by decide) (by decide) rfl u_16
              refine lv_aload_n hx hb d_M_end_79 rfl (zl hl rfl) ?_
              refine z_get (C := R_M) (T := F_M) (N := 15) (v := .ref (ad 5)) hx hb hts inT_M hown hK hP (PM_o hM) rfl 8 (by decide) tw_581 (fun _ h => h) rfl d_M_end_80 ?_
              refine lv_iload_n hx hb d_M_end_83 rfl (zl hl rfl) ?_
              refine lv_dup2_11 hx hb d_M_end_84 rfl rfl ?_
              refine z_iald hx hb hK hP 0 (PM_5 hM) rfl t rfl (by omega) (by decide) d_M_end_85 ?_
              refine lv_iload_n hx hb d_M_end_86 rfl (zl hl rfl) ?_
              refine lv_iconst (v := 2) hx hb d_M_end_87 (by decide) ?_
              refine lv_icmp_ne (tgt := 95) hx hb d_M_end_88 (by decide) (fun c_17 => ?_) (fun c_17 => ?_)
              · refine lv_iconst (v := 0) hx hb d_M_end_95 (by decide) ?_
                refine lv_isub hx hb d_M_end_96 ?_
                have hD0 := hD
                refine z_iast hx hb hK hP hD hS 0 (PM_5 hM) rfl t rfl (by omega) (by decide) d_M_end_97 (fun ws H locs hP hD hS u_18 => ?_)
                have hF := zfrM_tr hF (zfrM_up hD0 (PM_5 hM) rfl u_18)
                have hM := PM_wa hM 5 (by decide) (by decide) (by decide) rfl u_18
                refine lv_iload_n hx hb d_M_end_98 rfl (zl hl rfl) ?_
                exact z_iretR hx hb hr hlocks hP hD hS (by first | (simp only [rEnd, ho, b2, reduceIte]; done) | (simp [rEnd, *]; done)) (⟨by unfold xEnd mEnd mEnd1; first | (simp only [*, reduceIte]; done) | (simp only [*, reduceIte]; exact hM), hF⟩) d_M_end_99
              · exact absurd (c_9.symm.trans c_17) (by decide)
          · refine lv_aload_n hx hb d_M_end_47 rfl (zl hl rfl) ?_
            refine lv_iload_n hx hb d_M_end_48 rfl (zl hl rfl) ?_
            obtain ⟨tr, q1, q2, q3⟩ := htr t (by omega) (by have := hto.2.2; simp only [pTok, Bool.and_eq_true, decide_eq_true_eq] at this; exact this.1)
            refine z_call (va_runV (As := [.int (nI t)]) (rest := []) ⟨hx, hb, hml, hown, hts⟩ (c_M_again l hP hM hD t (by omega) (hq t (by omega)).1 (hq t (by omega)).2 tr q3 q1 q2) (cwV 1 hts (tt_V tw_687 tw_684 tw_686 tw_25 tw_36) rfl rfl rfl (by decide +kernel) ⟨Nat.le_of_ble_eq_true rfl, Nat.le_of_ble_eq_true rfl⟩) (zPc_V hKN hP (ci := 4) (q := (R_M, F_M, 15)) rfl (PM_o hM)) rfl rfl hl.1 rfl (lv_room (Nat.le_of_ble_eq_true rfl)) d_M_end_49 ⟨Nat.le_of_ble_eq_true rfl, Nat.le_of_ble_eq_true rfl⟩) hS (fun ws H locs hR hP hD hz hS => ?_)
            have hF := zfrM_tr hF hR.2
            have hM := hR.1
            clear hR
            refine lv_iload_n hx hb d_M_end_52 rfl (zl hl rfl) ?_
            exact z_iretR hx hb hr hlocks hP hD hS (by first | (simp only [rEnd, ho, b2, reduceIte]; done) | (simp [rEnd, *]; done)) (⟨by unfold xEnd mEnd mEnd1; first | (simp only [*, reduceIte]; done) | (simp only [*, reduceIte]; exact hM), hF⟩) d_M_end_53
        · exact absurd (by decide) c_7
      · have b2 := zb_f c_5
        refine lv_iconst (v := 2) hx hb d_M_end_25 (by decide) ?_
        refine lv_goto (tgt := 30) hx hb d_M_end_26 (by decide) ?_
        have hD0 := hD
        refine z_put (C := R_M) (T := F_M) (N := 15) (v := .int 2) hx hb hts inT_M ft_M ft_M_ok fn_M hown hK hP hD hS (PM_o hM) rfl 0 (by decide) tw_573 (fun _ h => h) rfl rfl rfl (by simp) d_M_end_30 (fun ws H locs hP hD hS u_19 => ?_)
        have hF := zfrM_tr hF (zfrM_up hD0 (PM_o hM) rfl u_19)
        have hM := PM_wo (thr' := 2) (time' := time) (n' := n) (tok' := tok) hM u_19
        refine lv_aload_n hx hb d_M_end_33 rfl (zl hl rfl) ?_
        refine z_get (C := R_M) (T := F_M) (N := 15) (v := .int 2) hx hb hts inT_M hown hK hP (PM_o hM) rfl 0 (by decide) tw_573 (fun _ h => h) rfl d_M_end_34 ?_
        refine lv_if_le (tgt := 42) hx hb d_M_end_37 (by decide) (fun c_20 => ?_) (fun c_20 => ?_)
        · exact absurd c_20 (by decide)
        · refine lv_iconst (v := 0) hx hb d_M_end_40 (by decide) ?_
          exact z_iretR hx hb hr hlocks hP hD hS (by first | (simp only [rEnd, ho, b2, reduceIte]; done) | (simp [rEnd, *]; done)) (⟨by unfold xEnd mEnd mEnd1; first | (simp only [*, reduceIte]; done) | (simp only [*, reduceIte]; exact hM), hF⟩) d_M_end_41
    · exact absurd c_4 (nI_m1 (by omega))
