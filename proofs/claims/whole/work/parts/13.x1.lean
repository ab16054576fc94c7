def gNew (st new lent : Int32) : Int32 := if new = 1 then (if st = 1 then lent - 1 else lent) + 1 else (if st = 1 then lent - 1 else lent)
def zfrT (a : Nat) (ga : Option Nat) (ws ws' : va_W) : Prop := ∀ (b : Nat) (e : va_E), b ≠ a → ga ≠ some b → zin ws b e → zin ws' b e
theorem zfrT_rf {a : Nat} {ga : Option Nat} {ws : va_W} : zfrT a ga ws ws := fun _ _ _ _ h => h
theorem zfrT_tr {a : Nat} {ga : Option Nat} {ws w1 w2 : va_W} (h1 : zfrT a ga ws w1) (h2 : zfrT a ga w1 w2) : zfrT a ga ws w2 := fun b e n1 n2 hz => h2 b e n1 n2 (h1 b e n1 n2 hz)
theorem zfrT_a {a : Nat} {ga : Option Nat} {ws w1 w2 : va_W} {e0 : va_E} (h : zfrT a ga ws w1) (u : zupd w1 a e0 w2) : zfrT a ga ws w2 := fun b e n1 n2 hz => u.2 b e n1 (h b e n1 n2 hz)
theorem zfrT_g {a g : Nat} {ws w1 w2 : va_W} {e0 : va_E} (h : zfrT a (some g) ws w1) (u : zupd w1 g e0 w2) : zfrT a (some g) ws w2 := fun b e n1 n2 hz => u.2 b e (fun z => n2 (by rw [z])) (h b e n1 n2 hz)
theorem zfrT_q {A : Nat → Prop} {a : Nat} {ga : Option Nat} {ws w1 : va_W} (hD : va_D A ws) (h : zfrT a ga ws w1) {b : Nat} {e ea : va_E} (ha : zin ws a ea) (hg : ∀ g, ga = some g → ∃ x, zin ws g (.inr (0, x))) (hb : zin ws b e) (h1 : e ≠ ea) (h2 : ∀ x, e ≠ .inr (0, x)) : zin w1 b e :=
  h b e (zin_ne hD hb ha h1) (fun z => by obtain ⟨x, hx⟩ := hg b z; exact h2 x (zin_fn hD hb hx)) hb
def sHold (st memory dn now : Int32) : Bool := sLive st || (decide (st = 2) && decide (now - dn ≤ memory))
def sHad (st due now : Int32) (ga : Option Nat) (limit lent : Int32) : Bool := sDue st due now && (ga.isNone || decide (lent < limit))
def sBefore (m i due due2 num num2 : Int32) : Bool := if m = i then (if due = due2 then decide (num < num2) else decide (due < due2)) else decide (i < m)
def sComes (st due en : Int32) : Int32 := if st = 0 then due else if st = 1 then en else -1
def sPause (base top tries : Int32) : Int32 := if top < base <<< ((tries - 1) &&& 31) then top else base <<< ((tries - 1) &&& 31)
def sMay (what v : Int32) : Bool := if what = 0 then sWithin v 1 200 else if what = 1 then sWithin v 1 20 else if what = 2 then sWithin v 1 100 else if what = 3 then sWithin v 1 1000 else if what = 4 then sWithin v 0 100 else if what = 5 then sWithin v 0 1000 else false
set_option maxHeartbeats 4000000 in
set_option maxRecDepth 100000 in
theorem c_T_mayBeHad (l : Launch) {D : va_G} {tys : List (ClassId × FieldType)} {ws : va_W} {H : Heap} (hP : va_P D vwCl ws H) {a qa : Nat} {ga : Option Nat} {num rank st tries due en wk tk dn : Int32} {key : Int64} (hz : zin ws a (.inr (2, [.int num, .ref qa, .int rank, va_rf ga, .long key, .int st, .int tries, .int due, .int en, .int wk, .int tk, .int dn]))) {limit lent : Int32} (hg : ∀ g, ga = some g → zin ws g (.inr (0, [.int limit, .int lent]))) (now : Int32) : Met l y_T_mayBeHad (Cond.code y_T_mayBeHad b_T_mayBeHad 2 (some .boolean) :: TT) ({ frames := 2, cells := 0, slots := 0, locals := 80 }) (zPc [.ref a, .int now] H D vwCl tys) (zQi (zb (sHad st due now ga limit lent)) H) 0 0 (fun _ => False) := by
  refine z_body (by decide) (Nat.le_of_ble_eq_true rfl) ?_
  intro p e s m below meth c ls C0 hH hKN hl
  obtain ⟨hx, hb, hr, hts, hown, hlocks, hml⟩ := C0
  subst hH
  have hK := hKN.1
  have hN := hKN.2
  have hS : va_S (fun _ => False) s.heap s.heap [] := va_S.rf
  cases ga with
  | none =>
    have hl : lv_has ls 2 [(0, .ref a), (1, .int now)] := hl
    refine lv_aload_n hx hb d_T_mayBeHad_0 rfl (zl hl rfl) ?_
    refine lv_iload_n hx hb d_T_mayBeHad_1 rfl (zl hl rfl) ?_
    refine z_calli (va_runV (As := [.int now]) (rest := []) ⟨hx, hb, hml, hown, hts⟩ (c_T_isDue l hP hz now) (cwV 1 hts (tt_V tw_250 tw_247 tw_248 tw_249 tw_44) rfl rfl rfl (by decide +kernel) ⟨Nat.le_of_ble_eq_true rfl, Nat.le_of_ble_eq_true rfl⟩) (zPc_V hKN hP (ci := 2) (q := (R_T, F_T, 12)) rfl hz) rfl rfl hl.1 rfl (lv_room (Nat.le_of_ble_eq_true rfl)) d_T_mayBeHad_2 ⟨Nat.zero_le _, Nat.zero_le _⟩) hS (fun locs hS => ?_)
    refine lv_if_eq (tgt := 36) hx hb d_T_mayBeHad_5 (by decide) (fun c_1 => ?_) (fun c_1 => ?_)
    · have b1 := zb_f c_1
      refine lv_iconst (v := 0) hx hb d_T_mayBeHad_36 (by decide) ?_
      exact z_zret hx hb hr hlocks hS (by simp [sHad, zb, *]) d_T_mayBeHad_37
    · have b1 := zb_t c_1
      refine lv_aload_n hx hb d_T_mayBeHad_8 rfl (zl hl rfl) ?_
      refine z_get (C := R_T) (T := F_T) (N := 12) (v := .null) hx hb hts inT_T hown hK hP hz rfl 3 (by decide) tw_402 (fun _ h => h) rfl d_T_mayBeHad_9 ?_
      refine lv_ifnullN (tgt := 32) hx hb d_T_mayBeHad_12 (by decide) ?_
      refine lv_iconst (v := 1) hx hb d_T_mayBeHad_32 (by decide) ?_
      refine lv_goto (tgt := 37) hx hb d_T_mayBeHad_33 (by decide) ?_
      exact z_zret hx hb hr hlocks hS (by simp [sHad, zb, *]) d_T_mayBeHad_37
  | some g =>
    have hg1 := hg g rfl
    have hl : lv_has ls 2 [(0, .ref a), (1, .int now)] := hl
    refine lv_aload_n hx hb d_T_mayBeHad_0 rfl (zl hl rfl) ?_
    refine lv_iload_n hx hb d_T_mayBeHad_1 rfl (zl hl rfl) ?_
    refine z_calli (va_runV (As := [.int now]) (rest := []) ⟨hx, hb, hml, hown, hts⟩ (c_T_isDue l hP hz now) (cwV 1 hts (tt_V tw_250 tw_247 tw_248 tw_249 tw_44) rfl rfl rfl (by decide +kernel) ⟨Nat.le_of_ble_eq_true rfl, Nat.le_of_ble_eq_true rfl⟩) (zPc_V hKN hP (ci := 2) (q := (R_T, F_T, 12)) rfl hz) rfl rfl hl.1 rfl (lv_room (Nat.le_of_ble_eq_true rfl)) d_T_mayBeHad_2 ⟨Nat.zero_le _, Nat.zero_le _⟩) hS (fun locs hS => ?_)
    refine lv_if_eq (tgt := 36) hx hb d_T_mayBeHad_5 (by decide) (fun c_1 => ?_) (fun c_1 => ?_)
    · have b1 := zb_f c_1
      refine lv_iconst (v := 0) hx hb d_T_mayBeHad_36 (by decide) ?_
      exact z_zret hx hb hr hlocks hS (by simp [sHad, zb, *]) d_T_mayBeHad_37
    · have b1 := zb_t c_1
      refine lv_aload_n hx hb d_T_mayBeHad_8 rfl (zl hl rfl) ?_
      refine z_get (C := R_T) (T := F_T) (N := 12) (v := .ref g) hx hb hts inT_T hown hK hP hz rfl 3 (by decide) tw_402 (fun _ h => h) rfl d_T_mayBeHad_9 ?_
      refine lv_ifnull hx hb d_T_mayBeHad_12 ?_
      refine lv_aload_n hx hb d_T_mayBeHad_15 rfl (zl hl rfl) ?_
      refine z_get (C := R_T) (T := F_T) (N := 12) (v := .ref g) hx hb hts inT_T hown hK hP hz rfl 3 (by decide) tw_402 (fun _ h => h) rfl d_T_mayBeHad_16 ?_
      refine z_get (C := R_G) (T := F_G) (N := 2) (v := .int lent) hx hb hts inT_G hown hK hP hg1 rfl 1 (by decide) tw_126 (fun _ h => h) rfl d_T_mayBeHad_19 ?_
      refine lv_aload_n hx hb d_T_mayBeHad_22 rfl (zl hl rfl) ?_
      refine z_get (C := R_T) (T := F_T) (N := 12) (v := .ref g) hx hb hts inT_T hown hK hP hz rfl 3 (by decide) tw_402 (fun _ h => h) rfl d_T_mayBeHad_23 ?_
      refine z_get (C := R_G) (T := F_G) (N := 2) (v := .int limit) hx hb hts inT_G hown hK hP hg1 rfl 0 (by decide) tw_123 (fun _ h => h) rfl d_T_mayBeHad_26 ?_
      refine lv_icmp_ge (tgt := 36) hx hb d_T_mayBeHad_29 (by decide) (fun c_2 => ?_) (fun c_2 => ?_)
      · have b2 := zle_nlt c_2
        refine lv_iconst (v := 0) hx hb d_T_mayBeHad_36 (by decide) ?_
        exact z_zret hx hb hr hlocks hS (by simp [sHad, zb, *]) d_T_mayBeHad_37
      · have b2 := znle_lt c_2
        refine lv_iconst (v := 1) hx hb d_T_mayBeHad_32 (by decide) ?_
        refine lv_goto (tgt := 37) hx hb d_T_mayBeHad_33 (by decide) ?_
        exact z_zret hx hb hr hlocks hS (by simp [sHad, zb, *]) d_T_mayBeHad_37
set_option maxHeartbeats 4000000 in
set_option maxRecDepth 100000 in
theorem c_T_holdsKey (l : Launch) {D : va_G} {tys : List (ClassId × FieldType)} {ws : va_W} {H : Heap} (hP : va_P D vwCl ws H) {a qa : Nat} {ga : Option Nat} {num rank st tries due en wk tk dn : Int32} {key : Int64} (hz : zin ws a (.inr (2, [.int num, .ref qa, .int rank, va_rf ga, .long key, .int st, .int tries, .int due, .int en, .int wk, .int tk, .int dn]))) {loan most base top growth memory : Int32} (hq : zin ws qa (.inr (1, [.int loan, .int most, .int base, .int top, .int growth, .int memory]))) (now : Int32) : Met l y_T_holdsKey (Cond.code y_T_holdsKey b_T_holdsKey 2 (some .boolean) :: TT) ({ frames := 2, cells := 0, slots := 0, locals := 80 }) (zPc [.ref a, .int now] H D vwCl tys) (zQi (zb (sHold st memory dn now)) H) 0 0 (fun _ => False) := by
  refine z_body (by decide) (Nat.le_of_ble_eq_true rfl) ?_
  intro p e s m below meth c ls C0 hH hKN hl
  obtain ⟨hx, hb, hr, hts, hown, hlocks, hml⟩ := C0
  subst hH
  have hK := hKN.1
  have hN := hKN.2
  have hS : va_S (fun _ => False) s.heap s.heap [] := va_S.rf
  have hl : lv_has ls 2 [(0, .ref a), (1, .int now)] := hl
  refine lv_aload_n hx hb d_T_holdsKey_0 rfl (zl hl rfl) ?_
  refine z_calli (va_runV (As := []) (rest := []) ⟨hx, hb, hml, hown, hts⟩ (c_T_isLive l hP hz) (cwV 0 hts (tt_V tw_190 tw_375 tw_188 tw_189 tw_44) rfl rfl rfl (by decide +kernel) ⟨Nat.le_of_ble_eq_true rfl, Nat.le_of_ble_eq_true rfl⟩) (zPc_V hKN hP (ci := 2) (q := (R_T, F_T, 12)) rfl hz) rfl rfl hl.1 rfl (lv_room (Nat.le_of_ble_eq_true rfl)) d_T_holdsKey_1 ⟨Nat.zero_le _, Nat.zero_le _⟩) hS (fun locs hS => ?_)
  refine lv_if_ne (tgt := 31) hx hb d_T_holdsKey_4 (by decide) (fun c_1 => ?_) (fun c_1 => ?_)
  · have b1 := zb_t c_1
    refine lv_iconst (v := 1) hx hb d_T_holdsKey_31 (by decide) ?_
    refine lv_goto (tgt := 36) hx hb d_T_holdsKey_32 (by decide) ?_
    exact z_zret hx hb hr hlocks hS (by first | (simp [sHold, zb, *]; done) | (simp [sHold, sLive, zb, *]; done)) d_T_holdsKey_36
  · have b1 := zb_f c_1
    refine lv_aload_n hx hb d_T_holdsKey_7 rfl (zl hl rfl) ?_
    refine z_get (C := R_T) (T := F_T) (N := 12) (v := .int st) hx hb hts inT_T hown hK hP hz rfl 5 (by decide) tw_405 (fun _ h => h) rfl d_T_holdsKey_8 ?_
    refine lv_iconst (v := 2) hx hb d_T_holdsKey_11 (by decide) ?_
    refine lv_icmp_ne (tgt := 35) hx hb d_T_holdsKey_12 (by decide) (fun c_2 => ?_) (fun c_2 => ?_)
    · refine lv_iconst (v := 0) hx hb d_T_holdsKey_35 (by decide) ?_
      exact z_zret hx hb hr hlocks hS (by first | (simp [sHold, zb, *]; done) | (simp [sHold, sLive, zb, *]; done)) d_T_holdsKey_36
    · refine lv_iload_n hx hb d_T_holdsKey_15 rfl (zl hl rfl) ?_
      refine lv_aload_n hx hb d_T_holdsKey_16 rfl (zl hl rfl) ?_
      refine z_get (C := R_T) (T := F_T) (N := 12) (v := .int dn) hx hb hts inT_T hown hK hP hz rfl 11 (by decide) tw_417 (fun _ h => h) rfl d_T_holdsKey_17 ?_
      refine lv_isub hx hb d_T_holdsKey_20 ?_
      refine lv_aload_n hx hb d_T_holdsKey_21 rfl (zl hl rfl) ?_
      refine z_get (C := R_T) (T := F_T) (N := 12) (v := .ref qa) hx hb hts inT_T hown hK hP hz rfl 1 (by decide) tw_399 (fun _ h => h) rfl d_T_holdsKey_22 ?_
      refine z_get (C := R_Q) (T := F_Q) (N := 6) (v := .int memory) hx hb hts inT_Q hown hK hP hq rfl 5 (by decide) tw_103 (fun _ h => h) rfl d_T_holdsKey_25 ?_
      refine lv_icmp_gt (tgt := 35) hx hb d_T_holdsKey_28 (by decide) (fun c_3 => ?_) (fun c_3 => ?_)
      · have b3 := zlt_nle c_3
        refine lv_iconst (v := 0) hx hb d_T_holdsKey_35 (by decide) ?_
        exact z_zret hx hb hr hlocks hS (by first | (simp [sHold, zb, *]; done) | (simp [sHold, sLive, zb, *]; done)) d_T_holdsKey_36
      · have b3 := znlt_le c_3
        refine lv_iconst (v := 1) hx hb d_T_holdsKey_31 (by decide) ?_
        refine lv_goto (tgt := 36) hx hb d_T_holdsKey_32 (by decide) ?_
        exact z_zret hx hb hr hlocks hS (by first | (simp [sHold, zb, *]; done) | (simp [sHold, sLive, zb, *]; done)) d_T_holdsKey_36
set_option maxHeartbeats 4000000 in
set_option maxRecDepth 100000 in
theorem c_T_comesAt (l : Launch) {D : va_G} {tys : List (ClassId × FieldType)} {ws : va_W} {H : Heap} (hP : va_P D vwCl ws H) {a qa : Nat} {ga : Option Nat} {num rank st tries due en wk tk dn : Int32} {key : Int64} (hz : zin ws a (.inr (2, [.int num, .ref qa, .int rank, va_rf ga, .long key, .int st, .int tries, .int due, .int en, .int wk, .int tk, .int dn]))) : Met l y_T_comesAt (Cond.code y_T_comesAt b_T_comesAt 1 (some .int) :: TT) ({ frames := 1, cells := 0, slots := 0, locals := 40 }) (zPc [.ref a] H D vwCl tys) (zQi (sComes st due en) H) 0 0 (fun _ => False) := by
  refine z_body (by decide) (Nat.le_of_ble_eq_true rfl) ?_
  intro p e s m below meth c ls C0 hH hKN hl
  obtain ⟨hx, hb, hr, hts, hown, hlocks, hml⟩ := C0
  subst hH
  have hK := hKN.1
  have hN := hKN.2
  have hS : va_S (fun _ => False) s.heap s.heap [] := va_S.rf
  have hl : lv_has ls 1 [(0, .ref a)] := hl
  refine lv_aload_n hx hb d_T_comesAt_0 rfl (zl hl rfl) ?_
  refine z_get (C := R_T) (T := F_T) (N := 12) (v := .int st) hx hb hts inT_T hown hK hP hz rfl 5 (by decide) tw_405 (fun _ h => h) rfl d_T_comesAt_1 ?_
  refine lv_if_ne (tgt := 12) hx hb d_T_comesAt_4 (by decide) (fun c_1 => ?_) (fun c_1 => ?_)
  · refine lv_aload_n hx hb d_T_comesAt_12 rfl (zl hl rfl) ?_
    refine z_get (C := R_T) (T := F_T) (N := 12) (v := .int st) hx hb hts inT_T hown hK hP hz rfl 5 (by decide) tw_405 (fun _ h => h) rfl d_T_comesAt_13 ?_
    refine lv_iconst (v := 1) hx hb d_T_comesAt_16 (by decide) ?_
    refine lv_icmp_ne (tgt := 27) hx hb d_T_comesAt_17 (by decide) (fun c_2 => ?_) (fun c_2 => ?_)
    · refine lv_iconst (v := (-1)) hx hb d_T_comesAt_27 (by decide) ?_
      exact z_iret hx hb hr hlocks hS (by simp [sComes, *]) d_T_comesAt_28
    · refine lv_aload_n hx hb d_T_comesAt_20 rfl (zl hl rfl) ?_
      refine z_get (C := R_T) (T := F_T) (N := 12) (v := .int en) hx hb hts inT_T hown hK hP hz rfl 8 (by decide) tw_411 (fun _ h => h) rfl d_T_comesAt_21 ?_
      refine lv_goto (tgt := 28) hx hb d_T_comesAt_24 (by decide) ?_
      exact z_iret hx hb hr hlocks hS (by simp [sComes, *]) d_T_comesAt_28
  · refine lv_aload_n hx hb d_T_comesAt_7 rfl (zl hl rfl) ?_
    refine z_get (C := R_T) (T := F_T) (N := 12) (v := .int due) hx hb hts inT_T hown hK hP hz rfl 7 (by decide) tw_409 (fun _ h => h) rfl d_T_comesAt_8 ?_
    exact z_iret hx hb hr hlocks hS (by simp [sComes, *]) d_T_comesAt_11
set_option maxHeartbeats 4000000 in
set_option maxRecDepth 100000 in
theorem c_T_goesBefore (l : Launch) {D : va_G} {tys : List (ClassId × FieldType)} {ws : va_W} {H : Heap} (hP : va_P D vwCl ws H) {a qa : Nat} {ga : Option Nat} {num rank st tries due en wk tk dn : Int32} {key : Int64} (hz : zin ws a (.inr (2, [.int num, .ref qa, .int rank, va_rf ga, .long key, .int st, .int tries, .int due, .int en, .int wk, .int tk, .int dn]))) {loan most base top growth memory : Int32} (hq : zin ws qa (.inr (1, [.int loan, .int most, .int base, .int top, .int growth, .int memory]))) {a2 : Nat} {ga2 : Option Nat} {num2 rank2 st2 tries2 due2 en2 wk2 tk2 dn2 : Int32} {key2 : Int64} (hz2 : zin ws a2 (.inr (2, [.int num2, .ref qa, .int rank2, va_rf ga2, .long key2, .int st2, .int tries2, .int due2, .int en2, .int wk2, .int tk2, .int dn2]))) (now : Int32) : Met l y_T_goesBefore (Cond.code y_T_goesBefore b_T_goesBefore 5 (some .boolean) :: TT) ({ frames := 3, cells := 0, slots := 0, locals := 120 }) (zPc [.ref a, .ref a2, .int now] H D vwCl tys) (zQi (zb (sBefore (sWeight rank growth due now) (sWeight rank2 growth due2 now) due due2 num num2)) H) 0 0 (fun _ => False) := by
  refine z_body (by decide) (Nat.le_of_ble_eq_true rfl) ?_
  intro p e s m below meth c ls C0 hH hKN hl
  obtain ⟨hx, hb, hr, hts, hown, hlocks, hml⟩ := C0
  subst hH
  have hK := hKN.1
  have hN := hKN.2
  have hS : va_S (fun _ => False) s.heap s.heap [] := va_S.rf
  have hl : lv_has ls 5 [(0, .ref a), (1, .ref a2), (2, .int now)] := hl
  refine lv_aload_n hx hb d_T_goesBefore_0 rfl (zl hl rfl) ?_
  refine lv_iload_n hx hb d_T_goesBefore_1 rfl (zl hl rfl) ?_
  refine z_calli (va_runV (As := [.int now]) (rest := []) ⟨hx, hb, hml, hown, hts⟩ (c_T_weight l hP hz hq now) (cwV 1 hts (tt_V tw_258 tw_255 tw_256 tw_257 tw_44) rfl rfl rfl (by decide +kernel) ⟨Nat.le_of_ble_eq_true rfl, Nat.le_of_ble_eq_true rfl⟩) (zPc_V hKN hP (ci := 2) (q := (R_T, F_T, 12)) rfl hz) rfl rfl hl.1 rfl (lv_room (Nat.le_of_ble_eq_true rfl)) d_T_goesBefore_2 ⟨Nat.zero_le _, Nat.zero_le _⟩) hS (fun locs hS => ?_)
  refine lv_istore_n (lv' := [(3, .int (sWeight rank growth due now)), (0, .ref a), (1, .ref a2), (2, .int now)]) hx hb d_T_goesBefore_5 rfl hl (by decide) rfl (fun ls hl => ?_)
  refine lv_aload_n hx hb d_T_goesBefore_6 rfl (zl hl rfl) ?_
  refine lv_iload_n hx hb d_T_goesBefore_7 rfl (zl hl rfl) ?_
  refine z_calli (va_runV (As := [.int now]) (rest := []) ⟨hx, hb, hml, hown, hts⟩ (c_T_weight l hP hz2 hq now) (cwV 1 hts (tt_V tw_258 tw_255 tw_256 tw_257 tw_44) rfl rfl rfl (by decide +kernel) ⟨Nat.le_of_ble_eq_true rfl, Nat.le_of_ble_eq_true rfl⟩) (zPc_V hKN hP (ci := 2) (q := (R_T, F_T, 12)) rfl hz2) rfl rfl hl.1 rfl (lv_room (Nat.le_of_ble_eq_true rfl)) d_T_goesBefore_8 ⟨Nat.zero_le _, Nat.zero_le _⟩) hS (fun locs hS => ?_)
  refine lv_istore (lv' := [(4, .int (sWeight rank2 growth due2 now)), (3, .int (sWeight rank growth due now)), (0, .ref a), (1, .ref a2), (2, .int now)]) hx hb d_T_goesBefore_11 hl (by decide) rfl (fun ls hl => ?_)
  refine lv_iload_n hx hb d_T_goesBefore_13 rfl (zl hl rfl) ?_
  refine lv_iload hx hb d_T_goesBefore_14 (zl hl rfl) ?_
  refine lv_icmp_eq (tgt := 31) hx hb d_T_goesBefore_16 (by decide) (fun c_1 => ?_) (fun c_1 => ?_)
  · have b1 := c_1
    refine lv_aload_n hx hb d_T_goesBefore_31 rfl (zl hl rfl) ?_
    refine z_get (C := R_T) (T := F_T) (N := 12) (v := .int due) hx hb hts inT_T hown hK hP hz rfl 7 (by decide) tw_409 (fun _ h => h) rfl d_T_goesBefore_32 ?_
    refine lv_aload_n hx hb d_T_goesBefore_35 rfl (zl hl rfl) ?_
    refine z_get (C := R_T) (T := F_T) (N := 12) (v := .int due2) hx hb hts inT_T hown hK hP hz2 rfl 7 (by decide) tw_409 (fun _ h => h) rfl d_T_goesBefore_36 ?_
    refine lv_icmp_eq (tgt := 61) hx hb d_T_goesBefore_39 (by decide) (fun c_2 => ?_) (fun c_2 => ?_)
    · have b5 := c_2
      refine lv_aload_n hx hb d_T_goesBefore_61 rfl (zl hl rfl) ?_
      refine z_get (C := R_T) (T := F_T) (N := 12) (v := .int num) hx hb hts inT_T hown hK hP hz rfl 0 (by decide) tw_397 (fun _ h => h) rfl d_T_goesBefore_62 ?_
      refine lv_aload_n hx hb d_T_goesBefore_65 rfl (zl hl rfl) ?_
      refine z_get (C := R_T) (T := F_T) (N := 12) (v := .int num2) hx hb hts inT_T hown hK hP hz2 rfl 0 (by decide) tw_397 (fun _ h => h) rfl d_T_goesBefore_66 ?_
      refine lv_icmp_ge (tgt := 76) hx hb d_T_goesBefore_69 (by decide) (fun c_3 => ?_) (fun c_3 => ?_)
      · have b4 := zle_nlt c_3
        refine lv_iconst (v := 0) hx hb d_T_goesBefore_76 (by decide) ?_
        exact z_zret hx hb hr hlocks hS (by unfold sBefore; first | (rw [if_pos b1, if_pos b5]; simp [zb, b4]; done) | (rw [if_pos b1, if_neg b5]; simp [zb, b3]; done) | (rw [if_neg b1]; simp [zb, b2]; done)) d_T_goesBefore_77
      · have b4 := znle_lt c_3
        refine lv_iconst (v := 1) hx hb d_T_goesBefore_72 (by decide) ?_
        refine lv_goto (tgt := 77) hx hb d_T_goesBefore_73 (by decide) ?_
        exact z_zret hx hb hr hlocks hS (by unfold sBefore; first | (rw [if_pos b1, if_pos b5]; simp [zb, b4]; done) | (rw [if_pos b1, if_neg b5]; simp [zb, b3]; done) | (rw [if_neg b1]; simp [zb, b2]; done)) d_T_goesBefore_77
    · have b5 : ¬ _ := c_2
      refine lv_aload_n hx hb d_T_goesBefore_42 rfl (zl hl rfl) ?_
      refine z_get (C := R_T) (T := F_T) (N := 12) (v := .int due) hx hb hts inT_T hown hK hP hz rfl 7 (by decide) tw_409 (fun _ h => h) rfl d_T_goesBefore_43 ?_
      refine lv_aload_n hx hb d_T_goesBefore_46 rfl (zl hl rfl) ?_
      refine z_get (C := R_T) (T := F_T) (N := 12) (v := .int due2) hx hb hts inT_T hown hK hP hz2 rfl 7 (by decide) tw_409 (fun _ h => h) rfl d_T_goesBefore_47 ?_
      refine lv_icmp_ge (tgt := 57) hx hb d_T_goesBefore_50 (by decide) (fun c_4 => ?_) (fun c_4 => ?_)
      · have b3 := zle_nlt c_4
        refine lv_iconst (v := 0) hx hb d_T_goesBefore_57 (by decide) ?_
        refine lv_goto (tgt := 77) hx hb d_T_goesBefore_58 (by decide) ?_
        exact z_zret hx hb hr hlocks hS (by unfold sBefore; first | (rw [if_pos b1, if_pos b5]; simp [zb, b4]; done) | (rw [if_pos b1, if_neg b5]; simp [zb, b3]; done) | (rw [if_neg b1]; simp [zb, b2]; done)) d_T_goesBefore_77
      · have b3 := znle_lt c_4
        refine lv_iconst (v := 1) hx hb d_T_goesBefore_53 (by decide) ?_
        refine lv_goto (tgt := 77) hx hb d_T_goesBefore_54 (by decide) ?_
        exact z_zret hx hb hr hlocks hS (by unfold sBefore; first | (rw [if_pos b1, if_pos b5]; simp [zb, b4]; done) | (rw [if_pos b1, if_neg b5]; simp [zb, b3]; done) | (rw [if_neg b1]; simp [zb, b2]; done)) d_T_goesBefore_77
  · have b1 : ¬ _ := c_1
    refine lv_iload_n hx hb d_T_goesBefore_19 rfl (zl hl rfl) ?_
    refine lv_iload hx hb d_T_goesBefore_20 (zl hl rfl) ?_
    refine lv_icmp_le (tgt := 29) hx hb d_T_goesBefore_22 (by decide) (fun c_5 => ?_) (fun c_5 => ?_)
    · have b2 := zle_nlt c_5
      refine lv_iconst (v := 0) hx hb d_T_goesBefore_29 (by decide) ?_
      exact z_zret hx hb hr hlocks hS (by unfold sBefore; first | (rw [if_pos b1, if_pos b5]; simp [zb, b4]; done) | (rw [if_pos b1, if_neg b5]; simp [zb, b3]; done) | (rw [if_neg b1]; simp [zb, b2]; done)) d_T_goesBefore_30
    · have b2 := znle_lt c_5
      refine lv_iconst (v := 1) hx hb d_T_goesBefore_25 (by decide) ?_
      refine lv_goto (tgt := 30) hx hb d_T_goesBefore_26 (by decide) ?_
      exact z_zret hx hb hr hlocks hS (by unfold sBefore; first | (rw [if_pos b1, if_pos b5]; simp [zb, b4]; done) | (rw [if_pos b1, if_neg b5]; simp [zb, b3]; done) | (rw [if_neg b1]; simp [zb, b2]; done)) d_T_goesBefore_30
set_option maxHeartbeats 4000000 in
set_option maxRecDepth 100000 in
theorem c_Q_pauseAfter (l : Launch) {D : va_G} {tys : List (ClassId × FieldType)} {ws : va_W} {H : Heap} (hP : va_P D vwCl ws H) {qa : Nat} {loan most base top growth memory : Int32} (hq : zin ws qa (.inr (1, [.int loan, .int most, .int base, .int top, .int growth, .int memory]))) (tries : Int32) : Met l y_Q_pauseAfter (Cond.code y_Q_pauseAfter b_Q_pauseAfter 2 (some .int) :: TT) ({ frames := 2, cells := 0, slots := 0, locals := 80 }) (zPc [.ref qa, .int tries] H D vwCl tys) (zQi (sPause base top tries) H) 0 0 (fun _ => False) := by
  refine z_body (by decide) (Nat.le_of_ble_eq_true rfl) ?_
  intro p e s m below meth c ls C0 hH hKN hl
  obtain ⟨hx, hb, hr, hts, hown, hlocks, hml⟩ := C0
  subst hH
  have hK := hKN.1
  have hN := hKN.2
  have hS : va_S (fun _ => False) s.heap s.heap [] := va_S.rf
  have hl : lv_has ls 2 [(0, .ref qa), (1, .int tries)] := hl
  refine lv_aload_n hx hb d_Q_pauseAfter_0 rfl (zl hl rfl) ?_
  refine z_get (C := R_Q) (T := F_Q) (N := 6) (v := .int base) hx hb hts inT_Q hown hK hP hq rfl 2 (by decide) tw_98 (fun _ h => h) rfl d_Q_pauseAfter_1 ?_
  refine lv_iload_n hx hb d_Q_pauseAfter_4 rfl (zl hl rfl) ?_
  refine lv_iconst (v := 1) hx hb d_Q_pauseAfter_5 (by decide) ?_
  refine lv_isub hx hb d_Q_pauseAfter_6 ?_
  refine lv_ishl hx hb d_Q_pauseAfter_7 ?_
  refine lv_aload_n hx hb d_Q_pauseAfter_8 rfl (zl hl rfl) ?_
  refine z_get (C := R_Q) (T := F_Q) (N := 6) (v := .int top) hx hb hts inT_Q hown hK hP hq rfl 3 (by decide) tw_99 (fun _ h => h) rfl d_Q_pauseAfter_9 ?_
  refine va_mmin hx hb (hml.trans hl.1.symm) hown (hts _ tw_545) (hts _ tw_260) (hts _ tw_46) (hts _ tw_261) (Nat.le_of_ble_eq_true rfl) (Nat.le_of_ble_eq_true rfl) (Nat.zero_le _) (Nat.zero_le _) d_Q_pauseAfter_12 ?_
  exact z_iret hx hb hr hlocks hS (rfl) d_Q_pauseAfter_15
set_option maxHeartbeats 4000000 in
set_option maxRecDepth 100000 in
theorem c_T_become (l : Launch) {D : va_G} {tys : List (ClassId × FieldType)} {ws : va_W} {H : Heap} (hP : va_P D vwCl ws H) {a qa : Nat} {ga : Option Nat} {num rank st tries due en wk tk dn : Int32} {key : Int64} (hz : zin ws a (.inr (2, [.int num, .ref qa, .int rank, va_rf ga, .long key, .int st, .int tries, .int due, .int en, .int wk, .int tk, .int dn]))) {limit lent : Int32} (hg : ∀ g, ga = some g → zin ws g (.inr (0, [.int limit, .int lent]))) {B : Nat} (hD : va_D (fun q => B ≤ q) ws) (new : Int32) : Met l y_T_become (Cond.code y_T_become b_T_become 2 none :: TT) ({ frames := 1, cells := 0, slots := 0, locals := 40 }) (zPc [.ref a, .int new] H D vwCl tys) (zR D vwCl B none (fun ws' => zin ws' a (.inr (2, [.int num, .ref qa, .int rank, va_rf ga, .long key, .int new, .int tries, .int due, .int en, .int wk, .int tk, .int dn])) ∧ (∀ g, ga = some g → zin ws' g (.inr (0, [.int limit, .int (gNew st new lent)]))) ∧ zfrT a ga ws ws')) 0 0 (fun q => B ≤ q) := by
  refine z_body (by decide) (Nat.le_of_ble_eq_true rfl) ?_
  intro p e s m below meth c ls C0 hH hKN hl
  obtain ⟨hx, hb, hr, hts, hown, hlocks, hml⟩ := C0
  subst hH
  have hK := hKN.1
  have hN := hKN.2
  have hS : va_S (fun q => B ≤ q) s.heap s.heap [] := va_S.rf
  have hFr : zfrT a ga ws ws := zfrT_rf
  cases ga with
  | none =>
    have hl : lv_has ls 2 [(0, .ref a), (1, .int new)] := hl
    refine lv_aload_n hx hb d_T_become_0 rfl (zl hl rfl) ?_
    refine z_get (C := R_T) (T := F_T) (N := 12) (v := .null) hx hb hts inT_T hown hK hP hz rfl 3 (by decide) tw_402 (fun _ h => h) rfl d_T_become_1 ?_
    refine lv_ifnullN (tgt := 28) hx hb d_T_become_4 (by decide) ?_
    refine lv_aload_n hx hb d_T_become_28 rfl (zl hl rfl) ?_
    refine z_get (C := R_T) (T := F_T) (N := 12) (v := .null) hx hb hts inT_T hown hK hP hz rfl 3 (by decide) tw_402 (fun _ h => h) rfl d_T_become_29 ?_
    refine lv_ifnullN (tgt := 53) hx hb d_T_become_32 (by decide) ?_
    refine lv_aload_n hx hb d_T_become_53 rfl (zl hl rfl) ?_
    refine lv_iload_n hx hb d_T_become_54 rfl (zl hl rfl) ?_
    have hD0 := hD
    refine z_put (C := R_T) (T := F_T) (N := 12) (v := .int new) hx hb hts inT_T ft_T ft_T_ok fn_T hown hK hP hD hS hz rfl 5 (by decide) tw_405 (fun _ h => h) rfl rfl rfl (by simp) d_T_become_55 (fun ws H locs hP hD hS u_1 => ?_)
    have z_2 : zin ws a (.inr (2, [.int num, .ref qa, .int rank, .null, .long key, .int new, .int tries, .int due, .int en, .int wk, .int tk, .int dn])) := u_1.1
    have hFr := zfrT_a hFr u_1
    exact z_vretR hx hb hr hlocks hP hD hS (⟨z_2, (fun g9 e9 => by cases e9), hFr⟩) d_T_become_58
  | some g =>
    have hg1 := hg g rfl
    have hl : lv_has ls 2 [(0, .ref a), (1, .int new)] := hl
    refine lv_aload_n hx hb d_T_become_0 rfl (zl hl rfl) ?_
    refine z_get (C := R_T) (T := F_T) (N := 12) (v := .ref g) hx hb hts inT_T hown hK hP hz rfl 3 (by decide) tw_402 (fun _ h => h) rfl d_T_become_1 ?_
    refine lv_ifnull hx hb d_T_become_4 ?_
    refine lv_aload_n hx hb d_T_become_7 rfl (zl hl rfl) ?_
    refine z_get (C := R_T) (T := F_T) (N := 12) (v := .int st) hx hb hts inT_T hown hK hP hz rfl 5 (by decide) tw_405 (fun _ h => h) rfl d_T_become_8 ?_
    refine lv_iconst (v := 1) hx hb d_T_become_11 (by decide) ?_
    refine lv_icmp_ne (tgt := 28) hx hb d_T_become_12 (by decide) (fun c_1 => ?_) (fun c_1 => ?_)
    · refine lv_aload_n hx hb d_T_become_28 rfl (zl hl rfl) ?_
      refine z_get (C := R_T) (T := F_T) (N := 12) (v := .ref g) hx hb hts inT_T hown hK hP hz rfl 3 (by decide) tw_402 (fun _ h => h) rfl d_T_become_29 ?_
      refine lv_ifnull hx hb d_T_become_32 ?_
      refine lv_iload_n hx hb d_T_become_35 rfl (zl hl rfl) ?_
      refine lv_iconst (v := 1) hx hb d_T_become_36 (by decide) ?_
      refine lv_icmp_ne (tgt := 53) hx hb d_T_become_37 (by decide) (fun c_2 => ?_) (fun c_2 => ?_)
      · refine lv_aload_n hx hb d_T_become_53 rfl (zl hl rfl) ?_
        refine lv_iload_n hx hb d_T_become_54 rfl (zl hl rfl) ?_
        have hD0 := hD
        refine z_put (C := R_T) (T := F_T) (N := 12) (v := .int new) hx hb hts inT_T ft_T ft_T_ok fn_T hown hK hP hD hS hz rfl 5 (by decide) tw_405 (fun _ h => h) rfl rfl rfl (by simp) d_T_become_55 (fun ws H locs hP hD hS u_3 => ?_)
        have z_4 : zin ws a (.inr (2, [.int num, .ref qa, .int rank, .ref g, .long key, .int new, .int tries, .int due, .int en, .int wk, .int tk, .int dn])) := u_3.1
        have z_5 := u_3.2 _ _ (zin_ne hD0 hg1 hz (by intro h; cases h)) hg1
        have hFr := zfrT_a hFr u_3
        exact z_vretR hx hb hr hlocks hP hD hS (⟨z_4, (fun g9 e9 => by cases e9; first | (simp only [gNew, *, reduceIte]; done) | (simp only [gNew, *, reduceIte]; exact z_5)), hFr⟩) d_T_become_58
      · refine lv_aload_n hx hb d_T_become_40 rfl (zl hl rfl) ?_
        refine z_get (C := R_T) (T := F_T) (N := 12) (v := .ref g) hx hb hts inT_T hown hK hP hz rfl 3 (by decide) tw_402 (fun _ h => h) rfl d_T_become_41 ?_
        refine lv_dup hx hb d_T_become_44 rfl ?_
        refine z_get (C := R_G) (T := F_G) (N := 2) (v := .int lent) hx hb hts inT_G hown hK hP hg1 rfl 1 (by decide) tw_126 (fun _ h => h) rfl d_T_become_45 ?_
        refine lv_iconst (v := 1) hx hb d_T_become_48 (by decide) ?_
        refine lv_iadd hx hb d_T_become_49 ?_
        have hD0 := hD
        refine z_put (C := R_G) (T := F_G) (N := 2) (v := .int (lent + 1)) hx hb hts inT_G ft_G ft_G_ok fn_G hown hK hP hD hS hg1 rfl 1 (by decide) tw_126 (fun _ h => h) rfl rfl rfl (by simp) d_T_become_50 (fun ws H locs hP hD hS u_6 => ?_)
        have z_7 : zin ws g (.inr (0, [.int limit, .int (lent + 1)])) := u_6.1
        have z_8 := u_6.2 _ _ (zin_ne hD0 hz hg1 (by intro h; cases h)) hz
        have hFr := zfrT_g hFr u_6
        refine lv_aload_n hx hb d_T_become_53 rfl (zl hl rfl) ?_
        refine lv_iload_n hx hb d_T_become_54 rfl (zl hl rfl) ?_
        have hD0 := hD
        refine z_put (C := R_T) (T := F_T) (N := 12) (v := .int new) hx hb hts inT_T ft_T ft_T_ok fn_T hown hK hP hD hS z_8 rfl 5 (by decide) tw_405 (fun _ h => h) rfl rfl rfl (by simp) d_T_become_55 (fun ws H locs hP hD hS u_9 => ?_)
        have z_10 : zin ws a (.inr (2, [.int num, .ref qa, .int rank, .ref g, .long key, .int new, .int tries, .int due, .int en, .int wk, .int tk, .int dn])) := u_9.1
        have z_11 := u_9.2 _ _ (zin_ne hD0 z_7 z_8 (by intro h; cases h)) z_7
        have hFr := zfrT_a hFr u_9
        exact z_vretR hx hb hr hlocks hP hD hS (⟨z_10, (fun g9 e9 => by cases e9; first | (simp only [gNew, *, reduceIte]; done) | (simp only [gNew, *, reduceIte]; exact z_11)), hFr⟩) d_T_become_58
    · refine lv_aload_n hx hb d_T_become_15 rfl (zl hl rfl) ?_
      refine z_get (C := R_T) (T := F_T) (N := 12) (v := .ref g) hx hb hts inT_T hown hK hP hz rfl 3 (by decide) tw_402 (fun _ h => h) rfl d_T_become_16 ?_
      refine lv_dup hx hb d_T_become_19 rfl ?_
      refine z_get (C := R_G) (T := F_G) (N := 2) (v := .int lent) hx hb hts inT_G hown hK hP hg1 rfl 1 (by decide) tw_126 (fun _ h => h) rfl d_T_become_20 ?_
      refine lv_iconst (v := 1) hx hb d_T_become_23 (by decide) ?_
      refine lv_isub hx hb d_T_become_24 ?_
      have hD0 := hD
      refine z_put (C := R_G) (T := F_G) (N := 2) (v := .int (lent - 1)) hx hb hts inT_G ft_G ft_G_ok fn_G hown hK hP hD hS hg1 rfl 1 (by decide) tw_126 (fun _ h => h) rfl rfl rfl (by simp) d_T_become_25 (fun ws H locs hP hD hS u_12 => ?_)
      have z_13 : zin ws g (.inr (0, [.int limit, .int (lent - 1)])) := u_12.1
      have z_14 := u_12.2 _ _ (zin_ne hD0 hz hg1 (by intro h; cases h)) hz
      have hFr := zfrT_g hFr u_12
      refine lv_aload_n hx hb d_T_become_28 rfl (zl hl rfl) ?_
      refine z_get (C := R_T) (T := F_T) (N := 12) (v := .ref g) hx hb hts inT_T hown hK hP z_14 rfl 3 (by decide) tw_402 (fun _ h => h) rfl d_T_become_29 ?_
      refine lv_ifnull hx hb d_T_become_32 ?_
      refine lv_iload_n hx hb d_T_become_35 rfl (zl hl rfl) ?_
      refine lv_iconst (v := 1) hx hb d_T_become_36 (by decide) ?_
      refine lv_icmp_ne (tgt := 53) hx hb d_T_become_37 (by decide) (fun c_15 => ?_) (fun c_15 => ?_)
      · refine lv_aload_n hx hb d_T_become_53 rfl (zl hl rfl) ?_
        refine lv_iload_n hx hb d_T_become_54 rfl (zl hl rfl) ?_
        have hD0 := hD
        refine z_put (C := R_T) (T := F_T) (N := 12) (v := .int new) hx hb hts inT_T ft_T ft_T_ok fn_T hown hK hP hD hS z_14 rfl 5 (by decide) tw_405 (fun _ h => h) rfl rfl rfl (by simp) d_T_become_55 (fun ws H locs hP hD hS u_16 => ?_)
        have z_17 : zin ws a (.inr (2, [.int num, .ref qa, .int rank, .ref g, .long key, .int new, .int tries, .int due, .int en, .int wk, .int tk, .int dn])) := u_16.1
        have z_18 := u_16.2 _ _ (zin_ne hD0 z_13 z_14 (by intro h; cases h)) z_13
        have hFr := zfrT_a hFr u_16
        exact z_vretR hx hb hr hlocks hP hD hS (⟨z_17, (fun g9 e9 => by cases e9; first | (simp only [gNew, *, reduceIte]; done) | (simp only [gNew, *, reduceIte]; exact z_18)), hFr⟩) d_T_become_58
      · refine lv_aload_n hx hb d_T_become_40 rfl (zl hl rfl) ?_
        refine z_get (C := R_T) (T := F_T) (N := 12) (v := .ref g) hx hb hts inT_T hown hK hP z_14 rfl 3 (by decide) tw_402 (fun _ h => h) rfl d_T_become_41 ?_
        refine lv_dup hx hb d_T_become_44 rfl ?_
        refine z_get (C := R_G) (T := F_G) (N := 2) (v := .int (lent - 1)) hx hb hts inT_G hown hK hP z_13 rfl 1 (by decide) tw_126 (fun _ h => h) rfl d_T_become_45 ?_
        refine lv_iconst (v := 1) hx hb d_T_become_48 (by decide) ?_
        refine lv_iadd hx hb d_T_become_49 ?_
        have hD0 := hD
        refine z_put (C := R_G) (T := F_G) (N := 2) (v := .int ((lent - 1) + 1)) hx hb hts inT_G ft_G ft_G_ok fn_G hown hK hP hD hS z_13 rfl 1 (by decide) tw_126 (fun _ h => h) rfl rfl rfl (by simp) d_T_become_50 (fun ws H locs hP hD hS u_19 => ?_)
        have z_20 : zin ws g (.inr (0, [.int limit, .int ((lent - 1) + 1)])) := u_19.1
        have z_21 := u_19.2 _ _ (zin_ne hD0 z_14 z_13 (by intro h; cases h)) z_14
        have hFr := zfrT_g hFr u_19
        refine lv_aload_n hx hb d_T_become_53 rfl (zl hl rfl) ?_
        refine lv_iload_n hx hb d_T_become_54 rfl (zl hl rfl) ?_
        have hD0 := hD
        refine z_put (C := R_T) (T := F_T) (N := 12) (v := .int new) hx hb hts inT_T ft_T ft_T_ok fn_T hown hK hP hD hS z_21 rfl 5 (by decide) tw_405 (fun _ h => h) rfl rfl rfl (by simp) d_T_become_55 (fun ws H locs hP hD hS u_22 => ?_)
        have z_23 : zin ws a (.inr (2, [.int num, .ref qa, .int rank, .ref g, .long key, .int new, .int tries, .int due, .int en, .int wk, .int tk, .int dn])) := u_22.1
        have z_24 := u_22.2 _ _ (zin_ne hD0 z_20 z_21 (by intro h; cases h)) z_20
        have hFr := zfrT_a hFr u_22
        exact z_vretR hx hb hr hlocks hP hD hS (⟨z_23, (fun g9 e9 => by cases e9; first | (simp only [gNew, *, reduceIte]; done) | (simp only [gNew, *, reduceIte]; exact z_24)), hFr⟩) d_T_become_58
set_option maxHeartbeats 4000000 in
set_option maxRecDepth 100000 in
theorem c_T_becomeWaiting (l : Launch) {D : va_G} {tys : List (ClassId × FieldType)} {ws : va_W} {H : Heap} (hP : va_P D vwCl ws H) {a qa : Nat} {ga : Option Nat} {num rank st tries due en wk tk dn : Int32} {key : Int64} (hz : zin ws a (.inr (2, [.int num, .ref qa, .int rank, va_rf ga, .long key, .int st, .int tries, .int due, .int en, .int wk, .int tk, .int dn]))) {limit lent : Int32} (hg : ∀ g, ga = some g → zin ws g (.inr (0, [.int limit, .int lent]))) {B : Nat} (hD : va_D (fun q => B ≤ q) ws) (v : Int32) : Met l y_T_becomeWaiting (Cond.code y_T_becomeWaiting b_T_becomeWaiting 2 none :: TT) ({ frames := 2, cells := 0, slots := 0, locals := 80 }) (zPc [.ref a, .int v] H D vwCl tys) (zR D vwCl B none (fun ws' => zin ws' a (.inr (2, [.int num, .ref qa, .int rank, va_rf ga, .long key, .int 0, .int tries, .int v, .int en, .int wk, .int tk, .int dn])) ∧ (∀ g, ga = some g → zin ws' g (.inr (0, [.int limit, .int (gNew st 0 lent)]))) ∧ zfrT a ga ws ws')) 0 0 (fun q => B ≤ q) := by
  refine z_body (by decide) (Nat.le_of_ble_eq_true rfl) ?_
  intro p e s m below meth c ls C0 hH hKN hl
  obtain ⟨hx, hb, hr, hts, hown, hlocks, hml⟩ := C0
  subst hH
  have hK := hKN.1
  have hN := hKN.2
  have hS : va_S (fun q => B ≤ q) s.heap s.heap [] := va_S.rf
  have hFr : zfrT a ga ws ws := zfrT_rf
  have hl : lv_has ls 2 [(0, .ref a), (1, .int v)] := hl
  refine lv_aload_n hx hb d_T_becomeWaiting_0 rfl (zl hl rfl) ?_
  refine lv_iconst (v := 0) hx hb d_T_becomeWaiting_1 (by decide) ?_
  have hD0 := hD
  refine z_call (va_runV (As := [.int 0]) (rest := []) ⟨hx, hb, hml, hown, hts⟩ (c_T_become l hP hz hg hD 0) (cwV 1 hts (tt_V tw_194 tw_211 tw_192 tw_193 tw_44) rfl rfl rfl (by decide +kernel) ⟨Nat.le_of_ble_eq_true rfl, Nat.le_of_ble_eq_true rfl⟩) (zPc_V hKN hP (ci := 2) (q := (R_T, F_T, 12)) rfl hz) rfl rfl hl.1 rfl (lv_room (Nat.le_of_ble_eq_true rfl)) d_T_becomeWaiting_2 ⟨Nat.le_of_ble_eq_true rfl, Nat.le_of_ble_eq_true rfl⟩) hS (fun ws H locs hR hP hD hz9 hS => ?_)
  obtain ⟨hz1, hg1, hFr⟩ := hR
  refine lv_aload_n hx hb d_T_becomeWaiting_5 rfl (zl hl rfl) ?_
  refine lv_iload_n hx hb d_T_becomeWaiting_6 rfl (zl hl rfl) ?_
  have hD0 := hD
  refine z_put (C := R_T) (T := F_T) (N := 12) (v := .int v) hx hb hts inT_T ft_T ft_T_ok fn_T hown hK hP hD hS hz1 rfl 7 (by decide) tw_409 (fun _ h => h) rfl rfl rfl (by simp) d_T_becomeWaiting_7 (fun ws H locs hP hD hS u_1 => ?_)
  have z_2 : zin ws a (.inr (2, [.int num, .ref qa, .int rank, va_rf ga, .long key, .int 0, .int tries, .int v, .int en, .int wk, .int tk, .int dn])) := u_1.1
  have hg1 := fun g (h : ga = some g) => u_1.2 _ _ (zin_ne hD0 (hg1 g h) hz1 (by intro h; cases h)) (hg1 g h)
  have hFr := zfrT_a hFr u_1
  exact z_vretR hx hb hr hlocks hP hD hS (⟨z_2, hg1, hFr⟩) d_T_becomeWaiting_10
set_option maxHeartbeats 4000000 in
set_option maxRecDepth 100000 in
theorem c_T_becomeDone (l : Launch) {D : va_G} {tys : List (ClassId × FieldType)} {ws : va_W} {H : Heap} (hP : va_P D vwCl ws H) {a qa : Nat} {ga : Option Nat} {num rank st tries due en wk tk dn : Int32} {key : Int64} (hz : zin ws a (.inr (2, [.int num, .ref qa, .int rank, va_rf ga, .long key, .int st, .int tries, .int due, .int en, .int wk, .int tk, .int dn]))) {limit lent : Int32} (hg : ∀ g, ga = some g → zin ws g (.inr (0, [.int limit, .int lent]))) {B : Nat} (hD : va_D (fun q => B ≤ q) ws) (v : Int32) : Met l y_T_becomeDone (Cond.code y_T_becomeDone b_T_becomeDone 2 none :: TT) ({ frames := 2, cells := 0, slots := 0, locals := 80 }) (zPc [.ref a, .int v] H D vwCl tys) (zR D vwCl B none (fun ws' => zin ws' a (.inr (2, [.int num, .ref qa, .int rank, va_rf ga, .long key, .int 2, .int tries, .int due, .int en, .int wk, .int tk, .int v])) ∧ (∀ g, ga = some g → zin ws' g (.inr (0, [.int limit, .int (gNew st 2 lent)]))) ∧ zfrT a ga ws ws')) 0 0 (fun q => B ≤ q) := by
  refine z_body (by decide) (Nat.le_of_ble_eq_true rfl) ?_
  intro p e s m below meth c ls C0 hH hKN hl
  obtain ⟨hx, hb, hr, hts, hown, hlocks, hml⟩ := C0
  subst hH
  have hK := hKN.1
  have hN := hKN.2
  have hS : va_S (fun q => B ≤ q) s.heap s.heap [] := va_S.rf
  have hFr : zfrT a ga ws ws := zfrT_rf
  have hl : lv_has ls 2 [(0, .ref a), (1, .int v)] := hl
  refine lv_aload_n hx hb d_T_becomeDone_0 rfl (zl hl rfl) ?_
  refine lv_iconst (v := 2) hx hb d_T_becomeDone_1 (by decide) ?_
  have hD0 := hD
  refine z_call (va_runV (As := [.int 2]) (rest := []) ⟨hx, hb, hml, hown, hts⟩ (c_T_become l hP hz hg hD 2) (cwV 1 hts (tt_V tw_194 tw_211 tw_192 tw_193 tw_44) rfl rfl rfl (by decide +kernel) ⟨Nat.le_of_ble_eq_true rfl, Nat.le_of_ble_eq_true rfl⟩) (zPc_V hKN hP (ci := 2) (q := (R_T, F_T, 12)) rfl hz) rfl rfl hl.1 rfl (lv_room (Nat.le_of_ble_eq_true rfl)) d_T_becomeDone_2 ⟨Nat.le_of_ble_eq_true rfl, Nat.le_of_ble_eq_true rfl⟩) hS (fun ws H locs hR hP hD hz9 hS => ?_)
  obtain ⟨hz1, hg1, hFr⟩ := hR
  refine lv_aload_n hx hb d_T_becomeDone_5 rfl (zl hl rfl) ?_
  refine lv_iload_n hx hb d_T_becomeDone_6 rfl (zl hl rfl) ?_
  have hD0 := hD
  refine z_put (C := R_T) (T := F_T) (N := 12) (v := .int v) hx hb hts inT_T ft_T ft_T_ok fn_T hown hK hP hD hS hz1 rfl 11 (by decide) tw_417 (fun _ h => h) rfl rfl rfl (by simp) d_T_becomeDone_7 (fun ws H locs hP hD hS u_1 => ?_)
  have z_2 : zin ws a (.inr (2, [.int num, .ref qa, .int rank, va_rf ga, .long key, .int 2, .int tries, .int due, .int en, .int wk, .int tk, .int v])) := u_1.1
  have hg1 := fun g (h : ga = some g) => u_1.2 _ _ (zin_ne hD0 (hg1 g h) hz1 (by intro h; cases h)) (hg1 g h)
  have hFr := zfrT_a hFr u_1
  exact z_vretR hx hb hr hlocks hP hD hS (⟨z_2, hg1, hFr⟩) d_T_becomeDone_10
set_option maxHeartbeats 4000000 in
set_option maxRecDepth 100000 in
theorem c_T_becomeLent (l : Launch) {D : va_G} {tys : List (ClassId × FieldType)} {ws : va_W} {H : Heap} (hP : va_P D vwCl ws H) {a qa : Nat} {ga : Option Nat} {num rank st tries due en wk tk dn : Int32} {key : Int64} (hz : zin ws a (.inr (2, [.int num, .ref qa, .int rank, va_rf ga, .long key, .int st, .int tries, .int due, .int en, .int wk, .int tk, .int dn]))) {limit lent : Int32} (hg : ∀ g, ga = some g → zin ws g (.inr (0, [.int limit, .int lent]))) {B : Nat} (hD : va_D (fun q => B ≤ q) ws) {loan most base top growth memory : Int32} (hq : zin ws qa (.inr (1, [.int loan, .int most, .int base, .int top, .int growth, .int memory]))) (v w now : Int32) : Met l y_T_becomeLent (Cond.code y_T_becomeLent b_T_becomeLent 4 none :: TT) ({ frames := 2, cells := 0, slots := 0, locals := 80 }) (zPc [.ref a, .int v, .int w, .int now] H D vwCl tys) (zR D vwCl B none (fun ws' => zin ws' a (.inr (2, [.int num, .ref qa, .int rank, va_rf ga, .long key, .int 1, .int (tries + 1), .int due, .int (now + loan), .int v, .int w, .int dn])) ∧ (∀ g, ga = some g → zin ws' g (.inr (0, [.int limit, .int (gNew st 1 lent)]))) ∧ zfrT a ga ws ws')) 0 0 (fun q => B ≤ q) := by
  refine z_body (by decide) (Nat.le_of_ble_eq_true rfl) ?_
  intro p e s m below meth c ls C0 hH hKN hl
  obtain ⟨hx, hb, hr, hts, hown, hlocks, hml⟩ := C0
  subst hH
  have hK := hKN.1
  have hN := hKN.2
  have hS : va_S (fun q => B ≤ q) s.heap s.heap [] := va_S.rf
  have hFr : zfrT a ga ws ws := zfrT_rf
  have hl : lv_has ls 4 [(0, .ref a), (1, .int v), (2, .int w), (3, .int now)] := hl
  refine lv_aload_n hx hb d_T_becomeLent_0 rfl (zl hl rfl) ?_
  refine lv_iconst (v := 1) hx hb d_T_becomeLent_1 (by decide) ?_
  have hD0 := hD
  refine z_call (va_runV (As := [.int 1]) (rest := []) ⟨hx, hb, hml, hown, hts⟩ (c_T_become l hP hz hg hD 1) (cwV 1 hts (tt_V tw_194 tw_211 tw_192 tw_193 tw_44) rfl rfl rfl (by decide +kernel) ⟨Nat.le_of_ble_eq_true rfl, Nat.le_of_ble_eq_true rfl⟩) (zPc_V hKN hP (ci := 2) (q := (R_T, F_T, 12)) rfl hz) rfl rfl hl.1 rfl (lv_room (Nat.le_of_ble_eq_true rfl)) d_T_becomeLent_2 ⟨Nat.le_of_ble_eq_true rfl, Nat.le_of_ble_eq_true rfl⟩) hS (fun ws H locs hR hP hD hz9 hS => ?_)
  obtain ⟨hz1, hg1, hFr⟩ := hR
  have hq1 := zfrT_q hD0 hFr hz (fun g h => ⟨_, hg g h⟩) hq (by intro h; cases h) (by intro x h; cases h)
  refine lv_aload_n hx hb d_T_becomeLent_5 rfl (zl hl rfl) ?_
  refine lv_dup hx hb d_T_becomeLent_6 rfl ?_
  refine z_get (C := R_T) (T := F_T) (N := 12) (v := .int tries) hx hb hts inT_T hown hK hP hz1 rfl 6 (by decide) tw_407 (fun _ h => h) rfl d_T_becomeLent_7 ?_
  refine lv_iconst (v := 1) hx hb d_T_becomeLent_10 (by decide) ?_
  refine lv_iadd hx hb d_T_becomeLent_11 ?_
  have hD0 := hD
  refine z_put (C := R_T) (T := F_T) (N := 12) (v := .int (tries + 1)) hx hb hts inT_T ft_T ft_T_ok fn_T hown hK hP hD hS hz1 rfl 6 (by decide) tw_407 (fun _ h => h) rfl rfl rfl (by simp) d_T_becomeLent_12 (fun ws H locs hP hD hS u_1 => ?_)
  have z_2 : zin ws a (.inr (2, [.int num, .ref qa, .int rank, va_rf ga, .long key, .int 1, .int (tries + 1), .int due, .int en, .int wk, .int tk, .int dn])) := u_1.1
  have z_3 := u_1.2 _ _ (zin_ne hD0 hq1 hz1 (by intro h; cases h)) hq1
  have hg1 := fun g (h : ga = some g) => u_1.2 _ _ (zin_ne hD0 (hg1 g h) hz1 (by intro h; cases h)) (hg1 g h)
  have hFr := zfrT_a hFr u_1
  refine lv_aload_n hx hb d_T_becomeLent_15 rfl (zl hl rfl) ?_
  refine lv_iload_n hx hb d_T_becomeLent_16 rfl (zl hl rfl) ?_
  have hD0 := hD
  refine z_put (C := R_T) (T := F_T) (N := 12) (v := .int v) hx hb hts inT_T ft_T ft_T_ok fn_T hown hK hP hD hS z_2 rfl 9 (by decide) tw_413 (fun _ h => h) rfl rfl rfl (by simp) d_T_becomeLent_17 (fun ws H locs hP hD hS u_4 => ?_)
  have z_5 : zin ws a (.inr (2, [.int num, .ref qa, .int rank, va_rf ga, .long key, .int 1, .int (tries + 1), .int due, .int en, .int v, .int tk, .int dn])) := u_4.1
  have z_6 := u_4.2 _ _ (zin_ne hD0 z_3 z_2 (by intro h; cases h)) z_3
  have hg1 := fun g (h : ga = some g) => u_4.2 _ _ (zin_ne hD0 (hg1 g h) z_2 (by intro h; cases h)) (hg1 g h)
  have hFr := zfrT_a hFr u_4
  refine lv_aload_n hx hb d_T_becomeLent_20 rfl (zl hl rfl) ?_
  refine lv_iload_n hx hb d_T_becomeLent_21 rfl (zl hl rfl) ?_
  have hD0 := hD
  refine z_put (C := R_T) (T := F_T) (N := 12) (v := .int w) hx hb hts inT_T ft_T ft_T_ok fn_T hown hK hP hD hS z_5 rfl 10 (by decide) tw_415 (fun _ h => h) rfl rfl rfl (by simp) d_T_becomeLent_22 (fun ws H locs hP hD hS u_7 => ?_)
  have z_8 : zin ws a (.inr (2, [.int num, .ref qa, .int rank, va_rf ga, .long key, .int 1, .int (tries + 1), .int due, .int en, .int v, .int w, .int dn])) := u_7.1
  have z_9 := u_7.2 _ _ (zin_ne hD0 z_6 z_5 (by intro h; cases h)) z_6
  have hg1 := fun g (h : ga = some g) => u_7.2 _ _ (zin_ne hD0 (hg1 g h) z_5 (by intro h; cases h)) (hg1 g h)
  have hFr := zfrT_a hFr u_7
  refine lv_aload_n hx hb d_T_becomeLent_25 rfl (zl hl rfl) ?_
  refine lv_iload_n hx hb d_T_becomeLent_26 rfl (zl hl rfl) ?_
  refine lv_aload_n hx hb d_T_becomeLent_27 rfl (zl hl rfl) ?_
  refine z_get (C := R_T) (T := F_T) (N := 12) (v := .ref qa) hx hb hts inT_T hown hK hP z_8 rfl 1 (by decide) tw_399 (fun _ h => h) rfl d_T_becomeLent_28 ?_
  refine z_get (C := R_Q) (T := F_Q) (N := 6) (v := .int loan) hx hb hts inT_Q hown hK hP z_9 rfl 0 (by decide) tw_95 (fun _ h => h) rfl d_T_becomeLent_31 ?_
  refine lv_iadd hx hb d_T_becomeLent_34 ?_
  have hD0 := hD
  refine z_put (C := R_T) (T := F_T) (N := 12) (v := .int (now + loan)) hx hb hts inT_T ft_T ft_T_ok fn_T hown hK hP hD hS z_8 rfl 8 (by decide) tw_411 (fun _ h => h) rfl rfl rfl (by simp) d_T_becomeLent_35 (fun ws H locs hP hD hS u_10 => ?_)
  have z_11 : zin ws a (.inr (2, [.int num, .ref qa, .int rank, va_rf ga, .long key, .int 1, .int (tries + 1), .int due, .int (now + loan), .int v, .int w, .int dn])) := u_10.1
  have z_12 := u_10.2 _ _ (zin_ne hD0 z_9 z_8 (by intro h; cases h)) z_9
  have hg1 := fun g (h : ga = some g) => u_10.2 _ _ (zin_ne hD0 (hg1 g h) z_8 (by intro h; cases h)) (hg1 g h)
  have hFr := zfrT_a hFr u_10
  exact z_vretR hx hb hr hlocks hP hD hS (⟨z_11, hg1, hFr⟩) d_T_becomeLent_38
set_option maxHeartbeats 4000000 in
set_option maxRecDepth 100000 in
theorem c_T_tryAgain (l : Launch) {D : va_G} {tys : List (ClassId × FieldType)} {ws : va_W} {H : Heap} (hP : va_P D vwCl ws H) {a qa : Nat} {ga : Option Nat} {num rank st tries due en wk tk dn : Int32} {key : Int64} (hz : zin ws a (.inr (2, [.int num, .ref qa, .int rank, va_rf ga, .long key, .int st, .int tries, .int due, .int en, .int wk, .int tk, .int dn]))) {limit lent : Int32} (hg : ∀ g, ga = some g → zin ws g (.inr (0, [.int limit, .int lent]))) {B : Nat} (hD : va_D (fun q => B ≤ q) ws) {loan most base top growth memory : Int32} (hq : zin ws qa (.inr (1, [.int loan, .int most, .int base, .int top, .int growth, .int memory]))) (now : Int32) : Met l y_T_tryAgain (Cond.code y_T_tryAgain b_T_tryAgain 2 none :: TT) ({ frames := 3, cells := 0, slots := 0, locals := 120 }) (zPc [.ref a, .int now] H D vwCl tys) (zR D vwCl B none (fun ws' => zin ws' a (.inr (2, [.int num, .ref qa, .int rank, va_rf ga, .long key, .int (if tries < most then 0 else 3), .int tries, .int (if tries < most then now + sPause base top tries else due), .int en, .int wk, .int tk, .int dn])) ∧ (∀ g, ga = some g → zin ws' g (.inr (0, [.int limit, .int (gNew st (if tries < most then 0 else 3) lent)]))) ∧ zfrT a ga ws ws')) 0 0 (fun q => B ≤ q) := by
  refine z_body (by decide) (Nat.le_of_ble_eq_true rfl) ?_
  intro p e s m below meth c ls C0 hH hKN hl
  obtain ⟨hx, hb, hr, hts, hown, hlocks, hml⟩ := C0
  subst hH
  have hK := hKN.1
  have hN := hKN.2
  have hS : va_S (fun q => B ≤ q) s.heap s.heap [] := va_S.rf
  have hFr : zfrT a ga ws ws := zfrT_rf
  have hl : lv_has ls 2 [(0, .ref a), (1, .int now)] := hl
  refine lv_aload_n hx hb d_T_tryAgain_0 rfl (zl hl rfl) ?_
  refine z_get (C := R_T) (T := F_T) (N := 12) (v := .int tries) hx hb hts inT_T hown hK hP hz rfl 6 (by decide) tw_407 (fun _ h => h) rfl d_T_tryAgain_1 ?_
  refine lv_aload_n hx hb d_T_tryAgain_4 rfl (zl hl rfl) ?_
  refine z_get (C := R_T) (T := F_T) (N := 12) (v := .ref qa) hx hb hts inT_T hown hK hP hz rfl 1 (by decide) tw_399 (fun _ h => h) rfl d_T_tryAgain_5 ?_
  refine z_get (C := R_Q) (T := F_Q) (N := 6) (v := .int most) hx hb hts inT_Q hown hK hP hq rfl 1 (by decide) tw_97 (fun _ h => h) rfl d_T_tryAgain_8 ?_
  refine lv_icmp_lt (tgt := 22) hx hb d_T_tryAgain_11 (by decide) (fun c_1 => ?_) (fun c_1 => ?_)
  · have b1 := c_1
    refine lv_aload_n hx hb d_T_tryAgain_22 rfl (zl hl rfl) ?_
    refine lv_iload_n hx hb d_T_tryAgain_23 rfl (zl hl rfl) ?_
    refine lv_aload_n hx hb d_T_tryAgain_24 rfl (zl hl rfl) ?_
    refine z_get (C := R_T) (T := F_T) (N := 12) (v := .ref qa) hx hb hts inT_T hown hK hP hz rfl 1 (by decide) tw_399 (fun _ h => h) rfl d_T_tryAgain_25 ?_
    refine lv_aload_n hx hb d_T_tryAgain_28 rfl (zl hl rfl) ?_
    refine z_get (C := R_T) (T := F_T) (N := 12) (v := .int tries) hx hb hts inT_T hown hK hP hz rfl 6 (by decide) tw_407 (fun _ h => h) rfl d_T_tryAgain_29 ?_
    refine z_calli (va_runV (As := [.int tries]) (rest := [.int now, .ref a]) ⟨hx, hb, hml, hown, hts⟩ (c_Q_pauseAfter l hP hq tries) (cwV 1 hts (tt_V tw_544 tw_541 tw_542 tw_543 tw_34) rfl rfl rfl (by decide +kernel) ⟨Nat.le_of_ble_eq_true rfl, Nat.le_of_ble_eq_true rfl⟩) (zPc_V hKN hP (ci := 1) (q := (R_Q, F_Q, 6)) rfl hq) rfl rfl hl.1 rfl (lv_room (Nat.le_of_ble_eq_true rfl)) d_T_tryAgain_32 ⟨Nat.zero_le _, Nat.zero_le _⟩) hS (fun locs hS => ?_)
    refine lv_iadd hx hb d_T_tryAgain_35 ?_
    refine z_call (va_runV (As := [.int (now + (sPause base top tries))]) (rest := []) ⟨hx, hb, hml, hown, hts⟩ (c_T_becomeWaiting l hP hz hg hD (now + (sPause base top tries))) (cwV 1 hts (tt_V tw_210 tw_546 tw_208 tw_209 tw_44) rfl rfl rfl (by decide +kernel) ⟨Nat.le_of_ble_eq_true rfl, Nat.le_of_ble_eq_true rfl⟩) (zPc_V hKN hP (ci := 2) (q := (R_T, F_T, 12)) rfl hz) rfl rfl hl.1 rfl (lv_room (Nat.le_of_ble_eq_true rfl)) d_T_tryAgain_36 ⟨Nat.le_of_ble_eq_true rfl, Nat.le_of_ble_eq_true rfl⟩) hS (fun ws H locs hR hP hD hz9 hS => ?_)
    obtain ⟨hz1, hg1, hFr⟩ := hR
    exact z_vretR hx hb hr hlocks hP hD hS (⟨by first | (simp only [if_pos b1]; exact hz1) | (simp only [if_neg b1]; exact hz1), by first | (simp only [if_pos b1]; exact hg1) | (simp only [if_neg b1]; exact hg1), hFr⟩) d_T_tryAgain_39
  · have b1 : ¬ _ := c_1
    refine lv_aload_n hx hb d_T_tryAgain_14 rfl (zl hl rfl) ?_
    refine lv_iconst (v := 3) hx hb d_T_tryAgain_15 (by decide) ?_
    have hD0 := hD
    refine z_call (va_runV (As := [.int 3]) (rest := []) ⟨hx, hb, hml, hown, hts⟩ (c_T_become l hP hz hg hD 3) (cwV 1 hts (tt_V tw_194 tw_211 tw_192 tw_193 tw_44) rfl rfl rfl (by decide +kernel) ⟨Nat.le_of_ble_eq_true rfl, Nat.le_of_ble_eq_true rfl⟩) (zPc_V hKN hP (ci := 2) (q := (R_T, F_T, 12)) rfl hz) rfl rfl hl.1 rfl (lv_room (Nat.le_of_ble_eq_true rfl)) d_T_tryAgain_16 ⟨Nat.le_of_ble_eq_true rfl, Nat.le_of_ble_eq_true rfl⟩) hS (fun ws H locs hR hP hD hz9 hS => ?_)
    obtain ⟨hz1, hg1, hFr⟩ := hR
    have hq1 := zfrT_q hD0 hFr hz (fun g h => ⟨_, hg g h⟩) hq (by intro h; cases h) (by intro x h; cases h)
    refine lv_goto (tgt := 39) hx hb d_T_tryAgain_19 (by decide) ?_
    exact z_vretR hx hb hr hlocks hP hD hS (⟨by first | (simp only [if_pos b1]; exact hz1) | (simp only [if_neg b1]; exact hz1), by first | (simp only [if_pos b1]; exact hg1) | (simp only [if_neg b1]; exact hg1), hFr⟩) d_T_tryAgain_39
