def sLive (st : Int32) : Bool := decide (st = 0) || decide (st = 1)
def sDue (st due now : Int32) : Bool := decide (st = 0) && decide (due ≤ now)
def sGrown (growth due now : Int32) : Int32 := if growth ≤ 0 then 0 else (now - due) / growth
def sWeight (rank growth due now : Int32) : Int32 := if 9 < rank + sGrown growth due now then 9 else rank + sGrown growth due now
def sWithin (v lo hi : Int32) : Bool := decide (lo ≤ v) && decide (v ≤ hi)
set_option maxHeartbeats 4000000 in
set_option maxRecDepth 100000 in
theorem c_X_within (l : Launch) {D : va_G} {tys : List (ClassId × FieldType)} {ws : va_W} {H : Heap} (hP : va_P D vwCl ws H) (v lo hi : Int32) : Met l y_X_within (Cond.code y_X_within b_X_within 3 (some .boolean) :: TT) ({ frames := 1, cells := 0, slots := 0, locals := 40 }) (zPc [.int v, .int lo, .int hi] H D vwCl tys) (zQi (zb (sWithin v lo hi)) H) 0 0 (fun _ => False) := by
  refine z_body (by decide) (Nat.le_of_ble_eq_true rfl) ?_
  intro p e s m below meth c ls C0 hH hKN hl
  obtain ⟨hx, hb, hr, hts, hown, hlocks, hml⟩ := C0
  subst hH
  have hK := hKN.1
  have hN := hKN.2
  have hS : va_S (fun _ => False) s.heap s.heap [] := va_S.rf
  have hl : lv_has ls 3 [(0, .int v), (1, .int lo), (2, .int hi)] := hl
  refine lv_iload_n hx hb d_X_within_0 rfl (zl hl rfl) ?_
  refine lv_iload_n hx hb d_X_within_1 rfl (zl hl rfl) ?_
  refine lv_icmp_lt (tgt := 14) hx hb d_X_within_2 (by decide) (fun c_1 => ?_) (fun c_1 => ?_)
  · have b1 : ¬ lo ≤ v := zlt_nle c_1
    refine lv_iconst (v := 0) hx hb d_X_within_14 (by decide) ?_
    exact z_zret hx hb hr hlocks hS (by simp [sWithin, zb, *]) d_X_within_15
  · have b1 : lo ≤ v := znlt_le c_1
    refine lv_iload_n hx hb d_X_within_5 rfl (zl hl rfl) ?_
    refine lv_iload_n hx hb d_X_within_6 rfl (zl hl rfl) ?_
    refine lv_icmp_gt (tgt := 14) hx hb d_X_within_7 (by decide) (fun c_2 => ?_) (fun c_2 => ?_)
    · have b2 : ¬ v ≤ hi := zlt_nle c_2
      refine lv_iconst (v := 0) hx hb d_X_within_14 (by decide) ?_
      exact z_zret hx hb hr hlocks hS (by simp [sWithin, zb, *]) d_X_within_15
    · have b2 : v ≤ hi := znlt_le c_2
      refine lv_iconst (v := 1) hx hb d_X_within_10 (by decide) ?_
      refine lv_goto (tgt := 15) hx hb d_X_within_11 (by decide) ?_
      exact z_zret hx hb hr hlocks hS (by simp [sWithin, zb, *]) d_X_within_15
set_option maxHeartbeats 4000000 in
set_option maxRecDepth 100000 in
theorem c_T_isLive (l : Launch) {D : va_G} {tys : List (ClassId × FieldType)} {ws : va_W} {H : Heap} (hP : va_P D vwCl ws H) {a qa : Nat} {ga : Option Nat} {num rank st tries due en wk tk dn : Int32} {key : Int64} (hz : zin ws a (.inr (2, [.int num, .ref qa, .int rank, va_rf ga, .long key, .int st, .int tries, .int due, .int en, .int wk, .int tk, .int dn]))) : Met l y_T_isLive (Cond.code y_T_isLive b_T_isLive 1 (some .boolean) :: TT) ({ frames := 1, cells := 0, slots := 0, locals := 40 }) (zPc [.ref a] H D vwCl tys) (zQi (zb (sLive st)) H) 0 0 (fun _ => False) := by
  refine z_body (by decide) (Nat.le_of_ble_eq_true rfl) ?_
  intro p e s m below meth c ls C0 hH hKN hl
  obtain ⟨hx, hb, hr, hts, hown, hlocks, hml⟩ := C0
  subst hH
  have hK := hKN.1
  have hN := hKN.2
  have hS : va_S (fun _ => False) s.heap s.heap [] := va_S.rf
  have hl : lv_has ls 1 [(0, .ref a)] := hl
  refine lv_aload_n hx hb d_T_isLive_0 rfl (zl hl rfl) ?_
  refine z_get (C := R_T) (T := F_T) (N := 12) (v := .int st) hx hb hts inT_T hown hK hP hz rfl 5 (by decide) tw_405 (fun _ h => h) rfl d_T_isLive_1 ?_
  refine lv_if_eq (tgt := 15) hx hb d_T_isLive_4 (by decide) (fun c_1 => ?_) (fun c_1 => ?_)
  · refine lv_iconst (v := 1) hx hb d_T_isLive_15 (by decide) ?_
    refine lv_goto (tgt := 20) hx hb d_T_isLive_16 (by decide) ?_
    exact z_zret hx hb hr hlocks hS (by simp [sLive, zb, *]) d_T_isLive_20
  · refine lv_aload_n hx hb d_T_isLive_7 rfl (zl hl rfl) ?_
    refine z_get (C := R_T) (T := F_T) (N := 12) (v := .int st) hx hb hts inT_T hown hK hP hz rfl 5 (by decide) tw_405 (fun _ h => h) rfl d_T_isLive_8 ?_
    refine lv_iconst (v := 1) hx hb d_T_isLive_11 (by decide) ?_
    refine lv_icmp_ne (tgt := 19) hx hb d_T_isLive_12 (by decide) (fun c_2 => ?_) (fun c_2 => ?_)
    · refine lv_iconst (v := 0) hx hb d_T_isLive_19 (by decide) ?_
      exact z_zret hx hb hr hlocks hS (by simp [sLive, zb, *]) d_T_isLive_20
    · refine lv_iconst (v := 1) hx hb d_T_isLive_15 (by decide) ?_
      refine lv_goto (tgt := 20) hx hb d_T_isLive_16 (by decide) ?_
      exact z_zret hx hb hr hlocks hS (by simp [sLive, zb, *]) d_T_isLive_20
set_option maxHeartbeats 4000000 in
set_option maxRecDepth 100000 in
theorem c_T_isDue (l : Launch) {D : va_G} {tys : List (ClassId × FieldType)} {ws : va_W} {H : Heap} (hP : va_P D vwCl ws H) {a qa : Nat} {ga : Option Nat} {num rank st tries due en wk tk dn : Int32} {key : Int64} (hz : zin ws a (.inr (2, [.int num, .ref qa, .int rank, va_rf ga, .long key, .int st, .int tries, .int due, .int en, .int wk, .int tk, .int dn]))) (now : Int32) : Met l y_T_isDue (Cond.code y_T_isDue b_T_isDue 2 (some .boolean) :: TT) ({ frames := 1, cells := 0, slots := 0, locals := 40 }) (zPc [.ref a, .int now] H D vwCl tys) (zQi (zb (sDue st due now)) H) 0 0 (fun _ => False) := by
  refine z_body (by decide) (Nat.le_of_ble_eq_true rfl) ?_
  intro p e s m below meth c ls C0 hH hKN hl
  obtain ⟨hx, hb, hr, hts, hown, hlocks, hml⟩ := C0
  subst hH
  have hK := hKN.1
  have hN := hKN.2
  have hS : va_S (fun _ => False) s.heap s.heap [] := va_S.rf
  have hl : lv_has ls 2 [(0, .ref a), (1, .int now)] := hl
  refine lv_aload_n hx hb d_T_isDue_0 rfl (zl hl rfl) ?_
  refine z_get (C := R_T) (T := F_T) (N := 12) (v := .int st) hx hb hts inT_T hown hK hP hz rfl 5 (by decide) tw_405 (fun _ h => h) rfl d_T_isDue_1 ?_
  refine lv_if_ne (tgt := 19) hx hb d_T_isDue_4 (by decide) (fun c_1 => ?_) (fun c_1 => ?_)
  · refine lv_iconst (v := 0) hx hb d_T_isDue_19 (by decide) ?_
    exact z_zret hx hb hr hlocks hS (by simp [sDue, zb, *]) d_T_isDue_20
  · refine lv_aload_n hx hb d_T_isDue_7 rfl (zl hl rfl) ?_
    refine z_get (C := R_T) (T := F_T) (N := 12) (v := .int due) hx hb hts inT_T hown hK hP hz rfl 7 (by decide) tw_409 (fun _ h => h) rfl d_T_isDue_8 ?_
    refine lv_iload_n hx hb d_T_isDue_11 rfl (zl hl rfl) ?_
    refine lv_icmp_gt (tgt := 19) hx hb d_T_isDue_12 (by decide) (fun c_2 => ?_) (fun c_2 => ?_)
    · have b2 : ¬ due ≤ now := zlt_nle c_2
      refine lv_iconst (v := 0) hx hb d_T_isDue_19 (by decide) ?_
      exact z_zret hx hb hr hlocks hS (by simp [sDue, zb, *]) d_T_isDue_20
    · have b2 : due ≤ now := znlt_le c_2
      refine lv_iconst (v := 1) hx hb d_T_isDue_15 (by decide) ?_
      refine lv_goto (tgt := 20) hx hb d_T_isDue_16 (by decide) ?_
      exact z_zret hx hb hr hlocks hS (by simp [sDue, zb, *]) d_T_isDue_20
set_option maxHeartbeats 4000000 in
set_option maxRecDepth 100000 in
theorem c_T_weight (l : Launch) {D : va_G} {tys : List (ClassId × FieldType)} {ws : va_W} {H : Heap} (hP : va_P D vwCl ws H) {a qa : Nat} {ga : Option Nat} {num rank st tries due en wk tk dn : Int32} {key : Int64} (hz : zin ws a (.inr (2, [.int num, .ref qa, .int rank, va_rf ga, .long key, .int st, .int tries, .int due, .int en, .int wk, .int tk, .int dn]))) {loan most base top growth memory : Int32} (hq : zin ws qa (.inr (1, [.int loan, .int most, .int base, .int top, .int growth, .int memory]))) (now : Int32) : Met l y_T_weight (Cond.code y_T_weight b_T_weight 3 (some .int) :: TT) ({ frames := 2, cells := 0, slots := 0, locals := 80 }) (zPc [.ref a, .int now] H D vwCl tys) (zQi (sWeight rank growth due now) H) 0 0 (fun _ => False) := by
  refine z_body (by decide) (Nat.le_of_ble_eq_true rfl) ?_
  intro p e s m below meth c ls C0 hH hKN hl
  obtain ⟨hx, hb, hr, hts, hown, hlocks, hml⟩ := C0
  subst hH
  have hK := hKN.1
  have hN := hKN.2
  have hS : va_S (fun _ => False) s.heap s.heap [] := va_S.rf
  have hl : lv_has ls 3 [(0, .ref a), (1, .int now)] := hl
  refine lv_aload_n hx hb d_T_weight_0 rfl (zl hl rfl) ?_
  refine z_get (C := R_T) (T := F_T) (N := 12) (v := .ref qa) hx hb hts inT_T hown hK hP hz rfl 1 (by decide) tw_399 (fun _ h => h) rfl d_T_weight_1 ?_
  refine z_get (C := R_Q) (T := F_Q) (N := 6) (v := .int growth) hx hb hts inT_Q hown hK hP hq rfl 4 (by decide) tw_101 (fun _ h => h) rfl d_T_weight_4 ?_
  refine lv_if_le (tgt := 27) hx hb d_T_weight_7 (by decide) (fun c_1 => ?_) (fun c_1 => ?_)
  · refine lv_iconst (v := 0) hx hb d_T_weight_27 (by decide) ?_
    refine lv_istore_n (lv' := [(2, .int 0), (0, .ref a), (1, .int now)]) hx hb d_T_weight_28 rfl hl (by decide) rfl (fun ls hl => ?_)
    refine lv_aload_n hx hb d_T_weight_29 rfl (zl hl rfl) ?_
    refine z_get (C := R_T) (T := F_T) (N := 12) (v := .int rank) hx hb hts inT_T hown hK hP hz rfl 2 (by decide) tw_401 (fun _ h => h) rfl d_T_weight_30 ?_
    refine lv_iload_n hx hb d_T_weight_33 rfl (zl hl rfl) ?_
    refine lv_iadd hx hb d_T_weight_34 ?_
    refine lv_bipush (v := 9) hx hb d_T_weight_35 (by decide) ?_
    refine va_mmin hx hb (hml.trans hl.1.symm) hown (hts _ tw_259) (hts _ tw_260) (hts _ tw_46) (hts _ tw_261) (Nat.le_of_ble_eq_true rfl) (Nat.le_of_ble_eq_true rfl) (Nat.zero_le _) (Nat.zero_le _) d_T_weight_37 ?_
    exact z_iret hx hb hr hlocks hS (by simp [sWeight, sGrown, *]) d_T_weight_40
  · refine lv_iload_n hx hb d_T_weight_10 rfl (zl hl rfl) ?_
    refine lv_aload_n hx hb d_T_weight_11 rfl (zl hl rfl) ?_
    refine z_get (C := R_T) (T := F_T) (N := 12) (v := .int due) hx hb hts inT_T hown hK hP hz rfl 7 (by decide) tw_409 (fun _ h => h) rfl d_T_weight_12 ?_
    refine lv_isub hx hb d_T_weight_15 ?_
    refine lv_aload_n hx hb d_T_weight_16 rfl (zl hl rfl) ?_
    refine z_get (C := R_T) (T := F_T) (N := 12) (v := .ref qa) hx hb hts inT_T hown hK hP hz rfl 1 (by decide) tw_399 (fun _ h => h) rfl d_T_weight_17 ?_
    refine z_get (C := R_Q) (T := F_Q) (N := 6) (v := .int growth) hx hb hts inT_Q hown hK hP hq rfl 4 (by decide) tw_101 (fun _ h => h) rfl d_T_weight_20 ?_
    refine lv_idiv hx hb d_T_weight_23 (fun h => c_1 (by rw [h]; decide)) ?_
    refine lv_goto (tgt := 28) hx hb d_T_weight_24 (by decide) ?_
    refine lv_istore_n (lv' := [(2, .int ((now - due) / growth)), (0, .ref a), (1, .int now)]) hx hb d_T_weight_28 rfl hl (by decide) rfl (fun ls hl => ?_)
    refine lv_aload_n hx hb d_T_weight_29 rfl (zl hl rfl) ?_
    refine z_get (C := R_T) (T := F_T) (N := 12) (v := .int rank) hx hb hts inT_T hown hK hP hz rfl 2 (by decide) tw_401 (fun _ h => h) rfl d_T_weight_30 ?_
    refine lv_iload_n hx hb d_T_weight_33 rfl (zl hl rfl) ?_
    refine lv_iadd hx hb d_T_weight_34 ?_
    refine lv_bipush (v := 9) hx hb d_T_weight_35 (by decide) ?_
    refine va_mmin hx hb (hml.trans hl.1.symm) hown (hts _ tw_259) (hts _ tw_260) (hts _ tw_46) (hts _ tw_261) (Nat.le_of_ble_eq_true rfl) (Nat.le_of_ble_eq_true rfl) (Nat.zero_le _) (Nat.zero_le _) d_T_weight_37 ?_
    exact z_iret hx hb hr hlocks hS (by simp [sWeight, sGrown, *]) d_T_weight_40
