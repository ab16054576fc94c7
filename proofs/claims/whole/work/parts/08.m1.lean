def TY (kk : Nat → ClassId) : List (ClassId × FieldType) := [(kk 0, .int), (kk 1, .long), (kk 2, .object "LoanRounds$Queue"), (kk 3, .object "LoanRounds$Group"), (kk 4, .object "java/lang/Object")]
def mlen (j : Nat) : Nat := if j = 10 then 24 else if j = 11 then 8 else 400
def mobj (ad : Nat → Nat) (thr time : Int32) (n : Nat) (tok : Int32) : va_E := .inr (4, [.int thr, .int time, .int (nI n), .int tok, .ref (ad 1), .ref (ad 2), .ref (ad 3), .ref (ad 4), .ref (ad 5), .ref (ad 6), .ref (ad 7), .ref (ad 8), .ref (ad 9), .ref (ad 10), .ref (ad 11)])
def PM (kk : Nat → ClassId) (ad : Nat → Nat) (thr time : Int32) (n : Nat) (tok : Int32) (f : Nat → Nat → Int32) (ky : Nat → Int64) (ws : va_W) : Prop :=
  zin ws (ad 0) (mobj ad thr time n tok) ∧ (∀ j, 1 ≤ j → j < 12 → j ≠ 4 → zin ws (ad j) (.inl (kk 0, mlen j, .inl (f j)))) ∧ zin ws (ad 4) (.inl (kk 1, 400, .inr (.inl ky))) ∧ ∀ i j, i < 12 → j < 12 → ad i = ad j → i = j
section PMS
variable {kk : Nat → ClassId} {ad : Nat → Nat} {thr time : Int32} {n : Nat} {tok : Int32} {f : Nat → Nat → Int32} {ky : Nat → Int64} {ws ws' : va_W}
theorem PM_o (h : PM kk ad thr time n tok f ky ws) : zin ws (ad 0) (.inr (4, [.int thr, .int time, .int (nI n), .int tok, .ref (ad 1), .ref (ad 2), .ref (ad 3), .ref (ad 4), .ref (ad 5), .ref (ad 6), .ref (ad 7), .ref (ad 8), .ref (ad 9), .ref (ad 10), .ref (ad 11)])) := h.1
theorem PM_1 (h : PM kk ad thr time n tok f ky ws) : zin ws (ad 1) (.inl (kk 0, 400, .inl (f 1))) := h.2.1 1 (by decide) (by decide) (by decide)
theorem PM_2 (h : PM kk ad thr time n tok f ky ws) : zin ws (ad 2) (.inl (kk 0, 400, .inl (f 2))) := h.2.1 2 (by decide) (by decide) (by decide)
theorem PM_3 (h : PM kk ad thr time n tok f ky ws) : zin ws (ad 3) (.inl (kk 0, 400, .inl (f 3))) := h.2.1 3 (by decide) (by decide) (by decide)
theorem PM_4 (h : PM kk ad thr time n tok f ky ws) : zin ws (ad 4) (.inl (kk 1, 400, .inr (.inl ky))) := h.2.2.1
theorem PM_5 (h : PM kk ad thr time n tok f ky ws) : zin ws (ad 5) (.inl (kk 0, 400, .inl (f 5))) := h.2.1 5 (by decide) (by decide) (by decide)
theorem PM_6 (h : PM kk ad thr time n tok f ky ws) : zin ws (ad 6) (.inl (kk 0, 400, .inl (f 6))) := h.2.1 6 (by decide) (by decide) (by decide)
theorem PM_7 (h : PM kk ad thr time n tok f ky ws) : zin ws (ad 7) (.inl (kk 0, 400, .inl (f 7))) := h.2.1 7 (by decide) (by decide) (by decide)
theorem PM_8 (h : PM kk ad thr time n tok f ky ws) : zin ws (ad 8) (.inl (kk 0, 400, .inl (f 8))) := h.2.1 8 (by decide) (by decide) (by decide)
theorem PM_9 (h : PM kk ad thr time n tok f ky ws) : zin ws (ad 9) (.inl (kk 0, 400, .inl (f 9))) := h.2.1 9 (by decide) (by decide) (by decide)
theorem PM_10 (h : PM kk ad thr time n tok f ky ws) : zin ws (ad 10) (.inl (kk 0, 24, .inl (f 10))) := h.2.1 10 (by decide) (by decide) (by decide)
theorem PM_11 (h : PM kk ad thr time n tok f ky ws) : zin ws (ad 11) (.inl (kk 0, 8, .inl (f 11))) := h.2.1 11 (by decide) (by decide) (by decide)
theorem PM_ne (h : PM kk ad thr time n tok f ky ws) {i j : Nat} (hi : i < 12) (hj : j < 12) (hij : i ≠ j) : ad i ≠ ad j := fun z => hij (h.2.2.2 i j hi hj z)
theorem PM_wo {thr' time' : Int32} {n' : Nat} {tok' : Int32} (h : PM kk ad thr time n tok f ky ws) (u : zupd ws (ad 0) (mobj ad thr' time' n' tok') ws') : PM kk ad thr' time' n' tok' f ky ws' :=
  ⟨u.1, fun j h1 h2 h3 => u.2 _ _ (PM_ne h h2 (by decide) (by omega)) (h.2.1 j h1 h2 h3), u.2 _ _ (PM_ne h (by decide) (by decide) (by decide)) h.2.2.1, h.2.2.2⟩
theorem PM_wa (h : PM kk ad thr time n tok f ky ws) (j : Nat) (h1 : 1 ≤ j) (h2 : j < 12) (h3 : j ≠ 4) {g : Nat → Int32} {N : Nat} (hN : mlen j = N) (u : zupd ws (ad j) (.inl (kk 0, N, .inl g)) ws') : PM kk ad thr time n tok (va_up f j g) ky ws' := by
  subst hN
  refine ⟨u.2 _ _ (PM_ne h (by decide) h2 (by omega)) h.1, fun i g1 g2 g3 => ?_, u.2 _ _ (PM_ne h (by decide) h2 (by omega)) h.2.2.1, h.2.2.2⟩
  by_cases e : i = j
  · subst e
    rw [va_up_self]
    exact u.1
  · rw [va_up_ne _ _ e]
    exact u.2 _ _ (PM_ne h g2 h2 e) (h.2.1 i g1 g2 g3)
theorem PM_wk (h : PM kk ad thr time n tok f ky ws) {g : Nat → Int64} (u : zupd ws (ad 4) (.inl (kk 1, 400, .inr (.inl g))) ws') : PM kk ad thr time n tok f g ws' :=
  ⟨u.2 _ _ (PM_ne h (by decide) (by decide) (by decide)) h.1, fun j h1 h2 h3 => u.2 _ _ (PM_ne h h2 (by decide) h3) (h.2.1 j h1 h2 h3), u.1, h.2.2.2⟩
def kM (e : va_E) : Bool := match e with
  | .inl (_, n, .inl _) => decide (8 ≤ n)
  | .inl (_, n, .inr (.inl _)) => decide (400 ≤ n)
  | .inr (c, _) => c == 4
  | _ => false
def zfrM (ws ws' : va_W) : Prop := ∀ (b : Nat) (e : va_E), kM e = false → zin ws b e → zin ws' b e
theorem zfrM_rf : zfrM ws ws := fun _ _ _ h => h
theorem zfrM_tr {w2 : va_W} (h1 : zfrM ws ws') (h2 : zfrM ws' w2) : zfrM ws w2 := fun b e hk hz => h2 b e hk (h1 b e hk hz)
theorem zfrM_up {A : Nat → Prop} {a : Nat} {e0 e1 : va_E} (hD : va_D A ws) (hz : zin ws a e0) (hk : kM e0 = true) (u : zupd ws a e1 ws') : zfrM ws ws' := fun b e he hb => u.2 b e (zin_ne hD hb hz (fun z => by rw [z, hk] at he; cases he)) hb
end PMS
def cnt (P : Nat → Bool) : Nat → Nat | 0 => 0 | k + 1 => cnt P k + (if P k = true then 1 else 0)
theorem cnt_le (P : Nat → Bool) : ∀ n, cnt P n ≤ n
  | 0 => Nat.le_refl _
  | k + 1 => by
    have := cnt_le P k
    unfold cnt
    split <;> omega
theorem cnt_congr {P Q : Nat → Bool} : ∀ n, (∀ k, k < n → P k = Q k) → cnt P n = cnt Q n
  | 0, _ => rfl
  | k + 1, h => by
    unfold cnt
    rw [cnt_congr k (fun j hj => h j (by omega)), h k (by omega)]
def fnd (P : Nat → Bool) : Nat → Nat → Option Nat
  | _, 0 => none
  | i, r + 1 => if P i = true then some i else fnd P (i + 1) r
def lstD (P : Nat → Bool) : Nat → Option Nat
  | 0 => none
  | k + 1 => if P k = true then some k else lstD P k
def oI (o : Option Nat) : Int32 := match o with
  | none => -1
  | some k => nI k
theorem z_ge {i n : Nat} (hi : i ≤ n) (hn : n < 2 ^ 31) (h : nI n ≤ nI i) : i = n := by
  have := (nI_leI hn (by omega)).mp h
  omega
theorem z_lt {i n : Nat} (hi : i ≤ n) (hn : n < 2 ^ 31) (h : ¬ nI n ≤ nI i) : i < n := by
  rcases Nat.lt_or_ge i n with q | q
  · exact q
  · exact absurd (nI_le q (by omega)) h
theorem cnt_t {P : Nat → Bool} {i : Nat} (h : P i = true) : nI (cnt P i) + 1 = nI (cnt P (i + 1)) := by
  show _ = nI (cnt P i + (if P i = true then 1 else 0))
  rw [if_pos h]
  exact nI_1 _
theorem cnt_f {P : Nat → Bool} {i : Nat} (h : P i = false) : nI (cnt P i) = nI (cnt P (i + 1)) := by
  show _ = nI (cnt P i + (if P i = true then 1 else 0))
  rw [if_neg (by rw [h]; decide)]
  rfl
theorem cnt_f0 {P : Nat → Bool} {i : Nat} (h : P i = false) : nI (cnt P i) + 0 = nI (cnt P (i + 1)) := by
  rw [← cnt_f h]
  exact nI_add _ 0
section ZT
variable {p : Program} {l : Launch} {e : Env} {R : Room} {s : State} {m : MethodId} {args : Array Value} {below : List Frame} {meth : Method} {c : Code} {H : Heap} {locs : List Loc} {cells slots : Nat} {Q : State → Prop} {pc : Nat} {ls : Array Slot} {rest : List Value}
theorem z_top {x y : Int32} (h : x = y) (k : W p l e R s m args below meth c H locs cells slots Q (F0 m pc ls (.int y :: rest))) : W p l e R s m args below meth c H locs cells slots Q (F0 m pc ls (.int x :: rest)) := by
  rw [h]
  exact k
end ZT
theorem z_idx (j c : Nat) : (6 : Int32) * nI j + nI c = nI (6 * j + c) := by
  rw [show (6 : Int32) = nI 6 by decide, pk_mul, nI_add]
theorem z_idx0 (j : Nat) : (6 : Int32) * nI j = nI (6 * j) := by
  rw [show (6 : Int32) = nI 6 by decide, pk_mul]
def qx (f : Nat → Nat → Int32) (t : Nat) : Nat := (f 1 t).toNatClampNeg
def gx (f : Nat → Nat → Int32) (t : Nat) : Nat := (f 3 t).toNatClampNeg
def okq (f : Nat → Nat → Int32) (n : Nat) : Prop := ∀ t, t < n → f 1 t = nI (qx f t) ∧ qx f t < 4
def okg (f : Nat → Nat → Int32) (n : Nat) : Prop := ∀ t, t < n → f 3 t = -1 ∨ (f 3 t = nI (gx f t) ∧ gx f t < 8)
def pLive (f : Nat → Nat → Int32) (k : Nat) : Bool := sLive (f 6 k)
def pLent (f : Nat → Nat → Int32) (g : Int32) (k : Nat) : Bool := decide (f 6 k = 1) && decide (f 3 k = g)
def pTo (f : Nat → Nat → Int32) (w : Int32) (k : Nat) : Bool := decide (f 6 k = 1) && decide (f 8 k = w)
def pSt (f : Nat → Nat → Int32) (v : Int32) (k : Nat) : Bool := decide (f 6 k = v)
def pWq (f : Nat → Nat → Int32) (q : Int32) (k : Nat) : Bool := decide (f 6 k = 0) && decide (f 1 k = q)
def pTok (f : Nat → Nat → Int32) (v : Int32) (k : Nat) : Bool := decide (f 6 k = 1) && decide (f 9 k = v)
def wgt (f : Nat → Nat → Int32) (time : Int32) (t : Nat) : Int32 := sWeight (f 2 t) (f 10 (6 * qx f t + 4)) (f 7 t) time
def pHad (f : Nat → Nat → Int32) (time : Int32) (n t : Nat) : Bool := decide (f 6 t = 0) && decide (f 7 t ≤ time) && (decide (f 3 t = -1) || decide (nI (cnt (pLent f (f 3 t)) n) < f 11 (gx f t)))
set_option maxHeartbeats 4000000 in
set_option maxRecDepth 100000 in
theorem c_M_within (l : Launch) {D : va_G} {tys : List (ClassId × FieldType)} {ws : va_W} {H : Heap} (hP : va_P D vwCl ws H) (v lo hi : Int32) : Met l y_M_within (Cond.code y_M_within b_M_within 3 (some .boolean) :: TT) ({ frames := 1, cells := 0, slots := 0, locals := 40 }) (zPc [.int v, .int lo, .int hi] H D vwCl tys) (zQi (zb (sWithin v lo hi)) H) 0 0 (fun _ => False) := by
  refine z_body (by decide) (Nat.le_of_ble_eq_true rfl) ?_
  intro p e s m below meth c ls C0 hH hKN hl
  obtain ⟨hx, hb, hr, hts, hown, hlocks, hml⟩ := C0
  subst hH
  have hK := hKN.1
  have hN := hKN.2
  have hS : va_S (fun _ => False) s.heap s.heap [] := va_S.rf
  have hl : lv_has ls 3 [(0, .int v), (1, .int lo), (2, .int hi)] := hl
  refine lv_iload_n hx hb d_M_within_0 rfl (zl hl rfl) ?_
  refine lv_iload_n hx hb d_M_within_1 rfl (zl hl rfl) ?_
  refine lv_icmp_lt (tgt := 14) hx hb d_M_within_2 (by decide) (fun c_1 => ?_) (fun c_1 => ?_)
  · have b1 : ¬ lo ≤ v := zlt_nle c_1
    refine lv_iconst (v := 0) hx hb d_M_within_14 (by decide) ?_
    exact z_zret hx hb hr hlocks hS (by simp [sWithin, zb, *]) d_M_within_15
  · have b1 : lo ≤ v := znlt_le c_1
    refine lv_iload_n hx hb d_M_within_5 rfl (zl hl rfl) ?_
    refine lv_iload_n hx hb d_M_within_6 rfl (zl hl rfl) ?_
    refine lv_icmp_gt (tgt := 14) hx hb d_M_within_7 (by decide) (fun c_2 => ?_) (fun c_2 => ?_)
    · have b2 : ¬ v ≤ hi := zlt_nle c_2
      refine lv_iconst (v := 0) hx hb d_M_within_14 (by decide) ?_
      exact z_zret hx hb hr hlocks hS (by simp [sWithin, zb, *]) d_M_within_15
    · have b2 : v ≤ hi := znlt_le c_2
      refine lv_iconst (v := 1) hx hb d_M_within_10 (by decide) ?_
      refine lv_goto (tgt := 15) hx hb d_M_within_11 (by decide) ?_
      exact z_zret hx hb hr hlocks hS (by simp [sWithin, zb, *]) d_M_within_15
set_option maxHeartbeats 4000000 in
set_option maxRecDepth 100000 in
theorem c_M_isLive (l : Launch) {D : va_G} {ws : va_W} {H : Heap} (hP : va_P D vwCl ws H) {kk : Nat → ClassId} {ad : Nat → Nat} {thr time tok : Int32} {n : Nat} {f : Nat → Nat → Int32} {ky : Nat → Int64} (hM : PM kk ad thr time n tok f ky ws) (t : Nat) (ht : t < 400) : Met l y_M_isLive (Cond.code y_M_isLive b_M_isLive 2 (some .boolean) :: TT) ({ frames := 1, cells := 0, slots := 0, locals := 40 }) (zPc [.ref (ad 0), .int (nI t)] H D vwCl (TY kk)) (zQi (zb (sLive (f 6 t))) H) 0 0 (fun _ => False) := by
  refine z_body (by decide) (Nat.le_of_ble_eq_true rfl) ?_
  intro p e s m below meth c ls C0 hH hKN hl
  obtain ⟨hx, hb, hr, hts, hown, hlocks, hml⟩ := C0
  subst hH
  have hK := hKN.1
  have hN := hKN.2
  have hS : va_S (fun _ => False) s.heap s.heap [] := va_S.rf
  have hl : lv_has ls 2 [(0, .ref (ad 0)), (1, .int (nI t))] := hl
  refine lv_aload_n hx hb d_M_isLive_0 rfl (zl hl rfl) ?_
  refine z_get (C := R_M) (T := F_M) (N := 15) (v := .ref (ad 6)) hx hb hts inT_M hown hK hP (PM_o hM) rfl 9 (by decide) tw_582 (fun _ h => h) rfl d_M_isLive_1 ?_
  refine lv_iload_n hx hb d_M_isLive_4 rfl (zl hl rfl) ?_
  refine z_iald hx hb hK hP 0 (PM_6 hM) rfl t rfl (by omega) (by decide) d_M_isLive_5 ?_
  refine lv_if_eq (tgt := 19) hx hb d_M_isLive_6 (by decide) (fun c_1 => ?_) (fun c_1 => ?_)
  · refine lv_iconst (v := 1) hx hb d_M_isLive_19 (by decide) ?_
    refine lv_goto (tgt := 24) hx hb d_M_isLive_20 (by decide) ?_
    exact z_zret hx hb hr hlocks hS (by simp [sLive, zb, *]) d_M_isLive_24
  · refine lv_aload_n hx hb d_M_isLive_9 rfl (zl hl rfl) ?_
    refine z_get (C := R_M) (T := F_M) (N := 15) (v := .ref (ad 6)) hx hb hts inT_M hown hK hP (PM_o hM) rfl 9 (by decide) tw_582 (fun _ h => h) rfl d_M_isLive_10 ?_
    refine lv_iload_n hx hb d_M_isLive_13 rfl (zl hl rfl) ?_
    refine z_iald hx hb hK hP 0 (PM_6 hM) rfl t rfl (by omega) (by decide) d_M_isLive_14 ?_
    refine lv_iconst (v := 1) hx hb d_M_isLive_15 (by decide) ?_
    refine lv_icmp_ne (tgt := 23) hx hb d_M_isLive_16 (by decide) (fun c_2 => ?_) (fun c_2 => ?_)
    · refine lv_iconst (v := 0) hx hb d_M_isLive_23 (by decide) ?_
      exact z_zret hx hb hr hlocks hS (by simp [sLive, zb, *]) d_M_isLive_24
    · refine lv_iconst (v := 1) hx hb d_M_isLive_19 (by decide) ?_
      refine lv_goto (tgt := 24) hx hb d_M_isLive_20 (by decide) ?_
      exact z_zret hx hb hr hlocks hS (by simp [sLive, zb, *]) d_M_isLive_24
set_option maxHeartbeats 4000000 in
set_option maxRecDepth 100000 in
theorem c_M_lives (l : Launch) {D : va_G} {ws : va_W} {H : Heap} (hP : va_P D vwCl ws H) {kk : Nat → ClassId} {ad : Nat → Nat} {thr time tok : Int32} {n : Nat} {f : Nat → Nat → Int32} {ky : Nat → Int64} (hM : PM kk ad thr time n tok f ky ws)  (hn : n ≤ 400) : Met l y_M_lives (Cond.code y_M_lives b_M_lives 3 (some .int) :: TT) ({ frames := 2, cells := 0, slots := 0, locals := 80 }) (zPc [.ref (ad 0)] H D vwCl (TY kk)) (zQi (nI (cnt (pLive f) n)) H) 0 0 (fun _ => False) := by
  refine z_body (by decide) (Nat.le_of_ble_eq_true rfl) ?_
  intro p e s m below meth c ls C0 hH hKN hl
  obtain ⟨hx, hb, hr, hts, hown, hlocks, hml⟩ := C0
  subst hH
  have hK := hKN.1
  have hN := hKN.2
  have hS : va_S (fun _ => False) s.heap s.heap [] := va_S.rf
  have key : ∀ (r i : Nat) (ls : Array Slot) (locs : List Loc), i ≤ n → n + 1 ≤ i + r → lv_has ls 3 [(0, .ref (ad 0)), (1, .int (nI (cnt (pLive f) i))), (2, .int (nI i))] → va_S (fun _ => False) s.heap s.heap locs → W p l e ({ frames := 2, cells := 0, slots := 0, locals := 80 }) s m ([.ref (ad 0)] : List Value).toArray below meth c s.heap locs 0 0 (MQ below (zQi (nI (cnt (pLive f) n)) s.heap) ([.ref (ad 0)] : List Value).toArray s 0 0 (fun _ => False)) (F0 m 4 ls []) := by
    intro r
    induction r with
    | zero => intro i ls locs h1 h2; omega
    | succ r ih =>
      intro i ls locs hi hir hl hS
      refine lv_iload_n hx hb d_M_lives_4 rfl (zl hl rfl) ?_
      refine lv_aload_n hx hb d_M_lives_5 rfl (zl hl rfl) ?_
      refine z_get (C := R_M) (T := F_M) (N := 15) (v := .int (nI n)) hx hb hts inT_M hown hK hP (PM_o hM) rfl 2 (by decide) tw_575 (fun _ h => h) rfl d_M_lives_6 ?_
      refine lv_icmp_ge (tgt := 34) hx hb d_M_lives_9 (by decide) (fun c_1 => ?_) (fun c_1 => ?_)
      · have hin := z_ge hi (by omega) c_1
        refine lv_iload_n hx hb d_M_lives_34 rfl (zl hl rfl) ?_
        exact z_iret hx hb hr hlocks hS (by rw [hin]) d_M_lives_35
      · have hlt := z_lt hi (by omega) c_1
        refine lv_iload_n hx hb d_M_lives_12 rfl (zl hl rfl) ?_
        refine lv_aload_n hx hb d_M_lives_13 rfl (zl hl rfl) ?_
        refine lv_iload_n hx hb d_M_lives_14 rfl (zl hl rfl) ?_
        refine z_calli (va_runV (As := [.int (nI i)]) (rest := [.int (nI (cnt (pLive f) i))]) ⟨hx, hb, hml, hown, hts⟩ (c_M_isLive l hP hM i (by omega)) (cwV 1 hts (tt_V tw_643 tw_640 tw_642 tw_17 tw_36) rfl rfl rfl (by decide +kernel) ⟨Nat.le_of_ble_eq_true rfl, Nat.le_of_ble_eq_true rfl⟩) (zPc_V hKN hP (ci := 4) (q := (R_M, F_M, 15)) rfl (PM_o hM)) rfl rfl hl.1 rfl (lv_room (Nat.le_of_ble_eq_true rfl)) d_M_lives_15 ⟨Nat.zero_le _, Nat.zero_le _⟩) hS (fun locs hS => ?_)
        refine lv_if_eq (tgt := 25) hx hb d_M_lives_18 (by decide) (fun c_2 => ?_) (fun c_2 => ?_)
        · have b1 := zb_f c_2
          refine lv_iconst (v := 0) hx hb d_M_lives_25 (by decide) ?_
          refine lv_iadd hx hb d_M_lives_26 ?_
          refine lv_istore_n (lv' := [(1, .int ((nI (cnt (pLive f) i)) + 0)), (0, .ref (ad 0)), (2, .int (nI i))]) hx hb d_M_lives_27 rfl hl (by decide) rfl (fun ls hl => ?_)
          refine lv_iinc (v := (nI (i + 1))) (lv' := [(2, .int (nI (i + 1))), (1, .int ((nI (cnt (pLive f) i)) + 0)), (0, .ref (ad 0))]) hx hb d_M_lives_28 hl (k := 2) rfl (nI_1 i) (by decide) rfl (fun ls hl => ?_)
          refine lv_goto (tgt := 4) hx hb d_M_lives_31 (by decide) ?_
          rw [show (nI (cnt (pLive f) i)) + 0 = nI (cnt (pLive f) (i + 1)) from cnt_f0 (by simp [pLive, *])] at hl
          exact ih (i + 1) ls locs (by omega) (by omega) (lv_sub hl [2, 1, 0] rfl) hS
        · have b1 := zb_t c_2
          refine lv_iconst (v := 1) hx hb d_M_lives_21 (by decide) ?_
          refine lv_goto (tgt := 26) hx hb d_M_lives_22 (by decide) ?_
          refine lv_iadd hx hb d_M_lives_26 ?_
          refine lv_istore_n (lv' := [(1, .int ((nI (cnt (pLive f) i)) + 1)), (0, .ref (ad 0)), (2, .int (nI i))]) hx hb d_M_lives_27 rfl hl (by decide) rfl (fun ls hl => ?_)
          refine lv_iinc (v := (nI (i + 1))) (lv' := [(2, .int (nI (i + 1))), (1, .int ((nI (cnt (pLive f) i)) + 1)), (0, .ref (ad 0))]) hx hb d_M_lives_28 hl (k := 2) rfl (nI_1 i) (by decide) rfl (fun ls hl => ?_)
          refine lv_goto (tgt := 4) hx hb d_M_lives_31 (by decide) ?_
          rw [show (nI (cnt (pLive f) i)) + 1 = nI (cnt (pLive f) (i + 1)) from cnt_t (by simp [pLive, *])] at hl
          exact ih (i + 1) ls locs (by omega) (by omega) (lv_sub hl [2, 1, 0] rfl) hS
  have hl : lv_has ls 3 [(0, .ref (ad 0))] := hl
  refine lv_iconst (v := 0) hx hb d_M_lives_0 (by decide) ?_
  refine lv_istore_n (lv' := [(1, .int 0), (0, .ref (ad 0))]) hx hb d_M_lives_1 rfl hl (by decide) rfl (fun ls hl => ?_)
  refine lv_iconst (v := 0) hx hb d_M_lives_2 (by decide) ?_
  refine lv_istore_n (lv' := [(2, .int 0), (1, .int 0), (0, .ref (ad 0))]) hx hb d_M_lives_3 rfl hl (by decide) rfl (fun ls hl => ?_)
  exact key (n + 1) 0 ls [] (Nat.zero_le _) (by omega) (lv_sub hl [2, 1, 0] rfl) hS
set_option maxHeartbeats 4000000 in
set_option maxRecDepth 100000 in
theorem c_M_lentOf (l : Launch) {D : va_G} {ws : va_W} {H : Heap} (hP : va_P D vwCl ws H) {kk : Nat → ClassId} {ad : Nat → Nat} {thr time tok : Int32} {n : Nat} {f : Nat → Nat → Int32} {ky : Nat → Int64} (hM : PM kk ad thr time n tok f ky ws) (g : Int32) (hn : n ≤ 400) : Met l y_M_lentOf (Cond.code y_M_lentOf b_M_lentOf 4 (some .int) :: TT) ({ frames := 1, cells := 0, slots := 0, locals := 40 }) (zPc [.ref (ad 0), .int g] H D vwCl (TY kk)) (zQi (nI (cnt (pLent f g) n)) H) 0 0 (fun _ => False) := by
  refine z_body (by decide) (Nat.le_of_ble_eq_true rfl) ?_
  intro p e s m below meth c ls C0 hH hKN hl
  obtain ⟨hx, hb, hr, hts, hown, hlocks, hml⟩ := C0
  subst hH
  have hK := hKN.1
  have hN := hKN.2
  have hS : va_S (fun _ => False) s.heap s.heap [] := va_S.rf
  have key : ∀ (r i : Nat) (ls : Array Slot) (locs : List Loc), i ≤ n → n + 1 ≤ i + r → lv_has ls 4 [(0, .ref (ad 0)), (1, .int g), (2, .int (nI (cnt (pLent f g) i))), (3, .int (nI i))] → va_S (fun _ => False) s.heap s.heap locs → W p l e ({ frames := 1, cells := 0, slots := 0, locals := 40 }) s m ([.ref (ad 0), .int g] : List Value).toArray below meth c s.heap locs 0 0 (MQ below (zQi (nI (cnt (pLent f g) n)) s.heap) ([.ref (ad 0), .int g] : List Value).toArray s 0 0 (fun _ => False)) (F0 m 4 ls []) := by
    intro r
    induction r with
    | zero => intro i ls locs h1 h2; omega
    | succ r ih =>
      intro i ls locs hi hir hl hS
      refine lv_iload_n hx hb d_M_lentOf_4 rfl (zl hl rfl) ?_
      refine lv_aload_n hx hb d_M_lentOf_5 rfl (zl hl rfl) ?_
      refine z_get (C := R_M) (T := F_M) (N := 15) (v := .int (nI n)) hx hb hts inT_M hown hK hP (PM_o hM) rfl 2 (by decide) tw_575 (fun _ h => h) rfl d_M_lentOf_6 ?_
      refine lv_icmp_ge (tgt := 46) hx hb d_M_lentOf_9 (by decide) (fun c_1 => ?_) (fun c_1 => ?_)
      · have hin := z_ge hi (by omega) c_1
        refine lv_iload_n hx hb d_M_lentOf_46 rfl (zl hl rfl) ?_
        exact z_iret hx hb hr hlocks hS (by rw [hin]) d_M_lentOf_47
      · have hlt := z_lt hi (by omega) c_1
        refine lv_iload_n hx hb d_M_lentOf_12 rfl (zl hl rfl) ?_
        refine lv_aload_n hx hb d_M_lentOf_13 rfl (zl hl rfl) ?_
        refine z_get (C := R_M) (T := F_M) (N := 15) (v := .ref (ad 6)) hx hb hts inT_M hown hK hP (PM_o hM) rfl 9 (by decide) tw_582 (fun _ h => h) rfl d_M_lentOf_14 ?_
        refine lv_iload_n hx hb d_M_lentOf_17 rfl (zl hl rfl) ?_
        refine z_iald hx hb hK hP 0 (PM_6 hM) rfl i rfl (by omega) (by decide) d_M_lentOf_18 ?_
        refine lv_iconst (v := 1) hx hb d_M_lentOf_19 (by decide) ?_
        refine lv_icmp_ne (tgt := 37) hx hb d_M_lentOf_20 (by decide) (fun c_2 => ?_) (fun c_2 => ?_)
        · refine lv_iconst (v := 0) hx hb d_M_lentOf_37 (by decide) ?_
          refine lv_iadd hx hb d_M_lentOf_38 ?_
          refine lv_istore_n (lv' := [(2, .int ((nI (cnt (pLent f g) i)) + 0)), (0, .ref (ad 0)), (1, .int g), (3, .int (nI i))]) hx hb d_M_lentOf_39 rfl hl (by decide) rfl (fun ls hl => ?_)
          refine lv_iinc (v := (nI (i + 1))) (lv' := [(3, .int (nI (i + 1))), (2, .int ((nI (cnt (pLent f g) i)) + 0)), (0, .ref (ad 0)), (1, .int g)]) hx hb d_M_lentOf_40 hl (k := 3) rfl (nI_1 i) (by decide) rfl (fun ls hl => ?_)
          refine lv_goto (tgt := 4) hx hb d_M_lentOf_43 (by decide) ?_
          rw [show (nI (cnt (pLent f g) i)) + 0 = nI (cnt (pLent f g) (i + 1)) from cnt_f0 (by simp [pLent, *])] at hl
          exact ih (i + 1) ls locs (by omega) (by omega) (lv_sub hl [2, 3, 1, 0] rfl) hS
        · refine lv_aload_n hx hb d_M_lentOf_23 rfl (zl hl rfl) ?_
          refine z_get (C := R_M) (T := F_M) (N := 15) (v := .ref (ad 3)) hx hb hts inT_M hown hK hP (PM_o hM) rfl 6 (by decide) tw_579 (fun _ h => h) rfl d_M_lentOf_24 ?_
          refine lv_iload_n hx hb d_M_lentOf_27 rfl (zl hl rfl) ?_
          refine z_iald hx hb hK hP 0 (PM_3 hM) rfl i rfl (by omega) (by decide) d_M_lentOf_28 ?_
          refine lv_iload_n hx hb d_M_lentOf_29 rfl (zl hl rfl) ?_
          refine lv_icmp_ne (tgt := 37) hx hb d_M_lentOf_30 (by decide) (fun c_3 => ?_) (fun c_3 => ?_)
          · refine lv_iconst (v := 0) hx hb d_M_lentOf_37 (by decide) ?_
            refine lv_iadd hx hb d_M_lentOf_38 ?_
            refine lv_istore_n (lv' := [(2, .int ((nI (cnt (pLent f g) i)) + 0)), (0, .ref (ad 0)), (1, .int g), (3, .int (nI i))]) hx hb d_M_lentOf_39 rfl hl (by decide) rfl (fun ls hl => ?_)
            refine lv_iinc (v := (nI (i + 1))) (lv' := [(3, .int (nI (i + 1))), (2, .int ((nI (cnt (pLent f g) i)) + 0)), (0, .ref (ad 0)), (1, .int g)]) hx hb d_M_lentOf_40 hl (k := 3) rfl (nI_1 i) (by decide) rfl (fun ls hl => ?_)
            refine lv_goto (tgt := 4) hx hb d_M_lentOf_43 (by decide) ?_
            rw [show (nI (cnt (pLent f g) i)) + 0 = nI (cnt (pLent f g) (i + 1)) from cnt_f0 (by simp [pLent, *])] at hl
            exact ih (i + 1) ls locs (by omega) (by omega) (lv_sub hl [2, 3, 1, 0] rfl) hS
          · refine lv_iconst (v := 1) hx hb d_M_lentOf_33 (by decide) ?_
            refine lv_goto (tgt := 38) hx hb d_M_lentOf_34 (by decide) ?_
            refine lv_iadd hx hb d_M_lentOf_38 ?_
            refine lv_istore_n (lv' := [(2, .int ((nI (cnt (pLent f g) i)) + 1)), (0, .ref (ad 0)), (1, .int g), (3, .int (nI i))]) hx hb d_M_lentOf_39 rfl hl (by decide) rfl (fun ls hl => ?_)
            refine lv_iinc (v := (nI (i + 1))) (lv' := [(3, .int (nI (i + 1))), (2, .int ((nI (cnt (pLent f g) i)) + 1)), (0, .ref (ad 0)), (1, .int g)]) hx hb d_M_lentOf_40 hl (k := 3) rfl (nI_1 i) (by decide) rfl (fun ls hl => ?_)
            refine lv_goto (tgt := 4) hx hb d_M_lentOf_43 (by decide) ?_
            rw [show (nI (cnt (pLent f g) i)) + 1 = nI (cnt (pLent f g) (i + 1)) from cnt_t (by simp [pLent, *])] at hl
            exact ih (i + 1) ls locs (by omega) (by omega) (lv_sub hl [2, 3, 1, 0] rfl) hS
  have hl : lv_has ls 4 [(0, .ref (ad 0)), (1, .int g)] := hl
  refine lv_iconst (v := 0) hx hb d_M_lentOf_0 (by decide) ?_
  refine lv_istore_n (lv' := [(2, .int 0), (0, .ref (ad 0)), (1, .int g)]) hx hb d_M_lentOf_1 rfl hl (by decide) rfl (fun ls hl => ?_)
  refine lv_iconst (v := 0) hx hb d_M_lentOf_2 (by decide) ?_
  refine lv_istore_n (lv' := [(3, .int 0), (2, .int 0), (0, .ref (ad 0)), (1, .int g)]) hx hb d_M_lentOf_3 rfl hl (by decide) rfl (fun ls hl => ?_)
  exact key (n + 1) 0 ls [] (Nat.zero_le _) (by omega) (lv_sub hl [2, 3, 1, 0] rfl) hS
set_option maxHeartbeats 4000000 in
set_option maxRecDepth 100000 in
theorem c_M_lentTo (l : Launch) {D : va_G} {ws : va_W} {H : Heap} (hP : va_P D vwCl ws H) {kk : Nat → ClassId} {ad : Nat → Nat} {thr time tok : Int32} {n : Nat} {f : Nat → Nat → Int32} {ky : Nat → Int64} (hM : PM kk ad thr time n tok f ky ws) (v : Int32) (hn : n ≤ 400) : Met l y_M_lentTo (Cond.code y_M_lentTo b_M_lentTo 4 (some .int) :: TT) ({ frames := 1, cells := 0, slots := 0, locals := 40 }) (zPc [.ref (ad 0), .int v] H D vwCl (TY kk)) (zQi (nI (cnt (pTo f v) n)) H) 0 0 (fun _ => False) := by
  refine z_body (by decide) (Nat.le_of_ble_eq_true rfl) ?_
  intro p e s m below meth c ls C0 hH hKN hl
  obtain ⟨hx, hb, hr, hts, hown, hlocks, hml⟩ := C0
  subst hH
  have hK := hKN.1
  have hN := hKN.2
  have hS : va_S (fun _ => False) s.heap s.heap [] := va_S.rf
  have key : ∀ (r i : Nat) (ls : Array Slot) (locs : List Loc), i ≤ n → n + 1 ≤ i + r → lv_has ls 4 [(0, .ref (ad 0)), (1, .int v), (2, .int (nI (cnt (pTo f v) i))), (3, .int (nI i))] → va_S (fun _ => False) s.heap s.heap locs → W p l e ({ frames := 1, cells := 0, slots := 0, locals := 40 }) s m ([.ref (ad 0), .int v] : List Value).toArray below meth c s.heap locs 0 0 (MQ below (zQi (nI (cnt (pTo f v) n)) s.heap) ([.ref (ad 0), .int v] : List Value).toArray s 0 0 (fun _ => False)) (F0 m 4 ls []) := by
    intro r
    induction r with
    | zero => intro i ls locs h1 h2; omega
    | succ r ih =>
      intro i ls locs hi hir hl hS
      refine lv_iload_n hx hb d_M_lentTo_4 rfl (zl hl rfl) ?_
      refine lv_aload_n hx hb d_M_lentTo_5 rfl (zl hl rfl) ?_
      refine z_get (C := R_M) (T := F_M) (N := 15) (v := .int (nI n)) hx hb hts inT_M hown hK hP (PM_o hM) rfl 2 (by decide) tw_575 (fun _ h => h) rfl d_M_lentTo_6 ?_
      refine lv_icmp_ge (tgt := 46) hx hb d_M_lentTo_9 (by decide) (fun c_1 => ?_) (fun c_1 => ?_)
      · have hin := z_ge hi (by omega) c_1
        refine lv_iload_n hx hb d_M_lentTo_46 rfl (zl hl rfl) ?_
        exact z_iret hx hb hr hlocks hS (by rw [hin]) d_M_lentTo_47
      · have hlt := z_lt hi (by omega) c_1
        refine lv_iload_n hx hb d_M_lentTo_12 rfl (zl hl rfl) ?_
        refine lv_aload_n hx hb d_M_lentTo_13 rfl (zl hl rfl) ?_
        refine z_get (C := R_M) (T := F_M) (N := 15) (v := .ref (ad 6)) hx hb hts inT_M hown hK hP (PM_o hM) rfl 9 (by decide) tw_582 (fun _ h => h) rfl d_M_lentTo_14 ?_
        refine lv_iload_n hx hb d_M_lentTo_17 rfl (zl hl rfl) ?_
        refine z_iald hx hb hK hP 0 (PM_6 hM) rfl i rfl (by omega) (by decide) d_M_lentTo_18 ?_
        refine lv_iconst (v := 1) hx hb d_M_lentTo_19 (by decide) ?_
        refine lv_icmp_ne (tgt := 37) hx hb d_M_lentTo_20 (by decide) (fun c_2 => ?_) (fun c_2 => ?_)
        · refine lv_iconst (v := 0) hx hb d_M_lentTo_37 (by decide) ?_
          refine lv_iadd hx hb d_M_lentTo_38 ?_
          refine lv_istore_n (lv' := [(2, .int ((nI (cnt (pTo f v) i)) + 0)), (0, .ref (ad 0)), (1, .int v), (3, .int (nI i))]) hx hb d_M_lentTo_39 rfl hl (by decide) rfl (fun ls hl => ?_)
          refine lv_iinc (v := (nI (i + 1))) (lv' := [(3, .int (nI (i + 1))), (2, .int ((nI (cnt (pTo f v) i)) + 0)), (0, .ref (ad 0)), (1, .int v)]) hx hb d_M_lentTo_40 hl (k := 3) rfl (nI_1 i) (by decide) rfl (fun ls hl => ?_)
          refine lv_goto (tgt := 4) hx hb d_M_lentTo_43 (by decide) ?_
          rw [show (nI (cnt (pTo f v) i)) + 0 = nI (cnt (pTo f v) (i + 1)) from cnt_f0 (by simp [pTo, *])] at hl
          exact ih (i + 1) ls locs (by omega) (by omega) (lv_sub hl [2, 3, 1, 0] rfl) hS
        · refine lv_aload_n hx hb d_M_lentTo_23 rfl (zl hl rfl) ?_
          refine z_get (C := R_M) (T := F_M) (N := 15) (v := .ref (ad 8)) hx hb hts inT_M hown hK hP (PM_o hM) rfl 11 (by decide) tw_584 (fun _ h => h) rfl d_M_lentTo_24 ?_
          refine lv_iload_n hx hb d_M_lentTo_27 rfl (zl hl rfl) ?_
          refine z_iald hx hb hK hP 0 (PM_8 hM) rfl i rfl (by omega) (by decide) d_M_lentTo_28 ?_
          refine lv_iload_n hx hb d_M_lentTo_29 rfl (zl hl rfl) ?_
          refine lv_icmp_ne (tgt := 37) hx hb d_M_lentTo_30 (by decide) (fun c_3 => ?_) (fun c_3 => ?_)
          · refine lv_iconst (v := 0) hx hb d_M_lentTo_37 (by decide) ?_
            refine lv_iadd hx hb d_M_lentTo_38 ?_
            refine lv_istore_n (lv' := [(2, .int ((nI (cnt (pTo f v) i)) + 0)), (0, .ref (ad 0)), (1, .int v), (3, .int (nI i))]) hx hb d_M_lentTo_39 rfl hl (by decide) rfl (fun ls hl => ?_)
            refine lv_iinc (v := (nI (i + 1))) (lv' := [(3, .int (nI (i + 1))), (2, .int ((nI (cnt (pTo f v) i)) + 0)), (0, .ref (ad 0)), (1, .int v)]) hx hb d_M_lentTo_40 hl (k := 3) rfl (nI_1 i) (by decide) rfl (fun ls hl => ?_)
            refine lv_goto (tgt := 4) hx hb d_M_lentTo_43 (by decide) ?_
            rw [show (nI (cnt (pTo f v) i)) + 0 = nI (cnt (pTo f v) (i + 1)) from cnt_f0 (by simp [pTo, *])] at hl
            exact ih (i + 1) ls locs (by omega) (by omega) (lv_sub hl [2, 3, 1, 0] rfl) hS
          · refine lv_iconst (v := 1) hx hb d_M_lentTo_33 (by decide) ?_
            refine lv_goto (tgt := 38) hx hb d_M_lentTo_34 (by decide) ?_
            refine lv_iadd hx hb d_M_lentTo_38 ?_
            refine lv_istore_n (lv' := [(2, .int ((nI (cnt (pTo f v) i)) + 1)), (0, .ref (ad 0)), (1, .int v), (3, .int (nI i))]) hx hb d_M_lentTo_39 rfl hl (by decide) rfl (fun ls hl => ?_)
            refine lv_iinc (v := (nI (i + 1))) (lv' := [(3, .int (nI (i + 1))), (2, .int ((nI (cnt (pTo f v) i)) + 1)), (0, .ref (ad 0)), (1, .int v)]) hx hb d_M_lentTo_40 hl (k := 3) rfl (nI_1 i) (by decide) rfl (fun ls hl => ?_)
            refine lv_goto (tgt := 4) hx hb d_M_lentTo_43 (by decide) ?_
            rw [show (nI (cnt (pTo f v) i)) + 1 = nI (cnt (pTo f v) (i + 1)) from cnt_t (by simp [pTo, *])] at hl
            exact ih (i + 1) ls locs (by omega) (by omega) (lv_sub hl [2, 3, 1, 0] rfl) hS
  have hl : lv_has ls 4 [(0, .ref (ad 0)), (1, .int v)] := hl
  refine lv_iconst (v := 0) hx hb d_M_lentTo_0 (by decide) ?_
  refine lv_istore_n (lv' := [(2, .int 0), (0, .ref (ad 0)), (1, .int v)]) hx hb d_M_lentTo_1 rfl hl (by decide) rfl (fun ls hl => ?_)
  refine lv_iconst (v := 0) hx hb d_M_lentTo_2 (by decide) ?_
  refine lv_istore_n (lv' := [(3, .int 0), (2, .int 0), (0, .ref (ad 0)), (1, .int v)]) hx hb d_M_lentTo_3 rfl hl (by decide) rfl (fun ls hl => ?_)
  exact key (n + 1) 0 ls [] (Nat.zero_le _) (by omega) (lv_sub hl [2, 3, 1, 0] rfl) hS
set_option maxHeartbeats 4000000 in
set_option maxRecDepth 100000 in
theorem c_M_inState (l : Launch) {D : va_G} {ws : va_W} {H : Heap} (hP : va_P D vwCl ws H) {kk : Nat → ClassId} {ad : Nat → Nat} {thr time tok : Int32} {n : Nat} {f : Nat → Nat → Int32} {ky : Nat → Int64} (hM : PM kk ad thr time n tok f ky ws) (v : Int32) (hn : n ≤ 400) : Met l y_M_inState (Cond.code y_M_inState b_M_inState 4 (some .int) :: TT) ({ frames := 1, cells := 0, slots := 0, locals := 40 }) (zPc [.ref (ad 0), .int v] H D vwCl (TY kk)) (zQi (nI (cnt (pSt f v) n)) H) 0 0 (fun _ => False) := by
  refine z_body (by decide) (Nat.le_of_ble_eq_true rfl) ?_
  intro p e s m below meth c ls C0 hH hKN hl
  obtain ⟨hx, hb, hr, hts, hown, hlocks, hml⟩ := C0
  subst hH
  have hK := hKN.1
  have hN := hKN.2
  have hS : va_S (fun _ => False) s.heap s.heap [] := va_S.rf
  have key : ∀ (r i : Nat) (ls : Array Slot) (locs : List Loc), i ≤ n → n + 1 ≤ i + r → lv_has ls 4 [(0, .ref (ad 0)), (1, .int v), (2, .int (nI (cnt (pSt f v) i))), (3, .int (nI i))] → va_S (fun _ => False) s.heap s.heap locs → W p l e ({ frames := 1, cells := 0, slots := 0, locals := 40 }) s m ([.ref (ad 0), .int v] : List Value).toArray below meth c s.heap locs 0 0 (MQ below (zQi (nI (cnt (pSt f v) n)) s.heap) ([.ref (ad 0), .int v] : List Value).toArray s 0 0 (fun _ => False)) (F0 m 4 ls []) := by
    intro r
    induction r with
    | zero => intro i ls locs h1 h2; omega
    | succ r ih =>
      intro i ls locs hi hir hl hS
      refine lv_iload_n hx hb d_M_inState_4 rfl (zl hl rfl) ?_
      refine lv_aload_n hx hb d_M_inState_5 rfl (zl hl rfl) ?_
      refine z_get (C := R_M) (T := F_M) (N := 15) (v := .int (nI n)) hx hb hts inT_M hown hK hP (PM_o hM) rfl 2 (by decide) tw_575 (fun _ h => h) rfl d_M_inState_6 ?_
      refine lv_icmp_ge (tgt := 36) hx hb d_M_inState_9 (by decide) (fun c_1 => ?_) (fun c_1 => ?_)
      · have hin := z_ge hi (by omega) c_1
        refine lv_iload_n hx hb d_M_inState_36 rfl (zl hl rfl) ?_
        exact z_iret hx hb hr hlocks hS (by rw [hin]) d_M_inState_37
      · have hlt := z_lt hi (by omega) c_1
        refine lv_iload_n hx hb d_M_inState_12 rfl (zl hl rfl) ?_
        refine lv_aload_n hx hb d_M_inState_13 rfl (zl hl rfl) ?_
        refine z_get (C := R_M) (T := F_M) (N := 15) (v := .ref (ad 6)) hx hb hts inT_M hown hK hP (PM_o hM) rfl 9 (by decide) tw_582 (fun _ h => h) rfl d_M_inState_14 ?_
        refine lv_iload_n hx hb d_M_inState_17 rfl (zl hl rfl) ?_
        refine z_iald hx hb hK hP 0 (PM_6 hM) rfl i rfl (by omega) (by decide) d_M_inState_18 ?_
        refine lv_iload_n hx hb d_M_inState_19 rfl (zl hl rfl) ?_
        refine lv_icmp_ne (tgt := 27) hx hb d_M_inState_20 (by decide) (fun c_2 => ?_) (fun c_2 => ?_)
        · refine lv_iconst (v := 0) hx hb d_M_inState_27 (by decide) ?_
          refine lv_iadd hx hb d_M_inState_28 ?_
          refine lv_istore_n (lv' := [(2, .int ((nI (cnt (pSt f v) i)) + 0)), (0, .ref (ad 0)), (1, .int v), (3, .int (nI i))]) hx hb d_M_inState_29 rfl hl (by decide) rfl (fun ls hl => ?_)
          refine lv_iinc (v := (nI (i + 1))) (lv' := [(3, .int (nI (i + 1))), (2, .int ((nI (cnt (pSt f v) i)) + 0)), (0, .ref (ad 0)), (1, .int v)]) hx hb d_M_inState_30 hl (k := 3) rfl (nI_1 i) (by decide) rfl (fun ls hl => ?_)
          refine lv_goto (tgt := 4) hx hb d_M_inState_33 (by decide) ?_
          rw [show (nI (cnt (pSt f v) i)) + 0 = nI (cnt (pSt f v) (i + 1)) from cnt_f0 (by simp [pSt, *])] at hl
          exact ih (i + 1) ls locs (by omega) (by omega) (lv_sub hl [2, 3, 1, 0] rfl) hS
        · refine lv_iconst (v := 1) hx hb d_M_inState_23 (by decide) ?_
          refine lv_goto (tgt := 28) hx hb d_M_inState_24 (by decide) ?_
          refine lv_iadd hx hb d_M_inState_28 ?_
          refine lv_istore_n (lv' := [(2, .int ((nI (cnt (pSt f v) i)) + 1)), (0, .ref (ad 0)), (1, .int v), (3, .int (nI i))]) hx hb d_M_inState_29 rfl hl (by decide) rfl (fun ls hl => ?_)
          refine lv_iinc (v := (nI (i + 1))) (lv' := [(3, .int (nI (i + 1))), (2, .int ((nI (cnt (pSt f v) i)) + 1)), (0, .ref (ad 0)), (1, .int v)]) hx hb d_M_inState_30 hl (k := 3) rfl (nI_1 i) (by decide) rfl (fun ls hl => ?_)
          refine lv_goto (tgt := 4) hx hb d_M_inState_33 (by decide) ?_
          rw [show (nI (cnt (pSt f v) i)) + 1 = nI (cnt (pSt f v) (i + 1)) from cnt_t (by simp [pSt, *])] at hl
          exact ih (i + 1) ls locs (by omega) (by omega) (lv_sub hl [2, 3, 1, 0] rfl) hS
  have hl : lv_has ls 4 [(0, .ref (ad 0)), (1, .int v)] := hl
  refine lv_iconst (v := 0) hx hb d_M_inState_0 (by decide) ?_
  refine lv_istore_n (lv' := [(2, .int 0), (0, .ref (ad 0)), (1, .int v)]) hx hb d_M_inState_1 rfl hl (by decide) rfl (fun ls hl => ?_)
  refine lv_iconst (v := 0) hx hb d_M_inState_2 (by decide) ?_
  refine lv_istore_n (lv' := [(3, .int 0), (2, .int 0), (0, .ref (ad 0)), (1, .int v)]) hx hb d_M_inState_3 rfl hl (by decide) rfl (fun ls hl => ?_)
  exact key (n + 1) 0 ls [] (Nat.zero_le _) (by omega) (lv_sub hl [2, 3, 1, 0] rfl) hS
set_option maxHeartbeats 4000000 in
set_option maxRecDepth 100000 in
theorem c_M_waitingIn (l : Launch) {D : va_G} {ws : va_W} {H : Heap} (hP : va_P D vwCl ws H) {kk : Nat → ClassId} {ad : Nat → Nat} {thr time tok : Int32} {n : Nat} {f : Nat → Nat → Int32} {ky : Nat → Int64} (hM : PM kk ad thr time n tok f ky ws) (v : Int32) (hn : n ≤ 400) : Met l y_M_waitingIn (Cond.code y_M_waitingIn b_M_waitingIn 4 (some .int) :: TT) ({ frames := 1, cells := 0, slots := 0, locals := 40 }) (zPc [.ref (ad 0), .int v] H D vwCl (TY kk)) (zQi (nI (cnt (pWq f v) n)) H) 0 0 (fun _ => False) := by
  refine z_body (by decide) (Nat.le_of_ble_eq_true rfl) ?_
  intro p e s m below meth c ls C0 hH hKN hl
  obtain ⟨hx, hb, hr, hts, hown, hlocks, hml⟩ := C0
  subst hH
  have hK := hKN.1
  have hN := hKN.2
  have hS : va_S (fun _ => False) s.heap s.heap [] := va_S.rf
  have key : ∀ (r i : Nat) (ls : Array Slot) (locs : List Loc), i ≤ n → n + 1 ≤ i + r → lv_has ls 4 [(0, .ref (ad 0)), (1, .int v), (2, .int (nI (cnt (pWq f v) i))), (3, .int (nI i))] → va_S (fun _ => False) s.heap s.heap locs → W p l e ({ frames := 1, cells := 0, slots := 0, locals := 40 }) s m ([.ref (ad 0), .int v] : List Value).toArray below meth c s.heap locs 0 0 (MQ below (zQi (nI (cnt (pWq f v) n)) s.heap) ([.ref (ad 0), .int v] : List Value).toArray s 0 0 (fun _ => False)) (F0 m 4 ls []) := by
    intro r
    induction r with
    | zero => intro i ls locs h1 h2; omega
    | succ r ih =>
      intro i ls locs hi hir hl hS
      refine lv_iload_n hx hb d_M_waitingIn_4 rfl (zl hl rfl) ?_
      refine lv_aload_n hx hb d_M_waitingIn_5 rfl (zl hl rfl) ?_
      refine z_get (C := R_M) (T := F_M) (N := 15) (v := .int (nI n)) hx hb hts inT_M hown hK hP (PM_o hM) rfl 2 (by decide) tw_575 (fun _ h => h) rfl d_M_waitingIn_6 ?_
      refine lv_icmp_ge (tgt := 45) hx hb d_M_waitingIn_9 (by decide) (fun c_1 => ?_) (fun c_1 => ?_)
      · have hin := z_ge hi (by omega) c_1
        refine lv_iload_n hx hb d_M_waitingIn_45 rfl (zl hl rfl) ?_
        exact z_iret hx hb hr hlocks hS (by rw [hin]) d_M_waitingIn_46
      · have hlt := z_lt hi (by omega) c_1
        refine lv_iload_n hx hb d_M_waitingIn_12 rfl (zl hl rfl) ?_
        refine lv_aload_n hx hb d_M_waitingIn_13 rfl (zl hl rfl) ?_
        refine z_get (C := R_M) (T := F_M) (N := 15) (v := .ref (ad 6)) hx hb hts inT_M hown hK hP (PM_o hM) rfl 9 (by decide) tw_582 (fun _ h => h) rfl d_M_waitingIn_14 ?_
        refine lv_iload_n hx hb d_M_waitingIn_17 rfl (zl hl rfl) ?_
        refine z_iald hx hb hK hP 0 (PM_6 hM) rfl i rfl (by omega) (by decide) d_M_waitingIn_18 ?_
        refine lv_if_ne (tgt := 36) hx hb d_M_waitingIn_19 (by decide) (fun c_2 => ?_) (fun c_2 => ?_)
        · refine lv_iconst (v := 0) hx hb d_M_waitingIn_36 (by decide) ?_
          refine lv_iadd hx hb d_M_waitingIn_37 ?_
          refine lv_istore_n (lv' := [(2, .int ((nI (cnt (pWq f v) i)) + 0)), (0, .ref (ad 0)), (1, .int v), (3, .int (nI i))]) hx hb d_M_waitingIn_38 rfl hl (by decide) rfl (fun ls hl => ?_)
          refine lv_iinc (v := (nI (i + 1))) (lv' := [(3, .int (nI (i + 1))), (2, .int ((nI (cnt (pWq f v) i)) + 0)), (0, .ref (ad 0)), (1, .int v)]) hx hb d_M_waitingIn_39 hl (k := 3) rfl (nI_1 i) (by decide) rfl (fun ls hl => ?_)
          refine lv_goto (tgt := 4) hx hb d_M_waitingIn_42 (by decide) ?_
          rw [show (nI (cnt (pWq f v) i)) + 0 = nI (cnt (pWq f v) (i + 1)) from cnt_f0 (by simp [pWq, *])] at hl
          exact ih (i + 1) ls locs (by omega) (by omega) (lv_sub hl [2, 3, 1, 0] rfl) hS
        · refine lv_aload_n hx hb d_M_waitingIn_22 rfl (zl hl rfl) ?_
          refine z_get (C := R_M) (T := F_M) (N := 15) (v := .ref (ad 1)) hx hb hts inT_M hown hK hP (PM_o hM) rfl 4 (by decide) tw_577 (fun _ h => h) rfl d_M_waitingIn_23 ?_
          refine lv_iload_n hx hb d_M_waitingIn_26 rfl (zl hl rfl) ?_
          refine z_iald hx hb hK hP 0 (PM_1 hM) rfl i rfl (by omega) (by decide) d_M_waitingIn_27 ?_
          refine lv_iload_n hx hb d_M_waitingIn_28 rfl (zl hl rfl) ?_
          refine lv_icmp_ne (tgt := 36) hx hb d_M_waitingIn_29 (by decide) (fun c_3 => ?_) (fun c_3 => ?_)
          · refine lv_iconst (v := 0) hx hb d_M_waitingIn_36 (by decide) ?_
            refine lv_iadd hx hb d_M_waitingIn_37 ?_
            refine lv_istore_n (lv' := [(2, .int ((nI (cnt (pWq f v) i)) + 0)), (0, .ref (ad 0)), (1, .int v), (3, .int (nI i))]) hx hb d_M_waitingIn_38 rfl hl (by decide) rfl (fun ls hl => ?_)
            refine lv_iinc (v := (nI (i + 1))) (lv' := [(3, .int (nI (i + 1))), (2, .int ((nI (cnt (pWq f v) i)) + 0)), (0, .ref (ad 0)), (1, .int v)]) hx hb d_M_waitingIn_39 hl (k := 3) rfl (nI_1 i) (by decide) rfl (fun ls hl => ?_)
            refine lv_goto (tgt := 4) hx hb d_M_waitingIn_42 (by decide) ?_
            rw [show (nI (cnt (pWq f v) i)) + 0 = nI (cnt (pWq f v) (i + 1)) from cnt_f0 (by simp [pWq, *])] at hl
            exact ih (i + 1) ls locs (by omega) (by omega) (lv_sub hl [2, 3, 1, 0] rfl) hS
          · refine lv_iconst (v := 1) hx hb d_M_waitingIn_32 (by decide) ?_
            refine lv_goto (tgt := 37) hx hb d_M_waitingIn_33 (by decide) ?_
            refine lv_iadd hx hb d_M_waitingIn_37 ?_
            refine lv_istore_n (lv' := [(2, .int ((nI (cnt (pWq f v) i)) + 1)), (0, .ref (ad 0)), (1, .int v), (3, .int (nI i))]) hx hb d_M_waitingIn_38 rfl hl (by decide) rfl (fun ls hl => ?_)
            refine lv_iinc (v := (nI (i + 1))) (lv' := [(3, .int (nI (i + 1))), (2, .int ((nI (cnt (pWq f v) i)) + 1)), (0, .ref (ad 0)), (1, .int v)]) hx hb d_M_waitingIn_39 hl (k := 3) rfl (nI_1 i) (by decide) rfl (fun ls hl => ?_)
            refine lv_goto (tgt := 4) hx hb d_M_waitingIn_42 (by decide) ?_
            rw [show (nI (cnt (pWq f v) i)) + 1 = nI (cnt (pWq f v) (i + 1)) from cnt_t (by simp [pWq, *])] at hl
            exact ih (i + 1) ls locs (by omega) (by omega) (lv_sub hl [2, 3, 1, 0] rfl) hS
  have hl : lv_has ls 4 [(0, .ref (ad 0)), (1, .int v)] := hl
  refine lv_iconst (v := 0) hx hb d_M_waitingIn_0 (by decide) ?_
  refine lv_istore_n (lv' := [(2, .int 0), (0, .ref (ad 0)), (1, .int v)]) hx hb d_M_waitingIn_1 rfl hl (by decide) rfl (fun ls hl => ?_)
  refine lv_iconst (v := 0) hx hb d_M_waitingIn_2 (by decide) ?_
  refine lv_istore_n (lv' := [(3, .int 0), (2, .int 0), (0, .ref (ad 0)), (1, .int v)]) hx hb d_M_waitingIn_3 rfl hl (by decide) rfl (fun ls hl => ?_)
  exact key (n + 1) 0 ls [] (Nat.zero_le _) (by omega) (lv_sub hl [2, 3, 1, 0] rfl) hS
