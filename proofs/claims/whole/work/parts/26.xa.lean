section MADD
variable {f : FF} {n : Nat} {q r g time delay : Int32}
theorem mAdd_1 : mAdd f n q r g time delay 1 n = q := by unfold mAdd; rw [w1_c (by decide), w1_c (by decide), w1_c (by decide), w1_c (by decide), w1_c (by decide), w1_s]
theorem mAdd_2 : mAdd f n q r g time delay 2 n = r := by unfold mAdd; rw [w1_c (by decide), w1_c (by decide), w1_c (by decide), w1_c (by decide), w1_s]
theorem mAdd_3 : mAdd f n q r g time delay 3 n = g := by unfold mAdd; rw [w1_c (by decide), w1_c (by decide), w1_c (by decide), w1_s]
theorem mAdd_5 : mAdd f n q r g time delay 5 n = 0 := by unfold mAdd; rw [w1_c (by decide), w1_c (by decide), w1_s]
theorem mAdd_6 : mAdd f n q r g time delay 6 n = 0 := by unfold mAdd; rw [w1_c (by decide), w1_s]
theorem mAdd_7 : mAdd f n q r g time delay 7 n = time + delay := by unfold mAdd; rw [w1_s]
theorem mAdd_o {i : Nat} (h : i ≠ n) (c : Nat) : mAdd f n q r g time delay c i = f c i := by unfold mAdd; rw [w1_o h, w1_o h, w1_o h, w1_o h, w1_o h, w1_o h]
theorem mAdd_c {c : Nat} (h1 : c ≠ 1) (h2 : c ≠ 2) (h3 : c ≠ 3) (h5 : c ≠ 5) (h6 : c ≠ 6) (h7 : c ≠ 7) : mAdd f n q r g time delay c = f c := by unfold mAdd; rw [w1_c h7, w1_c h6, w1_c h5, w1_c h3, w1_c h2, w1_c h1]
end MADD
section PXA
variable {A : Nat → Prop} {kk : Nat → ClassId} {xa qad gad tad : Nat → Nat} {e0 : Nat} {time tok : Int32} {n : Nat} {f : FF} {ky : Nat → Int64} {h : FF} {qar gar arr : Nat → Option Nat} {ea cap : Nat} {md : Int32} {ws ws' : va_W}
theorem PX_nea (hD : va_D A ws) (hX : PX kk xa qad gad tad e0 time tok n f ky h qar gar arr ea cap md ws) (he0 : ¬ A e0) {b : Nat} {fe : va_E} (hb : zin ws b fe) (hs : ∀ (c : ClassId) (x : vp_A), fe = .inl (c, x) → x.1 < 10) : b ≠ ea := by
  rcases hX.2.2.2.2.1 with ⟨-, rfl⟩ | ⟨z1, z2, z3, z4⟩
  · intro z
    subst z
    exact he0 (zin_A hD hb)
  · refine zin_ne hD hb z1 (fun z => ?_)
    have := hs _ _ z
    exact absurd this (by show ¬ cap < 10; omega)
theorem PX_add {r gv delay : Int32} {kv : Int64} {t9 qi ea' cap' : Nat} {md' : Int32} {arr' : Nat → Option Nat} (hD : va_D A ws) (hX : PX kk xa qad gad tad e0 time tok n f ky h qar gar arr ea cap md ws) (he0 : ¬ A e0) (hn : n < 400) (hqi : qi < 4) (hgv : gv = -1 ∨ ∃ gi : Nat, gi < 8 ∧ gv = nI gi)
    (hl3 : zin ws' (xa 3) (.inr (5, [.ref ea', .int (nI (n + 1)), .int md']))) (ha3 : zin ws' ea' (.inl (kk 4, cap', .inr (.inr (.inr (.inr arr')))))) (hcap : n + 1 ≤ cap' ∧ 10 ≤ cap' ∧ cap' < 1000) (har : ∀ k, k < n → arr' k = arr k) (harn : arr' n = some t9)
    (ht3 : zin ws' t9 (.inr (2, [.int (nI n), .ref (qad qi), .int r, va_rf (gRef gad gv), .long kv, .int 0, .int 0, .int (time + delay), .int (-1), .int (-1), .int (-1), .int (-1)])))
    (hk : ∀ (b : Nat) (fe : va_E), b ≠ xa 3 → b ≠ ea → zin ws b fe → zin ws' b fe) :
    PX kk xa qad gad (va_up tad n t9) e0 time tok (n + 1) (mAdd f n (nI qi) r gv time delay) (vp_updL ky n kv) (fun j k => if k = n then (if j = 0 then time + delay else -1) else h j k) qar gar arr' ea' cap' md' ws' := by
  have keep : ∀ (b : Nat) (fe : va_E), zin ws b fe → (∀ (x : List Value), fe ≠ .inr (5, x)) → (∀ (c : ClassId) (x : vp_A), fe = .inl (c, x) → x.1 < 10) → zin ws' b fe := fun b fe hb h5 h10 => hk b fe (zin_ne hD hb (PX_l hX) (h5 _)) (PX_nea hD hX he0 hb h10) hb
  have o : ∀ (k c : Nat), k < n → mAdd f n (nI qi) r gv time delay c k = f c k := fun k c hk => mAdd_o (by omega) c
  have c10 : mAdd f n (nI qi) r gv time delay 10 = f 10 := mAdd_c (by decide) (by decide) (by decide) (by decide) (by decide) (by decide)
  have c11 : mAdd f n (nI qi) r gv time delay 11 = f 11 := mAdd_c (by decide) (by decide) (by decide) (by decide) (by decide) (by decide)
  have eq : ∀ k, k < n → qx (mAdd f n (nI qi) r gv time delay) k = qx f k := fun k hk => by unfold qx; rw [o k 1 hk]
  have eg : ∀ k, k < n → gx (mAdd f n (nI qi) r gv time delay) k = gx f k := fun k hk => by unfold gx; rw [o k 3 hk]
  have qn : qx (mAdd f n (nI qi) r gv time delay) n = qi := by unfold qx; rw [mAdd_1]; exact nI_clamp (by omega)
  have gn : gref (mAdd f n (nI qi) r gv time delay) gad n = gRef gad gv := by
    unfold gref gRef
    rw [mAdd_3]
    rcases hgv with rfl | ⟨gi, hgi, rfl⟩
    · rw [if_pos rfl, if_neg (by decide)]
    · rw [if_neg (nI_m1 (by omega)), if_pos (by simp only [sWithin, Bool.and_eq_true, decide_eq_true_eq]; exact ⟨nI_pos' (by omega), nI_le (b := 7) (by omega) (by decide)⟩), tx_nI (by omega)]
      unfold gx
      rw [mAdd_3, nI_clamp (by omega)]
  refine ⟨keep _ _ (PX_x hX) (by intro x z; cases z) (by intro c x z; cases z), keep _ _ (PX_qa hX) (by intro x z; cases z) (by intro c x z; cases z; show 4 < 10; decide), keep _ _ (PX_ga hX) (by intro x z; cases z) (by intro c x z; cases z; show 8 < 10; decide), hl3, Or.inr ⟨ha3, hcap⟩, fun i hi => ⟨PX_qr hX hi, ?_⟩, fun i hi => ⟨PX_gr hX hi, ?_⟩, fun k hkn => ?_, fun k hkn => ?_, fun k hkn => ?_, fun k hkn => ?_, PX_qi hX, PX_gi hX, by omega⟩
  · unfold qcl
    rw [c10]
    exact keep _ _ (PX_q hX hi) (by intro x z; cases z) (by intro c x z; cases z)
  · unfold gcl
    rw [c11]
    have : cnt (pLent (mAdd f n (nI qi) r gv time delay) (nI i)) (n + 1) = cnt (pLent f (nI i)) n := by
      show cnt _ n + (if pLent _ _ n = true then 1 else 0) = _
      rw [if_neg (by unfold pLent; rw [mAdd_6]; simp), Nat.add_zero]
      exact cnt_congr n (fun k hk => by unfold pLent; rw [o k 6 hk, o k 3 hk])
    rw [this]
    exact keep _ _ (PX_g hX hi) (by intro x z; cases z) (by intro c x z; cases z)
  · by_cases e : k = n
    · subst e
      refine ⟨by rw [harn, va_up_self], ?_⟩
      rw [va_up_self]
      unfold tcl
      rw [qn, gn, mAdd_2, mAdd_6, mAdd_5]
      simp only [if_true]
      rw [show vp_updL ky k kv k = kv from if_pos rfl]
      exact ht3
    · have hkn' : k < n := by omega
      refine ⟨by rw [har k hkn', va_up_ne _ _ e]; exact PX_tr hX hkn', ?_⟩
      rw [va_up_ne _ _ e]
      unfold tcl gref
      rw [eq k hkn', eg k hkn', o k 2 hkn', o k 3 hkn', o k 6 hkn', o k 5 hkn']
      simp only [if_neg e]
      rw [show vp_updL ky n kv k = ky k from if_neg e]
      exact keep _ _ (PX_t hX hkn') (by intro x z; cases z) (by intro c x z; cases z)
  · by_cases e : k = n
    · subst e
      rw [qn, mAdd_1]
      exact ⟨rfl, hqi⟩
    · rw [o k 1 (by omega), eq k (by omega)]
      exact PX_okq hX k (by omega)
  · by_cases e : k = n
    · subst e
      rw [mAdd_3]
      rcases hgv with h1 | ⟨gi, hgi, h1⟩
      · exact Or.inl h1
      · have : gx (mAdd f k (nI qi) r gv time delay) k = gi := by unfold gx; rw [mAdd_3, h1]; exact nI_clamp (by omega)
        exact Or.inr ⟨by rw [this]; exact h1, by rw [this]; exact hgi⟩
    · rw [o k 3 (by omega), eg k (by omega)]
      exact PX_okg hX k (by omega)
  · by_cases e : k = n
    · subst e
      rw [mAdd_6, mAdd_7]
      simp
    · rw [o k 6 (by omega), o k 7 (by omega), o k 8 (by omega), o k 9 (by omega)]
      simp only [if_neg e]
      exact PX_rel hX k (by omega)
end PXA
theorem grp_eq (g : Int32) : sWithin g (-1) 7 = (decide (g = -1) || sWithin g 0 7) := by
  have h1 := Int32.le_toInt g
  have h2 := Int32.toInt_lt g
  simp only [sWithin, Int32.le_iff_toInt_le, ← Int32.toInt_inj, show (-1 : Int32).toInt = -1 by decide, show (0 : Int32).toInt = 0 by decide, show (7 : Int32).toInt = 7 by decide]
  rw [Bool.eq_iff_iff]
  simp only [Bool.and_eq_true, Bool.or_eq_true, decide_eq_true_eq]
  omega
theorem key0 {f : FF} {ky : Nat → Int64} {time : Int32} {qi : Nat} : ∀ n, lstD (pKey f ky time qi 0) n = none
  | 0 => rfl
  | n + 1 => by
    rw [lstD_f (by unfold pKey; simp)]
    exact key0 n
theorem n400 {n : Nat} (h : n ≤ 400) : nI n < 400 ↔ ¬ nI n = 400 := by
  have e1 : (400 : Int32) = nI 400 := by decide
  rw [e1, nI_ltI (by omega) (by decide), nI_eq (by omega) (by decide)]
  omega
theorem PX_new {kk : Nat → ClassId} {xa qad gad tad : Nat → Nat} {e0 : Nat} {time tok : Int32} {n : Nat} {f : FF} {ky : Nat → Int64} {h : FF} {qar gar arr : Nat → Option Nat} {ea cap : Nat} {md : Int32} {ws ws' : va_W} {q : Nat} {fe : va_E} (hX : PX kk xa qad gad tad e0 time tok n f ky h qar gar arr ea cap md ws) (u : znew ws q fe ws') : PX kk xa qad gad tad e0 time tok n f ky h qar gar arr ea cap md ws' := by
  obtain ⟨p1, p2, p3, p4, p5, p6, p7, p8, p9⟩ := hX
  refine ⟨u.2 _ _ p1, u.2 _ _ p2, u.2 _ _ p3, u.2 _ _ p4, ?_, fun i hi => ⟨(p6 i hi).1, u.2 _ _ (p6 i hi).2⟩, fun i hi => ⟨(p7 i hi).1, u.2 _ _ (p7 i hi).2⟩, fun i hi => ⟨(p8 i hi).1, u.2 _ _ (p8 i hi).2⟩, p9⟩
  rcases p5 with z | z
  · exact Or.inl z
  · exact Or.inr ⟨u.2 _ _ z.1, z.2⟩
theorem PX_neK {A : Nat → Prop} {kk : Nat → ClassId} {xa qad gad tad : Nat → Nat} {e0 : Nat} {time tok : Int32} {n : Nat} {f : FF} {ky : Nat → Int64} {h : FF} {qar gar arr : Nat → Option Nat} {ea cap : Nat} {md : Int32} {ws : va_W} (hD : va_D A ws) (hX : PX kk xa qad gad tad e0 time tok n f ky h qar gar arr ea cap md ws) (he0 : ¬ A e0) {b : Nat} {fe : va_E} (hk : kX fe = false) (hb : zin ws b fe) : b ≠ ea := by
  rcases hX.2.2.2.2.1 with ⟨-, rfl⟩ | ⟨z1, -⟩
  · intro z
    subst z
    exact he0 (zin_A hD hb)
  · exact zin_ne hD hb z1 (fun z => by rw [z] at hk; cases hk)
set_option maxHeartbeats 4000000 in
set_option maxRecDepth 100000 in
theorem c_X_add (l : Launch) {D : va_G} {kk : Nat → ClassId} {ws : va_W} {H : Heap} {e0 mi B : Nat} (hP : va_P D vwCl ws H) (hD : va_D (fun q => B ≤ q) ws) (hB : B ≤ H.size) {xa qad gad tad : Nat → Nat} {time tok : Int32} {n : Nat} {f : FF} {ky : Nat → Int64} {h : FF} {qar gar arr : Nat → Option Nat} {ea cap : Nat} {md : Int32} (hX : PX kk xa qad gad tad e0 time tok n f ky h qar gar arr ea cap md ws) (q r g : Int32) (kv : Int64) (delay : Int32) (hc : xAdd f ky time n q r g kv delay = 0) (hlv : cnt (pLive f) n ≤ 64) : Met l y_X_add (Cond.code y_X_add b_X_add 10 (some .int) :: TT) ({ frames := 8, cells := 2, slots := 612, locals := 320 }) (zPa [.ref (xa 0), .int q, .int r, .int g, .long kv, .int delay] H D vwCl (TY kk) e0 mi B) (zR D vwCl B (some (.int (rAdd f ky time n q r g kv delay))) (fun ws' => (∃ (tad' : Nat → Nat) (arr' : Nat → Option Nat) (ea' cap' : Nat) (md' : Int32) (h' : FF), PX kk xa qad gad tad' e0 time tok (if cNew f ky time n q r g kv delay = true then n + 1 else n) (if cNew f ky time n q r g kv delay = true then mAdd f n q r g time delay else f) (if cNew f ky time n q r g kv delay = true then vp_updL ky n kv else ky) h' qar gar arr' ea' cap' md' ws') ∧ zfrX ws ws')) 2 612 (fun q => B ≤ q) := by
  refine z_bodyA (by decide) (Nat.le_of_ble_eq_true rfl) ?_
  intro p e s m below meth c ls C0 hnm hH hKN hZA hl
  obtain ⟨hx, hb, hr, hts, hown, hlocks, hml⟩ := C0
  subst hH
  have hK := hKN.1
  have hN := hKN.2
  have hS : va_S (fun q => B ≤ q) s.heap s.heap [] := va_S.rf
  have hA0 : ∀ q : Nat, s.heap.size ≤ q → (fun q => B ≤ q) q := fun q h => Nat.le_trans hB h
  have hn := PX_n hX
  have hE0 : ¬ (fun q => B ≤ q) e0 := va_T.out hZA.2.2.2.2.1
  have hl : lv_has ls 10 [(0, .ref (xa 0)), (1, .int q), (2, .int r), (3, .int g), (4, .long kv), (6, .int delay)] := hl
  refine lv_aload_n hx hb d_X_add_0 rfl (zl hl rfl) ?_
  refine lv_iload_n hx hb d_X_add_1 rfl (zl hl rfl) ?_
  by_cases bq_1 : sWithin q 0 3 = true
  · obtain ⟨x_2, hx_3, rfl⟩ := sWithin_nI (h := 3) (by decide) bq_1
    have ht_4 : tx (nI x_2) = x_2 := tx_nI (by omega)
    have hr_5 : qRef qad (nI x_2) = some (qad x_2) := by rw [qRef, if_pos bq_1, ht_4]
    refine z_callq (va_runV (As := [.int (nI x_2)]) (rest := []) ⟨hx, hb, hml, hown, hts⟩ (c_X_queueAt l hP hX (nI x_2)) (cwV 1 hts (tt_V tw_226 tw_223 tw_225 tw_5 tw_30) rfl rfl rfl (by decide +kernel) ⟨Nat.le_of_ble_eq_true rfl, Nat.le_of_ble_eq_true rfl⟩) (zPc_V hKN hP (ci := 3) (q := (R_X, F_X, 5)) rfl (PX_x hX)) rfl rfl hl.1 rfl (lv_room (Nat.le_of_ble_eq_true rfl)) d_X_add_2 ⟨Nat.zero_le _, Nat.zero_le _⟩) hS (fun locs hS => ?_)
    rw [hr_5]
    refine lv_astore (lv' := [(7, .ref (qad x_2)), (0, .ref (xa 0)), (1, .int (nI x_2)), (2, .int r), (3, .int g), (4, .long kv), (6, .int delay)]) hx hb d_X_add_5 hl (by decide) rfl (fun ls hl => ?_)
    refine lv_aload hx hb d_X_add_7 (zl hl rfl) ?_
    refine lv_ifnull hx hb d_X_add_9 ?_
    refine lv_iload_n hx hb d_X_add_12 rfl (zl hl rfl) ?_
    refine lv_iconst (v := 0) hx hb d_X_add_13 (by decide) ?_
    refine lv_iconst (v := 3) hx hb d_X_add_14 (by decide) ?_
    refine z_calli (va_runS (As := [.int r, .int 0, .int 3]) (rest := []) ⟨hx, hb, hml, hown, hts⟩ (c_X_within l hP r 0 3) (va_cwS 3 hts (tt_S tw_186 tw_184 tw_185 tw_30) rfl rfl rfl (by decide +kernel) ⟨Nat.le_of_ble_eq_true rfl, Nat.le_of_ble_eq_true rfl⟩) (zPc_S hKN) rfl rfl hl.1 rfl (lv_room (Nat.le_of_ble_eq_true rfl)) d_X_add_15 ⟨Nat.zero_le _, Nat.zero_le _⟩) hS (fun locs hS => ?_)
    refine lv_if_eq (tgt := 33) hx hb d_X_add_18 (by decide) (fun c_6 => ?_) (fun c_6 => ?_)
    · have b2 := zb_f c_6
      exact absurd hc (by unfold xAdd; rw [if_neg (by simp only [cAdd, grp_eq, *, reduceIte, Bool.true_and, Bool.false_and, Bool.and_false, Bool.and_true, Bool.false_eq_true, Bool.or_true, Bool.true_or, Bool.or_false, Bool.false_or, decide_true, decide_false]; decide)]; decide)
    · have b2 := zb_t c_6
      refine lv_iload hx hb d_X_add_21 (zl hl rfl) ?_
      refine lv_iconst (v := 0) hx hb d_X_add_23 (by decide) ?_
      refine lv_sipush (v := 1000) hx hb d_X_add_24 (by decide) ?_
      refine z_calli (va_runS (As := [.int delay, .int 0, .int 1000]) (rest := []) ⟨hx, hb, hml, hown, hts⟩ (c_X_within l hP delay 0 1000) (va_cwS 3 hts (tt_S tw_186 tw_184 tw_185 tw_30) rfl rfl rfl (by decide +kernel) ⟨Nat.le_of_ble_eq_true rfl, Nat.le_of_ble_eq_true rfl⟩) (zPc_S hKN) rfl rfl hl.1 rfl (lv_room (Nat.le_of_ble_eq_true rfl)) d_X_add_27 ⟨Nat.zero_le _, Nat.zero_le _⟩) hS (fun locs hS => ?_)
      refine lv_if_ne (tgt := 43) hx hb d_X_add_30 (by decide) (fun c_7 => ?_) (fun c_7 => ?_)
      · have b3 := zb_t c_7
        refine lv_iload_n hx hb d_X_add_43 rfl (zl hl rfl) ?_
        refine lv_iconst (v := (-1)) hx hb d_X_add_44 (by decide) ?_
        refine lv_icmp_eq (tgt := 66) hx hb d_X_add_45 (by decide) (fun c_8 => ?_) (fun c_8 => ?_)
        · have eG : g = -1 := c_8
          subst eG
          refine lv_lload hx hb d_X_add_66 (zl hl rfl) ?_
          refine lv_lconst (v := 0) hx hb d_X_add_68 (by decide) ?_
          refine W.lcmp hx hb d_X_add_69 ?_
          refine lv_if_ne (tgt := 77) hx hb d_X_add_70 (by decide) (fun c_9 => ?_) (fun c_9 => ?_)
          · have bK : ¬ kv = 0 := fun z => c_9 (lgc.mpr z)
            refine lv_aload_n hx hb d_X_add_77 rfl (zl hl rfl) ?_
            refine lv_aload hx hb d_X_add_78 (zl hl rfl) ?_
            refine lv_lload hx hb d_X_add_80 (zl hl rfl) ?_
            refine z_calli (va_runV (As := [.ref (qad x_2), .long kv]) (rest := []) ⟨hx, hb, hml, hown, hts⟩ (c_X_numberUnder l hP hX x_2 (by omega) kv bK) (cwV 2 hts (tt_V tw_370 tw_367 tw_369 tw_11 tw_30) rfl rfl rfl (by decide +kernel) ⟨Nat.le_of_ble_eq_true rfl, Nat.le_of_ble_eq_true rfl⟩) (zPc_V hKN hP (ci := 3) (q := (R_X, F_X, 5)) rfl (PX_x hX)) rfl rfl hl.1 rfl (lv_room (Nat.le_of_ble_eq_true rfl)) d_X_add_82 ⟨Nat.zero_le _, Nat.zero_le _⟩) hS (fun locs hS => ?_)
            rcases ho : lstD (pKey f ky time x_2 kv) n with _ | t
            · have hm1 : True := trivial
              refine lv_istore (lv' := [(8, .int (-1)), (7, .ref (qad x_2)), (0, .ref (xa 0)), (1, .int (nI x_2)), (2, .int r), (3, .int (-1)), (4, .long kv), (6, .int delay)]) hx hb d_X_add_85 hl (by decide) rfl (fun ls hl => ?_)
              refine lv_iload hx hb d_X_add_87 (zl hl rfl) ?_
              refine lv_iconst (v := (-1)) hx hb d_X_add_89 (by decide) ?_
              refine lv_icmp_eq (tgt := 96) hx hb d_X_add_90 (by decide) (fun c_10 => ?_) (fun c_10 => ?_)
              · refine lv_aload_n hx hb d_X_add_96 rfl (zl hl rfl) ?_
                refine z_calli (va_runV (As := []) (rest := []) ⟨hx, hb, hml, hown, hts⟩ (c_X_liveTasks l hP hX) (cwV 0 hts (tt_V tw_202 tw_199 tw_201 tw_2 tw_30) rfl rfl rfl (by decide +kernel) ⟨Nat.le_of_ble_eq_true rfl, Nat.le_of_ble_eq_true rfl⟩) (zPc_V hKN hP (ci := 3) (q := (R_X, F_X, 5)) rfl (PX_x hX)) rfl rfl hl.1 rfl (lv_room (Nat.le_of_ble_eq_true rfl)) d_X_add_97 ⟨Nat.zero_le _, Nat.zero_le _⟩) hS (fun locs hS => ?_)
                refine lv_bipush (v := 64) hx hb d_X_add_100 (by decide) ?_
                refine lv_icmp_ge (tgt := 118) hx hb d_X_add_102 (by decide) (fun c_11 => ?_) (fun c_11 => ?_)
                · have bL : nI (cnt (pLive f) n) = 64 := Decidable.of_not_not (fun z => absurd ((lv64 hlv).mpr z) (Int32.not_lt.mpr c_11))
                  have hcA : cAdd (nI x_2) r (-1) delay = true := by simp only [cAdd, grp_eq, *, reduceIte, Bool.true_and, Bool.false_and, Bool.and_false, Bool.and_true, Bool.false_eq_true, Bool.or_true, Bool.true_or, Bool.or_false, Bool.false_or, decide_true, decide_false]
                  have hoA : oAdd f ky time n (nI x_2) kv = none := by unfold oAdd; rw [tx_nI (by omega)]; exact ho
                  have hfu : fullA f n = true := by unfold fullA; simp [*]
                  exact absurd hc (by unfold xAdd; rw [if_pos hcA, hoA]; simp only [hfu, if_true]; decide)
                · have bL := (lv64 hlv).mp (Int32.not_le.mp c_11)
                  refine lv_aload_n hx hb d_X_add_105 rfl (zl hl rfl) ?_
                  refine z_get (C := R_X) (T := F_X) (N := 5) (v := .ref (xa 3)) hx hb hts inT_X hown hK hP (PX_x hX) rfl 2 (by decide) tw_135 (fun _ h => h) rfl d_X_add_106 ?_
                  refine z_calli (va_runV (As := []) (rest := []) ⟨hx, hb, hml, hown, hts⟩ (c_A_size l hP (PX_l hX)) (cwV 0 hts (tt_V tw_160 tw_157 tw_158 tw_159 tw_33) rfl rfl rfl (by decide +kernel) ⟨Nat.le_of_ble_eq_true rfl, Nat.le_of_ble_eq_true rfl⟩) (zPc_V hKN hP (ci := 5) (q := (R_A, F_A, 3)) rfl (PX_l hX)) rfl rfl hl.1 rfl (lv_room (Nat.le_of_ble_eq_true rfl)) d_X_add_109 ⟨Nat.zero_le _, Nat.zero_le _⟩) hS (fun locs hS => ?_)
                  refine lv_sipush (v := 400) hx hb d_X_add_112 (by decide) ?_
                  refine lv_icmp_lt (tgt := 128) hx hb d_X_add_115 (by decide) (fun c_12 => ?_) (fun c_12 => ?_)
                  · have bS := (n400 (by omega)).mp c_12
                    have hn4 : n < 400 := (nI_ltI (a := n) (b := 400) (by omega) (by decide)).mp c_12
                    refine lv_aload_n hx hb d_X_add_128 rfl (zl hl rfl) ?_
                    refine z_get (C := R_X) (T := F_X) (N := 5) (v := .ref (xa 3)) hx hb hts inT_X hown hK hP (PX_x hX) rfl 2 (by decide) tw_135 (fun _ h => h) rfl d_X_add_129 ?_
                    refine z_calli (va_runV (As := []) (rest := []) ⟨hx, hb, hml, hown, hts⟩ (c_A_size l hP (PX_l hX)) (cwV 0 hts (tt_V tw_160 tw_157 tw_158 tw_159 tw_33) rfl rfl rfl (by decide +kernel) ⟨Nat.le_of_ble_eq_true rfl, Nat.le_of_ble_eq_true rfl⟩) (zPc_V hKN hP (ci := 5) (q := (R_A, F_A, 3)) rfl (PX_l hX)) rfl rfl hl.1 rfl (lv_room (Nat.le_of_ble_eq_true rfl)) d_X_add_132 ⟨Nat.zero_le _, Nat.zero_le _⟩) hS (fun locs hS => ?_)
                    refine lv_istore (lv' := [(9, .int (nI n)), (8, .int (-1)), (7, .ref (qad x_2)), (0, .ref (xa 0)), (1, .int (nI x_2)), (2, .int r), (3, .int (-1)), (4, .long kv), (6, .int delay)]) hx hb d_X_add_135 hl (by decide) rfl (fun ls hl => ?_)
                    refine lv_aload_n hx hb d_X_add_137 rfl (zl hl rfl) ?_
                    refine z_get (C := R_X) (T := F_X) (N := 5) (v := .ref (xa 3)) hx hb hts inT_X hown hK hP (PX_x hX) rfl 2 (by decide) tw_135 (fun _ h => h) rfl d_X_add_138 ?_
                    have hDn := hD
                    refine z_new (ci := 2) (C := R_T) (T := F_T) (N := 12) (fs := [.int 0, .null, .int 0, .null, .long 0, .int 0, .int 0, .int 0, .int 0, .int 0, .int 0, .int 0]) hx hb hts inT_T ft_T ft_T_ok hown tw_175 tw_392 tw_44 hK hP hD hS hA0 rfl (by decide +kernel) (Nat.le_of_ble_eq_true rfl) (Nat.le_of_ble_eq_true rfl) d_X_add_141 (fun t9 ws1 H hP hD hS uN hneN => ?_)
                    have hX0 := hX
                    have hX : PX kk xa qad gad tad e0 time tok n f ky h qar gar arr ea cap md ws1 := PX_new hX uN
                    refine lv_dup hx hb d_X_add_144 rfl ?_
                    refine lv_iload hx hb d_X_add_145 (zl hl rfl) ?_
                    refine lv_aload hx hb d_X_add_147 (zl hl rfl) ?_
                    refine lv_iload_n hx hb d_X_add_149 rfl (zl hl rfl) ?_
                    refine lv_aload_n hx hb d_X_add_150 rfl (zl hl rfl) ?_
                    refine lv_iload_n hx hb d_X_add_151 rfl (zl hl rfl) ?_
                    refine z_callq (va_runV (As := [.int (-1)]) (rest := [.int r, .ref (qad x_2), .int (nI n), .ref t9, .ref t9, .ref (xa 3)]) ⟨hx, hb, hml, hown, hts⟩ (c_X_groupAt l hP hX (-1)) (cwV 1 hts (tt_V tw_219 tw_216 tw_218 tw_4 tw_30) rfl rfl rfl (by decide +kernel) ⟨Nat.le_of_ble_eq_true rfl, Nat.le_of_ble_eq_true rfl⟩) (zPc_V hKN hP (ci := 3) (q := (R_X, F_X, 5)) rfl (PX_x hX)) rfl rfl hl.1 rfl (lv_room (Nat.le_of_ble_eq_true rfl)) d_X_add_152 ⟨Nat.le_of_ble_eq_true rfl, Nat.le_of_ble_eq_true rfl⟩) hS (fun locs hS => ?_)
                    refine lv_lload hx hb d_X_add_155 (zl hl rfl) ?_
                    refine lv_aload_n hx hb d_X_add_157 rfl (zl hl rfl) ?_
                    refine z_get (C := R_X) (T := F_X) (N := 5) (v := .int time) hx hb hts inT_X hown hK hP (PX_x hX) rfl 3 (by decide) tw_136 (fun _ h => h) rfl d_X_add_158 ?_
                    refine lv_iload hx hb d_X_add_161 (zl hl rfl) ?_
                    refine lv_iadd hx hb d_X_add_163 ?_
                    refine z_call (va_runI (As := [.int (nI n), .ref (qad x_2), .int r, va_rf (gRef gad (-1)), .long kv, .int (time + delay)]) (rest := [.ref t9, .ref (xa 3)]) ⟨hx, hb, hml, hown, hts⟩ (c_T_init l hP hD uN.1 (nI n) (qad x_2) r (gRef gad (-1)) kv (time + delay)) (cwI 6 hts (tt_in tw_395) rfl rfl rfl (hts _ tw_44) (hts _ tw_393) (hts _ tw_394) rfl (by decide +kernel) ⟨Nat.le_of_ble_eq_true rfl, Nat.le_of_ble_eq_true rfl⟩) (zPc_S hKN) rfl rfl hl.1 rfl (lv_room (Nat.le_of_ble_eq_true rfl)) d_X_add_164 ⟨Nat.le_of_ble_eq_true rfl, Nat.le_of_ble_eq_true rfl⟩) hS (fun ws2 H locs hT2 hP hD hz9 hS => ?_)
                    have kp : ∀ (b : Nat) (fe : va_E), zin ws b fe → zin ws2 b fe := fun b fe hz => hT2.2 _ _ (hneN b fe hz) (uN.2 _ _ hz)
                    have hnT : ¬ t9 = ea := by
                      rcases hX0.2.2.2.2.1 with ⟨-, z⟩ | ⟨z1, -⟩
                      · intro z9
                        rw [z9, z] at hT2
                        exact hE0 (zin_A hD hT2.1)
                      · exact fun z9 => hneN _ _ z1 z9.symm
                    refine z_call (va_runV (As := [.ref t9]) (rest := []) ⟨hx, hb, hml, hown, hts⟩ (c_A_add (arr := arr) (cap := cap) (x := t9) l hP hD (Nat.le_trans hB hS.1) (kp _ _ (PX_l hX0)) (by rcases hX0.2.2.2.2.1 with z | z; exact Or.inl z; exact Or.inr ⟨kp _ _ z.1, z.2⟩) hT2.1 (by omega) (fun i hi y hy => by rw [PX_tr hX0 hi] at hy; cases hy; exact ⟨_, kp _ _ (PX_t hX0 hi)⟩)) (cwV 1 hts (tt_V tw_446 tw_443 tw_444 tw_445 tw_33) rfl rfl rfl (by decide +kernel) ⟨Nat.le_of_ble_eq_true rfl, Nat.le_of_ble_eq_true rfl⟩) (zPa_V hKN (hZA.on hS) hP (ci := 5) (q := (R_A, F_A, 3)) rfl (kp _ _ (PX_l hX0))) rfl rfl hl.1 rfl (lv_room (Nat.le_of_ble_eq_true rfl)) d_X_add_167 ⟨Nat.le_of_ble_eq_true rfl, Nat.le_of_ble_eq_true rfl⟩) hS (fun ws3 H locs hR hP hD hz9 hS => ?_)
                    obtain ⟨ea', cap', arr', r1, r2, r3, r4, r5, r6⟩ := hR
                    refine lv_pop hx hb d_X_add_170 rfl ?_
                    refine lv_iload hx hb d_X_add_171 (zl hl rfl) ?_
                    have hcA : cAdd (nI x_2) r (-1) delay = true := by simp only [cAdd, grp_eq, *, reduceIte, Bool.true_and, Bool.false_and, Bool.and_false, Bool.and_true, Bool.false_eq_true, Bool.or_true, Bool.true_or, Bool.or_false, Bool.false_or, decide_true, decide_false]
                    have hoA : oAdd f ky time n (nI x_2) kv = none := by unfold oAdd; rw [tx_nI (by omega)]; exact ho
                    have hfu : fullA f n = false := by unfold fullA; simp [bL, bS]
                    have hcN : cNew f ky time n (nI x_2) r (-1) kv delay = true := by unfold cNew; rw [hcA, hoA, hfu]; rfl
                    have hXN := PX_add (r := r) (gv := (-1)) (delay := delay) (kv := kv) (qi := x_2) hDn hX0 hE0 (by omega) (by omega) (Or.inl rfl) r1 r2 r3 r4 r5 (r6 _ _ (fun z => hneN _ _ (PX_l hX0) z.symm) (fun z => hnT z) hT2.1) (fun b fe h1 h2 hz => r6 _ _ h1 h2 (kp _ _ hz))
                    exact z_iretR hx hb hr hlocks hP hD hS (by unfold rAdd; rw [if_pos hcA, hoA]; simp only [hfu, Bool.false_eq_true, if_false]) ⟨⟨_, _, _, _, _, _, by simp only [hcN, if_true]; exact hXN⟩, fun b fe hk hz => r6 _ _ (zin_ne hDn hz (PX_l hX0) (fun z => by rw [z] at hk; cases hk)) (PX_neK hDn hX0 hE0 hk hz) (kp _ _ hz)⟩ d_X_add_173
                  · have bS : nI n = 400 := Decidable.of_not_not (fun z => c_12 ((n400 (by omega)).mpr z))
                    have hcA : cAdd (nI x_2) r (-1) delay = true := by simp only [cAdd, grp_eq, *, reduceIte, Bool.true_and, Bool.false_and, Bool.and_false, Bool.and_true, Bool.false_eq_true, Bool.or_true, Bool.true_or, Bool.or_false, Bool.false_or, decide_true, decide_false]
                    have hoA : oAdd f ky time n (nI x_2) kv = none := by unfold oAdd; rw [tx_nI (by omega)]; exact ho
                    have hfu : fullA f n = true := by unfold fullA; simp [*]
                    exact absurd hc (by unfold xAdd; rw [if_pos hcA, hoA]; simp only [hfu, if_true]; decide)
              · exact absurd rfl c_10
            · have hto := lstD_some ho
              refine lv_istore (lv' := [(8, .int (nI t)), (7, .ref (qad x_2)), (0, .ref (xa 0)), (1, .int (nI x_2)), (2, .int r), (3, .int (-1)), (4, .long kv), (6, .int delay)]) hx hb d_X_add_85 hl (by decide) rfl (fun ls hl => ?_)
              refine lv_iload hx hb d_X_add_87 (zl hl rfl) ?_
              refine lv_iconst (v := (-1)) hx hb d_X_add_89 (by decide) ?_
              refine lv_icmp_eq (tgt := 96) hx hb d_X_add_90 (by decide) (fun c_13 => ?_) (fun c_13 => ?_)
              · exact absurd c_13 (nI_m1 (by omega))
              · refine lv_iload hx hb d_X_add_93 (zl hl rfl) ?_
                have hcA : cAdd (nI x_2) r (-1) delay = true := by simp only [cAdd, grp_eq, *, reduceIte, Bool.true_and, Bool.false_and, Bool.and_false, Bool.and_true, Bool.false_eq_true, Bool.or_true, Bool.true_or, Bool.or_false, Bool.false_or, decide_true, decide_false]
                have hoA : oAdd f ky time n (nI x_2) kv = some t := by unfold oAdd; rw [tx_nI (by omega)]; exact ho
                have hcN : cNew f ky time n (nI x_2) r (-1) kv delay = false := by unfold cNew; rw [hoA]; simp
                refine W.widen (k := 2) (n := 612) (Nat.le_of_ble_eq_true rfl) (Nat.le_of_ble_eq_true rfl) ?_
                exact z_iretR hx hb hr hlocks hP hD hS (by unfold rAdd; rw [if_pos hcA, hoA]) ⟨⟨tad, arr, ea, cap, md, h, by simp only [hcN, Bool.false_eq_true, if_false]; exact hX⟩, zfrX_rf⟩ d_X_add_95
          · have bK : kv = 0 := lgc.mp c_9
            subst bK
            have ho : lstD (pKey f ky time x_2 0) n = none := key0 n
            refine lv_iconst (v := (-1)) hx hb d_X_add_73 (by decide) ?_
            refine lv_goto (tgt := 85) hx hb d_X_add_74 (by decide) ?_
            refine lv_istore (lv' := [(8, .int (-1)), (7, .ref (qad x_2)), (0, .ref (xa 0)), (1, .int (nI x_2)), (2, .int r), (3, .int (-1)), (4, .long 0), (6, .int delay)]) hx hb d_X_add_85 hl (by decide) rfl (fun ls hl => ?_)
            refine lv_iload hx hb d_X_add_87 (zl hl rfl) ?_
            refine lv_iconst (v := (-1)) hx hb d_X_add_89 (by decide) ?_
            refine lv_icmp_eq (tgt := 96) hx hb d_X_add_90 (by decide) (fun c_14 => ?_) (fun c_14 => ?_)
            · refine lv_aload_n hx hb d_X_add_96 rfl (zl hl rfl) ?_
              refine z_calli (va_runV (As := []) (rest := []) ⟨hx, hb, hml, hown, hts⟩ (c_X_liveTasks l hP hX) (cwV 0 hts (tt_V tw_202 tw_199 tw_201 tw_2 tw_30) rfl rfl rfl (by decide +kernel) ⟨Nat.le_of_ble_eq_true rfl, Nat.le_of_ble_eq_true rfl⟩) (zPc_V hKN hP (ci := 3) (q := (R_X, F_X, 5)) rfl (PX_x hX)) rfl rfl hl.1 rfl (lv_room (Nat.le_of_ble_eq_true rfl)) d_X_add_97 ⟨Nat.zero_le _, Nat.zero_le _⟩) hS (fun locs hS => ?_)
              refine lv_bipush (v := 64) hx hb d_X_add_100 (by decide) ?_
              refine lv_icmp_ge (tgt := 118) hx hb d_X_add_102 (by decide) (fun c_15 => ?_) (fun c_15 => ?_)
              · have bL : nI (cnt (pLive f) n) = 64 := Decidable.of_not_not (fun z => absurd ((lv64 hlv).mpr z) (Int32.not_lt.mpr c_15))
                have hcA : cAdd (nI x_2) r (-1) delay = true := by simp only [cAdd, grp_eq, *, reduceIte, Bool.true_and, Bool.false_and, Bool.and_false, Bool.and_true, Bool.false_eq_true, Bool.or_true, Bool.true_or, Bool.or_false, Bool.false_or, decide_true, decide_false]
                have hoA : oAdd f ky time n (nI x_2) 0 = none := by unfold oAdd; rw [tx_nI (by omega)]; exact ho
                have hfu : fullA f n = true := by unfold fullA; simp [*]
                exact absurd hc (by unfold xAdd; rw [if_pos hcA, hoA]; simp only [hfu, if_true]; decide)
              · have bL := (lv64 hlv).mp (Int32.not_le.mp c_15)
                refine lv_aload_n hx hb d_X_add_105 rfl (zl hl rfl) ?_
                refine z_get (C := R_X) (T := F_X) (N := 5) (v := .ref (xa 3)) hx hb hts inT_X hown hK hP (PX_x hX) rfl 2 (by decide) tw_135 (fun _ h => h) rfl d_X_add_106 ?_
                refine z_calli (va_runV (As := []) (rest := []) ⟨hx, hb, hml, hown, hts⟩ (c_A_size l hP (PX_l hX)) (cwV 0 hts (tt_V tw_160 tw_157 tw_158 tw_159 tw_33) rfl rfl rfl (by decide +kernel) ⟨Nat.le_of_ble_eq_true rfl, Nat.le_of_ble_eq_true rfl⟩) (zPc_V hKN hP (ci := 5) (q := (R_A, F_A, 3)) rfl (PX_l hX)) rfl rfl hl.1 rfl (lv_room (Nat.le_of_ble_eq_true rfl)) d_X_add_109 ⟨Nat.zero_le _, Nat.zero_le _⟩) hS (fun locs hS => ?_)
                refine lv_sipush (v := 400) hx hb d_X_add_112 (by decide) ?_
                refine lv_icmp_lt (tgt := 128) hx hb d_X_add_115 (by decide) (fun c_16 => ?_) (fun c_16 => ?_)
                · have bS := (n400 (by omega)).mp c_16
                  have hn4 : n < 400 := (nI_ltI (a := n) (b := 400) (by omega) (by decide)).mp c_16
                  refine lv_aload_n hx hb d_X_add_128 rfl (zl hl rfl) ?_
                  refine z_get (C := R_X) (T := F_X) (N := 5) (v := .ref (xa 3)) hx hb hts inT_X hown hK hP (PX_x hX) rfl 2 (by decide) tw_135 (fun _ h => h) rfl d_X_add_129 ?_
                  refine z_calli (va_runV (As := []) (rest := []) ⟨hx, hb, hml, hown, hts⟩ (c_A_size l hP (PX_l hX)) (cwV 0 hts (tt_V tw_160 tw_157 tw_158 tw_159 tw_33) rfl rfl rfl (by decide +kernel) ⟨Nat.le_of_ble_eq_true rfl, Nat.le_of_ble_eq_true rfl⟩) (zPc_V hKN hP (ci := 5) (q := (R_A, F_A, 3)) rfl (PX_l hX)) rfl rfl hl.1 rfl (lv_room (Nat.le_of_ble_eq_true rfl)) d_X_add_132 ⟨Nat.zero_le _, Nat.zero_le _⟩) hS (fun locs hS => ?_)
                  refine lv_istore (lv' := [(9, .int (nI n)), (8, .int (-1)), (7, .ref (qad x_2)), (0, .ref (xa 0)), (1, .int (nI x_2)), (2, .int r), (3, .int (-1)), (4, .long 0), (6, .int delay)]) hx hb d_X_add_135 hl (by decide) rfl (fun ls hl => ?_)
                  refine lv_aload_n hx hb d_X_add_137 rfl (zl hl rfl) ?_
                  refine z_get (C := R_X) (T := F_X) (N := 5) (v := .ref (xa 3)) hx hb hts inT_X hown hK hP (PX_x hX) rfl 2 (by decide) tw_135 (fun _ h => h) rfl d_X_add_138 ?_
                  have hDn := hD
                  refine z_new (ci := 2) (C := R_T) (T := F_T) (N := 12) (fs := [.int 0, .null, .int 0, .null, .long 0, .int 0, .int 0, .int 0, .int 0, .int 0, .int 0, .int 0]) hx hb hts inT_T ft_T ft_T_ok hown tw_175 tw_392 tw_44 hK hP hD hS hA0 rfl (by decide +kernel) (Nat.le_of_ble_eq_true rfl) (Nat.le_of_ble_eq_true rfl) d_X_add_141 (fun t9 ws1 H hP hD hS uN hneN => ?_)
                  have hX0 := hX
                  have hX : PX kk xa qad gad tad e0 time tok n f ky h qar gar arr ea cap md ws1 := PX_new hX uN
                  refine lv_dup hx hb d_X_add_144 rfl ?_
                  refine lv_iload hx hb d_X_add_145 (zl hl rfl) ?_
                  refine lv_aload hx hb d_X_add_147 (zl hl rfl) ?_
                  refine lv_iload_n hx hb d_X_add_149 rfl (zl hl rfl) ?_
                  refine lv_aload_n hx hb d_X_add_150 rfl (zl hl rfl) ?_
                  refine lv_iload_n hx hb d_X_add_151 rfl (zl hl rfl) ?_
                  refine z_callq (va_runV (As := [.int (-1)]) (rest := [.int r, .ref (qad x_2), .int (nI n), .ref t9, .ref t9, .ref (xa 3)]) ⟨hx, hb, hml, hown, hts⟩ (c_X_groupAt l hP hX (-1)) (cwV 1 hts (tt_V tw_219 tw_216 tw_218 tw_4 tw_30) rfl rfl rfl (by decide +kernel) ⟨Nat.le_of_ble_eq_true rfl, Nat.le_of_ble_eq_true rfl⟩) (zPc_V hKN hP (ci := 3) (q := (R_X, F_X, 5)) rfl (PX_x hX)) rfl rfl hl.1 rfl (lv_room (Nat.le_of_ble_eq_true rfl)) d_X_add_152 ⟨Nat.le_of_ble_eq_true rfl, Nat.le_of_ble_eq_true rfl⟩) hS (fun locs hS => ?_)
                  refine lv_lload hx hb d_X_add_155 (zl hl rfl) ?_
                  refine lv_aload_n hx hb d_X_add_157 rfl (zl hl rfl) ?_
                  refine z_get (C := R_X) (T := F_X) (N := 5) (v := .int time) hx hb hts inT_X hown hK hP (PX_x hX) rfl 3 (by decide) tw_136 (fun _ h => h) rfl d_X_add_158 ?_
                  refine lv_iload hx hb d_X_add_161 (zl hl rfl) ?_
                  refine lv_iadd hx hb d_X_add_163 ?_
                  refine z_call (va_runI (As := [.int (nI n), .ref (qad x_2), .int r, va_rf (gRef gad (-1)), .long 0, .int (time + delay)]) (rest := [.ref t9, .ref (xa 3)]) ⟨hx, hb, hml, hown, hts⟩ (c_T_init l hP hD uN.1 (nI n) (qad x_2) r (gRef gad (-1)) 0 (time + delay)) (cwI 6 hts (tt_in tw_395) rfl rfl rfl (hts _ tw_44) (hts _ tw_393) (hts _ tw_394) rfl (by decide +kernel) ⟨Nat.le_of_ble_eq_true rfl, Nat.le_of_ble_eq_true rfl⟩) (zPc_S hKN) rfl rfl hl.1 rfl (lv_room (Nat.le_of_ble_eq_true rfl)) d_X_add_164 ⟨Nat.le_of_ble_eq_true rfl, Nat.le_of_ble_eq_true rfl⟩) hS (fun ws2 H locs hT2 hP hD hz9 hS => ?_)
                  have kp : ∀ (b : Nat) (fe : va_E), zin ws b fe → zin ws2 b fe := fun b fe hz => hT2.2 _ _ (hneN b fe hz) (uN.2 _ _ hz)
                  have hnT : ¬ t9 = ea := by
                    rcases hX0.2.2.2.2.1 with ⟨-, z⟩ | ⟨z1, -⟩
                    · intro z9
                      rw [z9, z] at hT2
                      exact hE0 (zin_A hD hT2.1)
                    · exact fun z9 => hneN _ _ z1 z9.symm
                  refine z_call (va_runV (As := [.ref t9]) (rest := []) ⟨hx, hb, hml, hown, hts⟩ (c_A_add (arr := arr) (cap := cap) (x := t9) l hP hD (Nat.le_trans hB hS.1) (kp _ _ (PX_l hX0)) (by rcases hX0.2.2.2.2.1 with z | z; exact Or.inl z; exact Or.inr ⟨kp _ _ z.1, z.2⟩) hT2.1 (by omega) (fun i hi y hy => by rw [PX_tr hX0 hi] at hy; cases hy; exact ⟨_, kp _ _ (PX_t hX0 hi)⟩)) (cwV 1 hts (tt_V tw_446 tw_443 tw_444 tw_445 tw_33) rfl rfl rfl (by decide +kernel) ⟨Nat.le_of_ble_eq_true rfl, Nat.le_of_ble_eq_true rfl⟩) (zPa_V hKN (hZA.on hS) hP (ci := 5) (q := (R_A, F_A, 3)) rfl (kp _ _ (PX_l hX0))) rfl rfl hl.1 rfl (lv_room (Nat.le_of_ble_eq_true rfl)) d_X_add_167 ⟨Nat.le_of_ble_eq_true rfl, Nat.le_of_ble_eq_true rfl⟩) hS (fun ws3 H locs hR hP hD hz9 hS => ?_)
                  obtain ⟨ea', cap', arr', r1, r2, r3, r4, r5, r6⟩ := hR
                  refine lv_pop hx hb d_X_add_170 rfl ?_
                  refine lv_iload hx hb d_X_add_171 (zl hl rfl) ?_
                  have hcA : cAdd (nI x_2) r (-1) delay = true := by simp only [cAdd, grp_eq, *, reduceIte, Bool.true_and, Bool.false_and, Bool.and_false, Bool.and_true, Bool.false_eq_true, Bool.or_true, Bool.true_or, Bool.or_false, Bool.false_or, decide_true, decide_false]
                  have hoA : oAdd f ky time n (nI x_2) 0 = none := by unfold oAdd; rw [tx_nI (by omega)]; exact ho
                  have hfu : fullA f n = false := by unfold fullA; simp [bL, bS]
                  have hcN : cNew f ky time n (nI x_2) r (-1) 0 delay = true := by unfold cNew; rw [hcA, hoA, hfu]; rfl
                  have hXN := PX_add (r := r) (gv := (-1)) (delay := delay) (kv := 0) (qi := x_2) hDn hX0 hE0 (by omega) (by omega) (Or.inl rfl) r1 r2 r3 r4 r5 (r6 _ _ (fun z => hneN _ _ (PX_l hX0) z.symm) (fun z => hnT z) hT2.1) (fun b fe h1 h2 hz => r6 _ _ h1 h2 (kp _ _ hz))
                  exact z_iretR hx hb hr hlocks hP hD hS (by unfold rAdd; rw [if_pos hcA, hoA]; simp only [hfu, Bool.false_eq_true, if_false]) ⟨⟨_, _, _, _, _, _, by simp only [hcN, if_true]; exact hXN⟩, fun b fe hk hz => r6 _ _ (zin_ne hDn hz (PX_l hX0) (fun z => by rw [z] at hk; cases hk)) (PX_neK hDn hX0 hE0 hk hz) (kp _ _ hz)⟩ d_X_add_173
                · have bS : nI n = 400 := Decidable.of_not_not (fun z => c_16 ((n400 (by omega)).mpr z))
                  have hcA : cAdd (nI x_2) r (-1) delay = true := by simp only [cAdd, grp_eq, *, reduceIte, Bool.true_and, Bool.false_and, Bool.and_false, Bool.and_true, Bool.false_eq_true, Bool.or_true, Bool.true_or, Bool.or_false, Bool.false_or, decide_true, decide_false]
                  have hoA : oAdd f ky time n (nI x_2) 0 = none := by unfold oAdd; rw [tx_nI (by omega)]; exact ho
                  have hfu : fullA f n = true := by unfold fullA; simp [*]
                  exact absurd hc (by unfold xAdd; rw [if_pos hcA, hoA]; simp only [hfu, if_true]; decide)
            · exact absurd rfl c_14
        · have b4 : ¬ g = -1 := c_8
          refine lv_aload_n hx hb d_X_add_48 rfl (zl hl rfl) ?_
          refine lv_iload_n hx hb d_X_add_49 rfl (zl hl rfl) ?_
          by_cases bq_17 : sWithin g 0 7 = true
          · obtain ⟨x_18, hx_19, rfl⟩ := sWithin_nI (h := 7) (by decide) bq_17
            have ht_20 : tx (nI x_18) = x_18 := tx_nI (by omega)
            have hr_21 : gRef gad (nI x_18) = some (gad x_18) := by rw [gRef, if_pos bq_17, ht_20]
            refine z_callq (va_runV (As := [.int (nI x_18)]) (rest := []) ⟨hx, hb, hml, hown, hts⟩ (c_X_groupAt l hP hX (nI x_18)) (cwV 1 hts (tt_V tw_219 tw_216 tw_218 tw_4 tw_30) rfl rfl rfl (by decide +kernel) ⟨Nat.le_of_ble_eq_true rfl, Nat.le_of_ble_eq_true rfl⟩) (zPc_V hKN hP (ci := 3) (q := (R_X, F_X, 5)) rfl (PX_x hX)) rfl rfl hl.1 rfl (lv_room (Nat.le_of_ble_eq_true rfl)) d_X_add_50 ⟨Nat.zero_le _, Nat.zero_le _⟩) hS (fun locs hS => ?_)
            rw [hr_21]
            refine lv_ifnonnull (tgt := 66) hx hb d_X_add_53 (by decide) ?_
            refine lv_lload hx hb d_X_add_66 (zl hl rfl) ?_
            refine lv_lconst (v := 0) hx hb d_X_add_68 (by decide) ?_
            refine W.lcmp hx hb d_X_add_69 ?_
            refine lv_if_ne (tgt := 77) hx hb d_X_add_70 (by decide) (fun c_22 => ?_) (fun c_22 => ?_)
            · have bK : ¬ kv = 0 := fun z => c_22 (lgc.mpr z)
              refine lv_aload_n hx hb d_X_add_77 rfl (zl hl rfl) ?_
              refine lv_aload hx hb d_X_add_78 (zl hl rfl) ?_
              refine lv_lload hx hb d_X_add_80 (zl hl rfl) ?_
              refine z_calli (va_runV (As := [.ref (qad x_2), .long kv]) (rest := []) ⟨hx, hb, hml, hown, hts⟩ (c_X_numberUnder l hP hX x_2 (by omega) kv bK) (cwV 2 hts (tt_V tw_370 tw_367 tw_369 tw_11 tw_30) rfl rfl rfl (by decide +kernel) ⟨Nat.le_of_ble_eq_true rfl, Nat.le_of_ble_eq_true rfl⟩) (zPc_V hKN hP (ci := 3) (q := (R_X, F_X, 5)) rfl (PX_x hX)) rfl rfl hl.1 rfl (lv_room (Nat.le_of_ble_eq_true rfl)) d_X_add_82 ⟨Nat.zero_le _, Nat.zero_le _⟩) hS (fun locs hS => ?_)
              rcases ho : lstD (pKey f ky time x_2 kv) n with _ | t
              · have hm1 : True := trivial
                refine lv_istore (lv' := [(8, .int (-1)), (7, .ref (qad x_2)), (0, .ref (xa 0)), (1, .int (nI x_2)), (2, .int r), (3, .int (nI x_18)), (4, .long kv), (6, .int delay)]) hx hb d_X_add_85 hl (by decide) rfl (fun ls hl => ?_)
                refine lv_iload hx hb d_X_add_87 (zl hl rfl) ?_
                refine lv_iconst (v := (-1)) hx hb d_X_add_89 (by decide) ?_
                refine lv_icmp_eq (tgt := 96) hx hb d_X_add_90 (by decide) (fun c_23 => ?_) (fun c_23 => ?_)
                · refine lv_aload_n hx hb d_X_add_96 rfl (zl hl rfl) ?_
                  refine z_calli (va_runV (As := []) (rest := []) ⟨hx, hb, hml, hown, hts⟩ (c_X_liveTasks l hP hX) (cwV 0 hts (tt_V tw_202 tw_199 tw_201 tw_2 tw_30) rfl rfl rfl (by decide +kernel) ⟨Nat.le_of_ble_eq_true rfl, Nat.le_of_ble_eq_true rfl⟩) (zPc_V hKN hP (ci := 3) (q := (R_X, F_X, 5)) rfl (PX_x hX)) rfl rfl hl.1 rfl (lv_room (Nat.le_of_ble_eq_true rfl)) d_X_add_97 ⟨Nat.zero_le _, Nat.zero_le _⟩) hS (fun locs hS => ?_)
                  refine lv_bipush (v := 64) hx hb d_X_add_100 (by decide) ?_
                  refine lv_icmp_ge (tgt := 118) hx hb d_X_add_102 (by decide) (fun c_24 => ?_) (fun c_24 => ?_)
                  · have bL : nI (cnt (pLive f) n) = 64 := Decidable.of_not_not (fun z => absurd ((lv64 hlv).mpr z) (Int32.not_lt.mpr c_24))
                    have hcA : cAdd (nI x_2) r (nI x_18) delay = true := by simp only [cAdd, grp_eq, *, reduceIte, Bool.true_and, Bool.false_and, Bool.and_false, Bool.and_true, Bool.false_eq_true, Bool.or_true, Bool.true_or, Bool.or_false, Bool.false_or, decide_true, decide_false]
                    have hoA : oAdd f ky time n (nI x_2) kv = none := by unfold oAdd; rw [tx_nI (by omega)]; exact ho
                    have hfu : fullA f n = true := by unfold fullA; simp [*]
                    exact absurd hc (by unfold xAdd; rw [if_pos hcA, hoA]; simp only [hfu, if_true]; decide)
                  · have bL := (lv64 hlv).mp (Int32.not_le.mp c_24)
                    refine lv_aload_n hx hb d_X_add_105 rfl (zl hl rfl) ?_
                    refine z_get (C := R_X) (T := F_X) (N := 5) (v := .ref (xa 3)) hx hb hts inT_X hown hK hP (PX_x hX) rfl 2 (by decide) tw_135 (fun _ h => h) rfl d_X_add_106 ?_
                    refine z_calli (va_runV (As := []) (rest := []) ⟨hx, hb, hml, hown, hts⟩ (c_A_size l hP (PX_l hX)) (cwV 0 hts (tt_V tw_160 tw_157 tw_158 tw_159 tw_33) rfl rfl rfl (by decide +kernel) ⟨Nat.le_of_ble_eq_true rfl, Nat.le_of_ble_eq_true rfl⟩) (zPc_V hKN hP (ci := 5) (q := (R_A, F_A, 3)) rfl (PX_l hX)) rfl rfl hl.1 rfl (lv_room (Nat.le_of_ble_eq_true rfl)) d_X_add_109 ⟨Nat.zero_le _, Nat.zero_le _⟩) hS (fun locs hS => ?_)
                    refine lv_sipush (v := 400) hx hb d_X_add_112 (by decide) ?_
                    refine lv_icmp_lt (tgt := 128) hx hb d_X_add_115 (by decide) (fun c_25 => ?_) (fun c_25 => ?_)
                    · have bS := (n400 (by omega)).mp c_25
                      have hn4 : n < 400 := (nI_ltI (a := n) (b := 400) (by omega) (by decide)).mp c_25
                      refine lv_aload_n hx hb d_X_add_128 rfl (zl hl rfl) ?_
                      refine z_get (C := R_X) (T := F_X) (N := 5) (v := .ref (xa 3)) hx hb hts inT_X hown hK hP (PX_x hX) rfl 2 (by decide) tw_135 (fun _ h => h) rfl d_X_add_129 ?_
                      refine z_calli (va_runV (As := []) (rest := []) ⟨hx, hb, hml, hown, hts⟩ (c_A_size l hP (PX_l hX)) (cwV 0 hts (tt_V tw_160 tw_157 tw_158 tw_159 tw_33) rfl rfl rfl (by decide +kernel) ⟨Nat.le_of_ble_eq_true rfl, Nat.le_of_ble_eq_true rfl⟩) (zPc_V hKN hP (ci := 5) (q := (R_A, F_A, 3)) rfl (PX_l hX)) rfl rfl hl.1 rfl (lv_room (Nat.le_of_ble_eq_true rfl)) d_X_add_132 ⟨Nat.zero_le _, Nat.zero_le _⟩) hS (fun locs hS => ?_)
                      refine lv_istore (lv' := [(9, .int (nI n)), (8, .int (-1)), (7, .ref (qad x_2)), (0, .ref (xa 0)), (1, .int (nI x_2)), (2, .int r), (3, .int (nI x_18)), (4, .long kv), (6, .int delay)]) hx hb d_X_add_135 hl (by decide) rfl (fun ls hl => ?_)
                      refine lv_aload_n hx hb d_X_add_137 rfl (zl hl rfl) ?_
                      refine z_get (C := R_X) (T := F_X) (N := 5) (v := .ref (xa 3)) hx hb hts inT_X hown hK hP (PX_x hX) rfl 2 (by decide) tw_135 (fun _ h => h) rfl d_X_add_138 ?_
                      have hDn := hD
                      refine z_new (ci := 2) (C := R_T) (T := F_T) (N := 12) (fs := [.int 0, .null, .int 0, .null, .long 0, .int 0, .int 0, .int 0, .int 0, .int 0, .int 0, .int 0]) hx hb hts inT_T ft_T ft_T_ok hown tw_175 tw_392 tw_44 hK hP hD hS hA0 rfl (by decide +kernel) (Nat.le_of_ble_eq_true rfl) (Nat.le_of_ble_eq_true rfl) d_X_add_141 (fun t9 ws1 H hP hD hS uN hneN => ?_)
                      have hX0 := hX
                      have hX : PX kk xa qad gad tad e0 time tok n f ky h qar gar arr ea cap md ws1 := PX_new hX uN
                      refine lv_dup hx hb d_X_add_144 rfl ?_
                      refine lv_iload hx hb d_X_add_145 (zl hl rfl) ?_
                      refine lv_aload hx hb d_X_add_147 (zl hl rfl) ?_
                      refine lv_iload_n hx hb d_X_add_149 rfl (zl hl rfl) ?_
                      refine lv_aload_n hx hb d_X_add_150 rfl (zl hl rfl) ?_
                      refine lv_iload_n hx hb d_X_add_151 rfl (zl hl rfl) ?_
                      refine z_callq (va_runV (As := [.int (nI x_18)]) (rest := [.int r, .ref (qad x_2), .int (nI n), .ref t9, .ref t9, .ref (xa 3)]) ⟨hx, hb, hml, hown, hts⟩ (c_X_groupAt l hP hX (nI x_18)) (cwV 1 hts (tt_V tw_219 tw_216 tw_218 tw_4 tw_30) rfl rfl rfl (by decide +kernel) ⟨Nat.le_of_ble_eq_true rfl, Nat.le_of_ble_eq_true rfl⟩) (zPc_V hKN hP (ci := 3) (q := (R_X, F_X, 5)) rfl (PX_x hX)) rfl rfl hl.1 rfl (lv_room (Nat.le_of_ble_eq_true rfl)) d_X_add_152 ⟨Nat.le_of_ble_eq_true rfl, Nat.le_of_ble_eq_true rfl⟩) hS (fun locs hS => ?_)
                      refine lv_lload hx hb d_X_add_155 (zl hl rfl) ?_
                      refine lv_aload_n hx hb d_X_add_157 rfl (zl hl rfl) ?_
                      refine z_get (C := R_X) (T := F_X) (N := 5) (v := .int time) hx hb hts inT_X hown hK hP (PX_x hX) rfl 3 (by decide) tw_136 (fun _ h => h) rfl d_X_add_158 ?_
                      refine lv_iload hx hb d_X_add_161 (zl hl rfl) ?_
                      refine lv_iadd hx hb d_X_add_163 ?_
                      refine z_call (va_runI (As := [.int (nI n), .ref (qad x_2), .int r, va_rf (gRef gad (nI x_18)), .long kv, .int (time + delay)]) (rest := [.ref t9, .ref (xa 3)]) ⟨hx, hb, hml, hown, hts⟩ (c_T_init l hP hD uN.1 (nI n) (qad x_2) r (gRef gad (nI x_18)) kv (time + delay)) (cwI 6 hts (tt_in tw_395) rfl rfl rfl (hts _ tw_44) (hts _ tw_393) (hts _ tw_394) rfl (by decide +kernel) ⟨Nat.le_of_ble_eq_true rfl, Nat.le_of_ble_eq_true rfl⟩) (zPc_S hKN) rfl rfl hl.1 rfl (lv_room (Nat.le_of_ble_eq_true rfl)) d_X_add_164 ⟨Nat.le_of_ble_eq_true rfl, Nat.le_of_ble_eq_true rfl⟩) hS (fun ws2 H locs hT2 hP hD hz9 hS => ?_)
                      have kp : ∀ (b : Nat) (fe : va_E), zin ws b fe → zin ws2 b fe := fun b fe hz => hT2.2 _ _ (hneN b fe hz) (uN.2 _ _ hz)
                      have hnT : ¬ t9 = ea := by
                        rcases hX0.2.2.2.2.1 with ⟨-, z⟩ | ⟨z1, -⟩
                        · intro z9
                          rw [z9, z] at hT2
                          exact hE0 (zin_A hD hT2.1)
                        · exact fun z9 => hneN _ _ z1 z9.symm
                      refine z_call (va_runV (As := [.ref t9]) (rest := []) ⟨hx, hb, hml, hown, hts⟩ (c_A_add (arr := arr) (cap := cap) (x := t9) l hP hD (Nat.le_trans hB hS.1) (kp _ _ (PX_l hX0)) (by rcases hX0.2.2.2.2.1 with z | z; exact Or.inl z; exact Or.inr ⟨kp _ _ z.1, z.2⟩) hT2.1 (by omega) (fun i hi y hy => by rw [PX_tr hX0 hi] at hy; cases hy; exact ⟨_, kp _ _ (PX_t hX0 hi)⟩)) (cwV 1 hts (tt_V tw_446 tw_443 tw_444 tw_445 tw_33) rfl rfl rfl (by decide +kernel) ⟨Nat.le_of_ble_eq_true rfl, Nat.le_of_ble_eq_true rfl⟩) (zPa_V hKN (hZA.on hS) hP (ci := 5) (q := (R_A, F_A, 3)) rfl (kp _ _ (PX_l hX0))) rfl rfl hl.1 rfl (lv_room (Nat.le_of_ble_eq_true rfl)) d_X_add_167 ⟨Nat.le_of_ble_eq_true rfl, Nat.le_of_ble_eq_true rfl⟩) hS (fun ws3 H locs hR hP hD hz9 hS => ?_)
                      obtain ⟨ea', cap', arr', r1, r2, r3, r4, r5, r6⟩ := hR
                      refine lv_pop hx hb d_X_add_170 rfl ?_
                      refine lv_iload hx hb d_X_add_171 (zl hl rfl) ?_
                      have hcA : cAdd (nI x_2) r (nI x_18) delay = true := by simp only [cAdd, grp_eq, *, reduceIte, Bool.true_and, Bool.false_and, Bool.and_false, Bool.and_true, Bool.false_eq_true, Bool.or_true, Bool.true_or, Bool.or_false, Bool.false_or, decide_true, decide_false]
                      have hoA : oAdd f ky time n (nI x_2) kv = none := by unfold oAdd; rw [tx_nI (by omega)]; exact ho
                      have hfu : fullA f n = false := by unfold fullA; simp [bL, bS]
                      have hcN : cNew f ky time n (nI x_2) r (nI x_18) kv delay = true := by unfold cNew; rw [hcA, hoA, hfu]; rfl
                      have hXN := PX_add (r := r) (gv := (nI x_18)) (delay := delay) (kv := kv) (qi := x_2) hDn hX0 hE0 (by omega) (by omega) (Or.inr ⟨x_18, by omega, rfl⟩) r1 r2 r3 r4 r5 (r6 _ _ (fun z => hneN _ _ (PX_l hX0) z.symm) (fun z => hnT z) hT2.1) (fun b fe h1 h2 hz => r6 _ _ h1 h2 (kp _ _ hz))
                      exact z_iretR hx hb hr hlocks hP hD hS (by unfold rAdd; rw [if_pos hcA, hoA]; simp only [hfu, Bool.false_eq_true, if_false]) ⟨⟨_, _, _, _, _, _, by simp only [hcN, if_true]; exact hXN⟩, fun b fe hk hz => r6 _ _ (zin_ne hDn hz (PX_l hX0) (fun z => by rw [z] at hk; cases hk)) (PX_neK hDn hX0 hE0 hk hz) (kp _ _ hz)⟩ d_X_add_173
                    · have bS : nI n = 400 := Decidable.of_not_not (fun z => c_25 ((n400 (by omega)).mpr z))
                      have hcA : cAdd (nI x_2) r (nI x_18) delay = true := by simp only [cAdd, grp_eq, *, reduceIte, Bool.true_and, Bool.false_and, Bool.and_false, Bool.and_true, Bool.false_eq_true, Bool.or_true, Bool.true_or, Bool.or_false, Bool.false_or, decide_true, decide_false]
                      have hoA : oAdd f ky time n (nI x_2) kv = none := by unfold oAdd; rw [tx_nI (by omega)]; exact ho
                      have hfu : fullA f n = true := by unfold fullA; simp [*]
                      exact absurd hc (by unfold xAdd; rw [if_pos hcA, hoA]; simp only [hfu, if_true]; decide)
                · exact absurd rfl c_23
              · have hto := lstD_some ho
                refine lv_istore (lv' := [(8, .int (nI t)), (7, .ref (qad x_2)), (0, .ref (xa 0)), (1, .int (nI x_2)), (2, .int r), (3, .int (nI x_18)), (4, .long kv), (6, .int delay)]) hx hb d_X_add_85 hl (by decide) rfl (fun ls hl => ?_)
                refine lv_iload hx hb d_X_add_87 (zl hl rfl) ?_
                refine lv_iconst (v := (-1)) hx hb d_X_add_89 (by decide) ?_
                refine lv_icmp_eq (tgt := 96) hx hb d_X_add_90 (by decide) (fun c_26 => ?_) (fun c_26 => ?_)
                · exact absurd c_26 (nI_m1 (by omega))
                · refine lv_iload hx hb d_X_add_93 (zl hl rfl) ?_
                  have hcA : cAdd (nI x_2) r (nI x_18) delay = true := by simp only [cAdd, grp_eq, *, reduceIte, Bool.true_and, Bool.false_and, Bool.and_false, Bool.and_true, Bool.false_eq_true, Bool.or_true, Bool.true_or, Bool.or_false, Bool.false_or, decide_true, decide_false]
                  have hoA : oAdd f ky time n (nI x_2) kv = some t := by unfold oAdd; rw [tx_nI (by omega)]; exact ho
                  have hcN : cNew f ky time n (nI x_2) r (nI x_18) kv delay = false := by unfold cNew; rw [hoA]; simp
                  refine W.widen (k := 2) (n := 612) (Nat.le_of_ble_eq_true rfl) (Nat.le_of_ble_eq_true rfl) ?_
                  exact z_iretR hx hb hr hlocks hP hD hS (by unfold rAdd; rw [if_pos hcA, hoA]) ⟨⟨tad, arr, ea, cap, md, h, by simp only [hcN, Bool.false_eq_true, if_false]; exact hX⟩, zfrX_rf⟩ d_X_add_95
            · have bK : kv = 0 := lgc.mp c_22
              subst bK
              have ho : lstD (pKey f ky time x_2 0) n = none := key0 n
              refine lv_iconst (v := (-1)) hx hb d_X_add_73 (by decide) ?_
              refine lv_goto (tgt := 85) hx hb d_X_add_74 (by decide) ?_
              refine lv_istore (lv' := [(8, .int (-1)), (7, .ref (qad x_2)), (0, .ref (xa 0)), (1, .int (nI x_2)), (2, .int r), (3, .int (nI x_18)), (4, .long 0), (6, .int delay)]) hx hb d_X_add_85 hl (by decide) rfl (fun ls hl => ?_)
              refine lv_iload hx hb d_X_add_87 (zl hl rfl) ?_
              refine lv_iconst (v := (-1)) hx hb d_X_add_89 (by decide) ?_
              refine lv_icmp_eq (tgt := 96) hx hb d_X_add_90 (by decide) (fun c_27 => ?_) (fun c_27 => ?_)
              · refine lv_aload_n hx hb d_X_add_96 rfl (zl hl rfl) ?_
                refine z_calli (va_runV (As := []) (rest := []) ⟨hx, hb, hml, hown, hts⟩ (c_X_liveTasks l hP hX) (cwV 0 hts (tt_V tw_202 tw_199 tw_201 tw_2 tw_30) rfl rfl rfl (by decide +kernel) ⟨Nat.le_of_ble_eq_true rfl, Nat.le_of_ble_eq_true rfl⟩) (zPc_V hKN hP (ci := 3) (q := (R_X, F_X, 5)) rfl (PX_x hX)) rfl rfl hl.1 rfl (lv_room (Nat.le_of_ble_eq_true rfl)) d_X_add_97 ⟨Nat.zero_le _, Nat.zero_le _⟩) hS (fun locs hS => ?_)
                refine lv_bipush (v := 64) hx hb d_X_add_100 (by decide) ?_
                refine lv_icmp_ge (tgt := 118) hx hb d_X_add_102 (by decide) (fun c_28 => ?_) (fun c_28 => ?_)
                · have bL : nI (cnt (pLive f) n) = 64 := Decidable.of_not_not (fun z => absurd ((lv64 hlv).mpr z) (Int32.not_lt.mpr c_28))
                  have hcA : cAdd (nI x_2) r (nI x_18) delay = true := by simp only [cAdd, grp_eq, *, reduceIte, Bool.true_and, Bool.false_and, Bool.and_false, Bool.and_true, Bool.false_eq_true, Bool.or_true, Bool.true_or, Bool.or_false, Bool.false_or, decide_true, decide_false]
                  have hoA : oAdd f ky time n (nI x_2) 0 = none := by unfold oAdd; rw [tx_nI (by omega)]; exact ho
                  have hfu : fullA f n = true := by unfold fullA; simp [*]
                  exact absurd hc (by unfold xAdd; rw [if_pos hcA, hoA]; simp only [hfu, if_true]; decide)
                · have bL := (lv64 hlv).mp (Int32.not_le.mp c_28)
                  refine lv_aload_n hx hb d_X_add_105 rfl (zl hl rfl) ?_
                  refine z_get (C := R_X) (T := F_X) (N := 5) (v := .ref (xa 3)) hx hb hts inT_X hown hK hP (PX_x hX) rfl 2 (by decide) tw_135 (fun _ h => h) rfl d_X_add_106 ?_
                  refine z_calli (va_runV (As := []) (rest := []) ⟨hx, hb, hml, hown, hts⟩ (c_A_size l hP (PX_l hX)) (cwV 0 hts (tt_V tw_160 tw_157 tw_158 tw_159 tw_33) rfl rfl rfl (by decide +kernel) ⟨Nat.le_of_ble_eq_true rfl, Nat.le_of_ble_eq_true rfl⟩) (zPc_V hKN hP (ci := 5) (q := (R_A, F_A, 3)) rfl (PX_l hX)) rfl rfl hl.1 rfl (lv_room (Nat.le_of_ble_eq_true rfl)) d_X_add_109 ⟨Nat.zero_le _, Nat.zero_le _⟩) hS (fun locs hS => ?_)
                  refine lv_sipush (v := 400) hx hb d_X_add_112 (by decide) ?_
                  refine lv_icmp_lt (tgt := 128) hx hb d_X_add_115 (by decide) (fun c_29 => ?_) (fun c_29 => ?_)
                  · have bS := (n400 (by omega)).mp c_29
                    have hn4 : n < 400 := (nI_ltI (a := n) (b := 400) (by omega) (by decide)).mp c_29
                    refine lv_aload_n hx hb d_X_add_128 rfl (zl hl rfl) ?_
                    refine z_get (C := R_X) (T := F_X) (N := 5) (v := .ref (xa 3)) hx hb hts inT_X hown hK hP (PX_x hX) rfl 2 (by decide) tw_135 (fun _ h => h) rfl d_X_add_129 ?_
                    refine z_calli (va_runV (As := []) (rest := []) ⟨hx, hb, hml, hown, hts⟩ (c_A_size l hP (PX_l hX)) (cwV 0 hts (tt_V tw_160 tw_157 tw_158 tw_159 tw_33) rfl rfl rfl (by decide +kernel) ⟨Nat.le_of_ble_eq_true rfl, Nat.le_of_ble_eq_true rfl⟩) (zPc_V hKN hP (ci := 5) (q := (R_A, F_A, 3)) rfl (PX_l hX)) rfl rfl hl.1 rfl (lv_room (Nat.le_of_ble_eq_true rfl)) d_X_add_132 ⟨Nat.zero_le _, Nat.zero_le _⟩) hS (fun locs hS => ?_)
                    refine lv_istore (lv' := [(9, .int (nI n)), (8, .int (-1)), (7, .ref (qad x_2)), (0, .ref (xa 0)), (1, .int (nI x_2)), (2, .int r), (3, .int (nI x_18)), (4, .long 0), (6, .int delay)]) hx hb d_X_add_135 hl (by decide) rfl (fun ls hl => ?_)
                    refine lv_aload_n hx hb d_X_add_137 rfl (zl hl rfl) ?_
                    refine z_get (C := R_X) (T := F_X) (N := 5) (v := .ref (xa 3)) hx hb hts inT_X hown hK hP (PX_x hX) rfl 2 (by decide) tw_135 (fun _ h => h) rfl d_X_add_138 ?_
                    have hDn := hD
                    refine z_new (ci := 2) (C := R_T) (T := F_T) (N := 12) (fs := [.int 0, .null, .int 0, .null, .long 0, .int 0, .int 0, .int 0, .int 0, .int 0, .int 0, .int 0]) hx hb hts inT_T ft_T ft_T_ok hown tw_175 tw_392 tw_44 hK hP hD hS hA0 rfl (by decide +kernel) (Nat.le_of_ble_eq_true rfl) (Nat.le_of_ble_eq_true rfl) d_X_add_141 (fun t9 ws1 H hP hD hS uN hneN => ?_)
                    have hX0 := hX
                    have hX : PX kk xa qad gad tad e0 time tok n f ky h qar gar arr ea cap md ws1 := PX_new hX uN
                    refine lv_dup hx hb d_X_add_144 rfl ?_
                    refine lv_iload hx hb d_X_add_145 (zl hl rfl) ?_
                    refine lv_aload hx hb d_X_add_147 (zl hl rfl) ?_
                    refine lv_iload_n hx hb d_X_add_149 rfl (zl hl rfl) ?_
                    refine lv_aload_n hx hb d_X_add_150 rfl (zl hl rfl) ?_
                    refine lv_iload_n hx hb d_X_add_151 rfl (zl hl rfl) ?_
                    refine z_callq (va_runV (As := [.int (nI x_18)]) (rest := [.int r, .ref (qad x_2), .int (nI n), .ref t9, .ref t9, .ref (xa 3)]) ⟨hx, hb, hml, hown, hts⟩ (c_X_groupAt l hP hX (nI x_18)) (cwV 1 hts (tt_V tw_219 tw_216 tw_218 tw_4 tw_30) rfl rfl rfl (by decide +kernel) ⟨Nat.le_of_ble_eq_true rfl, Nat.le_of_ble_eq_true rfl⟩) (zPc_V hKN hP (ci := 3) (q := (R_X, F_X, 5)) rfl (PX_x hX)) rfl rfl hl.1 rfl (lv_room (Nat.le_of_ble_eq_true rfl)) d_X_add_152 ⟨Nat.le_of_ble_eq_true rfl, Nat.le_of_ble_eq_true rfl⟩) hS (fun locs hS => ?_)
                    refine lv_lload hx hb d_X_add_155 (zl hl rfl) ?_
                    refine lv_aload_n hx hb d_X_add_157 rfl (zl hl rfl) ?_
                    refine z_get (C := R_X) (T := F_X) (N := 5) (v := .int time) hx hb hts inT_X hown hK hP (PX_x hX) rfl 3 (by decide) tw_136 (fun _ h => h) rfl d_X_add_158 ?_
                    refine lv_iload hx hb d_X_add_161 (zl hl rfl) ?_
                    refine lv_iadd hx hb d_X_add_163 ?_
                    refine z_call (va_runI (As := [.int (nI n), .ref (qad x_2), .int r, va_rf (gRef gad (nI x_18)), .long 0, .int (time + delay)]) (rest := [.ref t9, .ref (xa 3)]) ⟨hx, hb, hml, hown, hts⟩ (c_T_init l hP hD uN.1 (nI n) (qad x_2) r (gRef gad (nI x_18)) 0 (time + delay)) (cwI 6 hts (tt_in tw_395) rfl rfl rfl (hts _ tw_44) (hts _ tw_393) (hts _ tw_394) rfl (by decide +kernel) ⟨Nat.le_of_ble_eq_true rfl, Nat.le_of_ble_eq_true rfl⟩) (zPc_S hKN) rfl rfl hl.1 rfl (lv_room (Nat.le_of_ble_eq_true rfl)) d_X_add_164 ⟨Nat.le_of_ble_eq_true rfl, Nat.le_of_ble_eq_true rfl⟩) hS (fun ws2 H locs hT2 hP hD hz9 hS => ?_)
                    have kp : ∀ (b : Nat) (fe : va_E), zin ws b fe → zin ws2 b fe := fun b fe hz => hT2.2 _ _ (hneN b fe hz) (uN.2 _ _ hz)
                    have hnT : ¬ t9 = ea := by
                      rcases hX0.2.2.2.2.1 with ⟨-, z⟩ | ⟨z1, -⟩
                      · intro z9
                        rw [z9, z] at hT2
                        exact hE0 (zin_A hD hT2.1)
                      · exact fun z9 => hneN _ _ z1 z9.symm
                    refine z_call (va_runV (As := [.ref t9]) (rest := []) ⟨hx, hb, hml, hown, hts⟩ (c_A_add (arr := arr) (cap := cap) (x := t9) l hP hD (Nat.le_trans hB hS.1) (kp _ _ (PX_l hX0)) (by rcases hX0.2.2.2.2.1 with z | z; exact Or.inl z; exact Or.inr ⟨kp _ _ z.1, z.2⟩) hT2.1 (by omega) (fun i hi y hy => by rw [PX_tr hX0 hi] at hy; cases hy; exact ⟨_, kp _ _ (PX_t hX0 hi)⟩)) (cwV 1 hts (tt_V tw_446 tw_443 tw_444 tw_445 tw_33) rfl rfl rfl (by decide +kernel) ⟨Nat.le_of_ble_eq_true rfl, Nat.le_of_ble_eq_true rfl⟩) (zPa_V hKN (hZA.on hS) hP (ci := 5) (q := (R_A, F_A, 3)) rfl (kp _ _ (PX_l hX0))) rfl rfl hl.1 rfl (lv_room (Nat.le_of_ble_eq_true rfl)) d_X_add_167 ⟨Nat.le_of_ble_eq_true rfl, Nat.le_of_ble_eq_true rfl⟩) hS (fun ws3 H locs hR hP hD hz9 hS => ?_)
                    obtain ⟨ea', cap', arr', r1, r2, r3, r4, r5, r6⟩ := hR
                    refine lv_pop hx hb d_X_add_170 rfl ?_
                    refine lv_iload hx hb d_X_add_171 (zl hl rfl) ?_
                    have hcA : cAdd (nI x_2) r (nI x_18) delay = true := by simp only [cAdd, grp_eq, *, reduceIte, Bool.true_and, Bool.false_and, Bool.and_false, Bool.and_true, Bool.false_eq_true, Bool.or_true, Bool.true_or, Bool.or_false, Bool.false_or, decide_true, decide_false]
                    have hoA : oAdd f ky time n (nI x_2) 0 = none := by unfold oAdd; rw [tx_nI (by omega)]; exact ho
                    have hfu : fullA f n = false := by unfold fullA; simp [bL, bS]
                    have hcN : cNew f ky time n (nI x_2) r (nI x_18) 0 delay = true := by unfold cNew; rw [hcA, hoA, hfu]; rfl
                    have hXN := PX_add (r := r) (gv := (nI x_18)) (delay := delay) (kv := 0) (qi := x_2) hDn hX0 hE0 (by omega) (by omega) (Or.inr ⟨x_18, by omega, rfl⟩) r1 r2 r3 r4 r5 (r6 _ _ (fun z => hneN _ _ (PX_l hX0) z.symm) (fun z => hnT z) hT2.1) (fun b fe h1 h2 hz => r6 _ _ h1 h2 (kp _ _ hz))
                    exact z_iretR hx hb hr hlocks hP hD hS (by unfold rAdd; rw [if_pos hcA, hoA]; simp only [hfu, Bool.false_eq_true, if_false]) ⟨⟨_, _, _, _, _, _, by simp only [hcN, if_true]; exact hXN⟩, fun b fe hk hz => r6 _ _ (zin_ne hDn hz (PX_l hX0) (fun z => by rw [z] at hk; cases hk)) (PX_neK hDn hX0 hE0 hk hz) (kp _ _ hz)⟩ d_X_add_173
                  · have bS : nI n = 400 := Decidable.of_not_not (fun z => c_29 ((n400 (by omega)).mpr z))
                    have hcA : cAdd (nI x_2) r (nI x_18) delay = true := by simp only [cAdd, grp_eq, *, reduceIte, Bool.true_and, Bool.false_and, Bool.and_false, Bool.and_true, Bool.false_eq_true, Bool.or_true, Bool.true_or, Bool.or_false, Bool.false_or, decide_true, decide_false]
                    have hoA : oAdd f ky time n (nI x_2) 0 = none := by unfold oAdd; rw [tx_nI (by omega)]; exact ho
                    have hfu : fullA f n = true := by unfold fullA; simp [*]
                    exact absurd hc (by unfold xAdd; rw [if_pos hcA, hoA]; simp only [hfu, if_true]; decide)
              · exact absurd rfl c_27
          · have bq_17 : sWithin g 0 7 = false := by simpa using bq_17
            have hr_21 : gRef gad g = none := by rw [gRef, if_neg (by rw [bq_17]; decide)]
            refine z_callq (va_runV (As := [.int g]) (rest := []) ⟨hx, hb, hml, hown, hts⟩ (c_X_groupAt l hP hX g) (cwV 1 hts (tt_V tw_219 tw_216 tw_218 tw_4 tw_30) rfl rfl rfl (by decide +kernel) ⟨Nat.le_of_ble_eq_true rfl, Nat.le_of_ble_eq_true rfl⟩) (zPc_V hKN hP (ci := 3) (q := (R_X, F_X, 5)) rfl (PX_x hX)) rfl rfl hl.1 rfl (lv_room (Nat.le_of_ble_eq_true rfl)) d_X_add_50 ⟨Nat.zero_le _, Nat.zero_le _⟩) hS (fun locs hS => ?_)
            rw [hr_21]
            refine lv_ifnonnullN hx hb d_X_add_53 ?_
            exact absurd hc (by unfold xAdd; rw [if_neg (by simp only [cAdd, grp_eq, *, reduceIte, Bool.true_and, Bool.false_and, Bool.and_false, Bool.and_true, Bool.false_eq_true, Bool.or_true, Bool.true_or, Bool.or_false, Bool.false_or, decide_true, decide_false]; decide)]; decide)
      · have b3 := zb_f c_7
        exact absurd hc (by unfold xAdd; rw [if_neg (by simp only [cAdd, grp_eq, *, reduceIte, Bool.true_and, Bool.false_and, Bool.and_false, Bool.and_true, Bool.false_eq_true, Bool.or_true, Bool.true_or, Bool.or_false, Bool.false_or, decide_true, decide_false]; decide)]; decide)
  · have bq_1 : sWithin q 0 3 = false := by simpa using bq_1
    have hr_5 : qRef qad q = none := by rw [qRef, if_neg (by rw [bq_1]; decide)]
    refine z_callq (va_runV (As := [.int q]) (rest := []) ⟨hx, hb, hml, hown, hts⟩ (c_X_queueAt l hP hX q) (cwV 1 hts (tt_V tw_226 tw_223 tw_225 tw_5 tw_30) rfl rfl rfl (by decide +kernel) ⟨Nat.le_of_ble_eq_true rfl, Nat.le_of_ble_eq_true rfl⟩) (zPc_V hKN hP (ci := 3) (q := (R_X, F_X, 5)) rfl (PX_x hX)) rfl rfl hl.1 rfl (lv_room (Nat.le_of_ble_eq_true rfl)) d_X_add_2 ⟨Nat.zero_le _, Nat.zero_le _⟩) hS (fun locs hS => ?_)
    rw [hr_5]
    refine lv_astoreN (lv' := [(7, .null), (0, .ref (xa 0)), (1, .int q), (2, .int r), (3, .int g), (4, .long kv), (6, .int delay)]) hx hb d_X_add_5 hl (by decide) rfl (fun ls hl => ?_)
    refine lv_aloadN hx hb d_X_add_7 (zl hl rfl) ?_
    refine lv_ifnullN (tgt := 33) hx hb d_X_add_9 (by decide) ?_
    exact absurd hc (by unfold xAdd; rw [if_neg (by simp only [cAdd, grp_eq, *, reduceIte, Bool.true_and, Bool.false_and, Bool.and_false, Bool.and_true, Bool.false_eq_true, Bool.or_true, Bool.true_or, Bool.or_false, Bool.false_or, decide_true, decide_false]; decide)]; decide)
set_option maxHeartbeats 4000000 in
set_option maxRecDepth 100000 in
theorem c_X_add_T1 (l : Launch) (hl0 : l.stackTraces = false) {D : va_G} {ws : va_W} {H : Heap} (hP : va_P D vwCl ws H) {kk : Nat → ClassId} {xa qad gad tad : Nat → Nat} {e0 : Nat} {time tok : Int32} {n : Nat} {f : FF} {ky : Nat → Int64} {h : FF} {qar gar arr : Nat → Option Nat} {ea cap : Nat} {md : Int32} (hX : PX kk xa qad gad tad e0 time tok n f ky h qar gar arr ea cap md ws) {B : Nat} (q r g : Int32) (kv : Int64) (delay : Int32) (hc : xAdd f ky time n q r g kv delay = 1) : zMT l y_X_add (Cond.code y_X_add b_X_add 10 (some .int) :: TT) ({ frames := 8, cells := 1, slots := 6, locals := 320 }) (zPx [.ref (xa 0), .int q, .int r, .int g, .long kv, .int delay] H D vwCl (TY kk) B) "java/lang/IllegalArgumentException" 1 6 := by
  refine z_bodyT (by decide) (Nat.le_of_ble_eq_true rfl) ?_
  intro p e s m below meth c ls C0 htab hH hKN hT hSt hl
  obtain ⟨hx, hb, hr, hts, hown, hlocks, hml⟩ := C0
  subst hH
  have hK := hKN.1
  have hN := hKN.2
  have hn := PX_n hX
  have hl : lv_has ls 10 [(0, .ref (xa 0)), (1, .int q), (2, .int r), (3, .int g), (4, .long kv), (6, .int delay)] := hl
  refine lv_aload_n hx hb d_X_add_0 rfl (zl hl rfl) ?_
  refine lv_iload_n hx hb d_X_add_1 rfl (zl hl rfl) ?_
  by_cases bq_1 : sWithin q 0 3 = true
  · obtain ⟨x_2, hx_3, rfl⟩ := sWithin_nI (h := 3) (by decide) bq_1
    have ht_4 : tx (nI x_2) = x_2 := tx_nI (by omega)
    have hr_5 : qRef qad (nI x_2) = some (qad x_2) := by rw [qRef, if_pos bq_1, ht_4]
    refine z_callqK (va_runV (As := [.int (nI x_2)]) (rest := []) ⟨hx, hb, hml, hown, hts⟩ (c_X_queueAt l hP hX (nI x_2)) (cwV 1 hts (tt_V tw_226 tw_223 tw_225 tw_5 tw_30) rfl rfl rfl (by decide +kernel) ⟨Nat.le_of_ble_eq_true rfl, Nat.le_of_ble_eq_true rfl⟩) (zPc_V hKN hP (ci := 3) (q := (R_X, F_X, 5)) rfl (PX_x hX)) rfl rfl hl.1 rfl (lv_room (Nat.le_of_ble_eq_true rfl)) d_X_add_2 ⟨Nat.zero_le _, Nat.zero_le _⟩) ?_
    rw [hr_5]
    refine lv_astore (lv' := [(7, .ref (qad x_2)), (0, .ref (xa 0)), (1, .int (nI x_2)), (2, .int r), (3, .int g), (4, .long kv), (6, .int delay)]) hx hb d_X_add_5 hl (by decide) rfl (fun ls hl => ?_)
    refine lv_aload hx hb d_X_add_7 (zl hl rfl) ?_
    refine lv_ifnull hx hb d_X_add_9 ?_
    refine lv_iload_n hx hb d_X_add_12 rfl (zl hl rfl) ?_
    refine lv_iconst (v := 0) hx hb d_X_add_13 (by decide) ?_
    refine lv_iconst (v := 3) hx hb d_X_add_14 (by decide) ?_
    refine z_calliK (va_runS (As := [.int r, .int 0, .int 3]) (rest := []) ⟨hx, hb, hml, hown, hts⟩ (c_X_within l hP r 0 3) (va_cwS 3 hts (tt_S tw_186 tw_184 tw_185 tw_30) rfl rfl rfl (by decide +kernel) ⟨Nat.le_of_ble_eq_true rfl, Nat.le_of_ble_eq_true rfl⟩) (zPc_S hKN) rfl rfl hl.1 rfl (lv_room (Nat.le_of_ble_eq_true rfl)) d_X_add_15 ⟨Nat.zero_le _, Nat.zero_le _⟩) ?_
    refine lv_if_eq (tgt := 33) hx hb d_X_add_18 (by decide) (fun c_6 => ?_) (fun c_6 => ?_)
    · have b2 := zb_f c_6
      exact zx_throw (own := "LoanRounds") (E := "java/lang/IllegalArgumentException") (text := "no such queue, rank or delay") hx hb hl0 Bundle.six_0 Bundle.six_1 Bundle.six_2 Bundle.six_5 hts hown (by decide) tw_298 tw_40 ow_IAE hT (hSt (47, "no such queue, rank or delay") (by simp [strL])) (hl.1.trans hml.symm) d_X_add_33 d_X_add_36 d_X_add_37 d_X_add_39 d_X_add_42 htab (Nat.le_of_ble_eq_true rfl) (Nat.le_of_ble_eq_true rfl) (Nat.le_of_ble_eq_true rfl) (Nat.le_of_ble_eq_true rfl) hlocks (by decide) (by decide)
    · have b2 := zb_t c_6
      refine lv_iload hx hb d_X_add_21 (zl hl rfl) ?_
      refine lv_iconst (v := 0) hx hb d_X_add_23 (by decide) ?_
      refine lv_sipush (v := 1000) hx hb d_X_add_24 (by decide) ?_
      refine z_calliK (va_runS (As := [.int delay, .int 0, .int 1000]) (rest := []) ⟨hx, hb, hml, hown, hts⟩ (c_X_within l hP delay 0 1000) (va_cwS 3 hts (tt_S tw_186 tw_184 tw_185 tw_30) rfl rfl rfl (by decide +kernel) ⟨Nat.le_of_ble_eq_true rfl, Nat.le_of_ble_eq_true rfl⟩) (zPc_S hKN) rfl rfl hl.1 rfl (lv_room (Nat.le_of_ble_eq_true rfl)) d_X_add_27 ⟨Nat.zero_le _, Nat.zero_le _⟩) ?_
      refine lv_if_ne (tgt := 43) hx hb d_X_add_30 (by decide) (fun c_7 => ?_) (fun c_7 => ?_)
      · have b3 := zb_t c_7
        refine lv_iload_n hx hb d_X_add_43 rfl (zl hl rfl) ?_
        refine lv_iconst (v := (-1)) hx hb d_X_add_44 (by decide) ?_
        refine lv_icmp_eq (tgt := 66) hx hb d_X_add_45 (by decide) (fun c_8 => ?_) (fun c_8 => ?_)
        · have eG : g = -1 := c_8
          subst eG
          have hcA : cAdd (nI x_2) r (-1) delay = true := by simp only [cAdd, grp_eq, *, reduceIte, Bool.true_and, Bool.false_and, Bool.and_false, Bool.and_true, Bool.false_eq_true, Bool.or_true, Bool.true_or, Bool.or_false, Bool.false_or, decide_true, decide_false]
          exact absurd hc (by unfold xAdd; rw [if_pos hcA]; split; (split <;> decide); decide)
        · have b4 : ¬ g = -1 := c_8
          refine lv_aload_n hx hb d_X_add_48 rfl (zl hl rfl) ?_
          refine lv_iload_n hx hb d_X_add_49 rfl (zl hl rfl) ?_
          by_cases bq_9 : sWithin g 0 7 = true
          · obtain ⟨x_10, hx_11, rfl⟩ := sWithin_nI (h := 7) (by decide) bq_9
            have ht_12 : tx (nI x_10) = x_10 := tx_nI (by omega)
            have hr_13 : gRef gad (nI x_10) = some (gad x_10) := by rw [gRef, if_pos bq_9, ht_12]
            refine z_callqK (va_runV (As := [.int (nI x_10)]) (rest := []) ⟨hx, hb, hml, hown, hts⟩ (c_X_groupAt l hP hX (nI x_10)) (cwV 1 hts (tt_V tw_219 tw_216 tw_218 tw_4 tw_30) rfl rfl rfl (by decide +kernel) ⟨Nat.le_of_ble_eq_true rfl, Nat.le_of_ble_eq_true rfl⟩) (zPc_V hKN hP (ci := 3) (q := (R_X, F_X, 5)) rfl (PX_x hX)) rfl rfl hl.1 rfl (lv_room (Nat.le_of_ble_eq_true rfl)) d_X_add_50 ⟨Nat.zero_le _, Nat.zero_le _⟩) ?_
            rw [hr_13]
            refine lv_ifnonnull (tgt := 66) hx hb d_X_add_53 (by decide) ?_
            have hcA : cAdd (nI x_2) r (nI x_10) delay = true := by simp only [cAdd, grp_eq, *, reduceIte, Bool.true_and, Bool.false_and, Bool.and_false, Bool.and_true, Bool.false_eq_true, Bool.or_true, Bool.true_or, Bool.or_false, Bool.false_or, decide_true, decide_false]
            exact absurd hc (by unfold xAdd; rw [if_pos hcA]; split; (split <;> decide); decide)
          · have bq_9 : sWithin g 0 7 = false := by simpa using bq_9
            have hr_13 : gRef gad g = none := by rw [gRef, if_neg (by rw [bq_9]; decide)]
            refine z_callqK (va_runV (As := [.int g]) (rest := []) ⟨hx, hb, hml, hown, hts⟩ (c_X_groupAt l hP hX g) (cwV 1 hts (tt_V tw_219 tw_216 tw_218 tw_4 tw_30) rfl rfl rfl (by decide +kernel) ⟨Nat.le_of_ble_eq_true rfl, Nat.le_of_ble_eq_true rfl⟩) (zPc_V hKN hP (ci := 3) (q := (R_X, F_X, 5)) rfl (PX_x hX)) rfl rfl hl.1 rfl (lv_room (Nat.le_of_ble_eq_true rfl)) d_X_add_50 ⟨Nat.zero_le _, Nat.zero_le _⟩) ?_
            rw [hr_13]
            refine lv_ifnonnullN hx hb d_X_add_53 ?_
            exact zx_throw (own := "LoanRounds") (E := "java/lang/IllegalArgumentException") (text := "no such group") hx hb hl0 Bundle.six_0 Bundle.six_1 Bundle.six_2 Bundle.six_5 hts hown (by decide) tw_298 tw_40 ow_IAE hT (hSt (56, "no such group") (by simp [strL])) (hl.1.trans hml.symm) d_X_add_56 d_X_add_59 d_X_add_60 d_X_add_62 d_X_add_65 htab (Nat.le_of_ble_eq_true rfl) (Nat.le_of_ble_eq_true rfl) (Nat.le_of_ble_eq_true rfl) (Nat.le_of_ble_eq_true rfl) hlocks (by decide) (by decide)
      · have b3 := zb_f c_7
        exact zx_throw (own := "LoanRounds") (E := "java/lang/IllegalArgumentException") (text := "no such queue, rank or delay") hx hb hl0 Bundle.six_0 Bundle.six_1 Bundle.six_2 Bundle.six_5 hts hown (by decide) tw_298 tw_40 ow_IAE hT (hSt (47, "no such queue, rank or delay") (by simp [strL])) (hl.1.trans hml.symm) d_X_add_33 d_X_add_36 d_X_add_37 d_X_add_39 d_X_add_42 htab (Nat.le_of_ble_eq_true rfl) (Nat.le_of_ble_eq_true rfl) (Nat.le_of_ble_eq_true rfl) (Nat.le_of_ble_eq_true rfl) hlocks (by decide) (by decide)
  · have bq_1 : sWithin q 0 3 = false := by simpa using bq_1
    have hr_5 : qRef qad q = none := by rw [qRef, if_neg (by rw [bq_1]; decide)]
    refine z_callqK (va_runV (As := [.int q]) (rest := []) ⟨hx, hb, hml, hown, hts⟩ (c_X_queueAt l hP hX q) (cwV 1 hts (tt_V tw_226 tw_223 tw_225 tw_5 tw_30) rfl rfl rfl (by decide +kernel) ⟨Nat.le_of_ble_eq_true rfl, Nat.le_of_ble_eq_true rfl⟩) (zPc_V hKN hP (ci := 3) (q := (R_X, F_X, 5)) rfl (PX_x hX)) rfl rfl hl.1 rfl (lv_room (Nat.le_of_ble_eq_true rfl)) d_X_add_2 ⟨Nat.zero_le _, Nat.zero_le _⟩) ?_
    rw [hr_5]
    refine lv_astoreN (lv' := [(7, .null), (0, .ref (xa 0)), (1, .int q), (2, .int r), (3, .int g), (4, .long kv), (6, .int delay)]) hx hb d_X_add_5 hl (by decide) rfl (fun ls hl => ?_)
    refine lv_aloadN hx hb d_X_add_7 (zl hl rfl) ?_
    refine lv_ifnullN (tgt := 33) hx hb d_X_add_9 (by decide) ?_
    exact zx_throw (own := "LoanRounds") (E := "java/lang/IllegalArgumentException") (text := "no such queue, rank or delay") hx hb hl0 Bundle.six_0 Bundle.six_1 Bundle.six_2 Bundle.six_5 hts hown (by decide) tw_298 tw_40 ow_IAE hT (hSt (47, "no such queue, rank or delay") (by simp [strL])) (hl.1.trans hml.symm) d_X_add_33 d_X_add_36 d_X_add_37 d_X_add_39 d_X_add_42 htab (Nat.le_of_ble_eq_true rfl) (Nat.le_of_ble_eq_true rfl) (Nat.le_of_ble_eq_true rfl) (Nat.le_of_ble_eq_true rfl) hlocks (by decide) (by decide)
set_option maxHeartbeats 4000000 in
set_option maxRecDepth 100000 in
theorem c_X_add_T2 (l : Launch) (hl0 : l.stackTraces = false) {D : va_G} {ws : va_W} {H : Heap} (hP : va_P D vwCl ws H) {kk : Nat → ClassId} {xa qad gad tad : Nat → Nat} {e0 : Nat} {time tok : Int32} {n : Nat} {f : FF} {ky : Nat → Int64} {h : FF} {qar gar arr : Nat → Option Nat} {ea cap : Nat} {md : Int32} (hX : PX kk xa qad gad tad e0 time tok n f ky h qar gar arr ea cap md ws) {B : Nat} (q r g : Int32) (kv : Int64) (delay : Int32) (hc : xAdd f ky time n q r g kv delay = 2) (hlv : cnt (pLive f) n ≤ 64) : zMT l y_X_add (Cond.code y_X_add b_X_add 10 (some .int) :: TT) ({ frames := 8, cells := 1, slots := 6, locals := 320 }) (zPx [.ref (xa 0), .int q, .int r, .int g, .long kv, .int delay] H D vwCl (TY kk) B) "java/lang/IllegalStateException" 1 6 := by
  refine z_bodyT (by decide) (Nat.le_of_ble_eq_true rfl) ?_
  intro p e s m below meth c ls C0 htab hH hKN hT hSt hl
  obtain ⟨hx, hb, hr, hts, hown, hlocks, hml⟩ := C0
  subst hH
  have hK := hKN.1
  have hN := hKN.2
  have hn := PX_n hX
  have hl : lv_has ls 10 [(0, .ref (xa 0)), (1, .int q), (2, .int r), (3, .int g), (4, .long kv), (6, .int delay)] := hl
  refine lv_aload_n hx hb d_X_add_0 rfl (zl hl rfl) ?_
  refine lv_iload_n hx hb d_X_add_1 rfl (zl hl rfl) ?_
  by_cases bq_1 : sWithin q 0 3 = true
  · obtain ⟨x_2, hx_3, rfl⟩ := sWithin_nI (h := 3) (by decide) bq_1
    have ht_4 : tx (nI x_2) = x_2 := tx_nI (by omega)
    have hr_5 : qRef qad (nI x_2) = some (qad x_2) := by rw [qRef, if_pos bq_1, ht_4]
    refine z_callqK (va_runV (As := [.int (nI x_2)]) (rest := []) ⟨hx, hb, hml, hown, hts⟩ (c_X_queueAt l hP hX (nI x_2)) (cwV 1 hts (tt_V tw_226 tw_223 tw_225 tw_5 tw_30) rfl rfl rfl (by decide +kernel) ⟨Nat.le_of_ble_eq_true rfl, Nat.le_of_ble_eq_true rfl⟩) (zPc_V hKN hP (ci := 3) (q := (R_X, F_X, 5)) rfl (PX_x hX)) rfl rfl hl.1 rfl (lv_room (Nat.le_of_ble_eq_true rfl)) d_X_add_2 ⟨Nat.zero_le _, Nat.zero_le _⟩) ?_
    rw [hr_5]
    refine lv_astore (lv' := [(7, .ref (qad x_2)), (0, .ref (xa 0)), (1, .int (nI x_2)), (2, .int r), (3, .int g), (4, .long kv), (6, .int delay)]) hx hb d_X_add_5 hl (by decide) rfl (fun ls hl => ?_)
    refine lv_aload hx hb d_X_add_7 (zl hl rfl) ?_
    refine lv_ifnull hx hb d_X_add_9 ?_
    refine lv_iload_n hx hb d_X_add_12 rfl (zl hl rfl) ?_
    refine lv_iconst (v := 0) hx hb d_X_add_13 (by decide) ?_
    refine lv_iconst (v := 3) hx hb d_X_add_14 (by decide) ?_
    refine z_calliK (va_runS (As := [.int r, .int 0, .int 3]) (rest := []) ⟨hx, hb, hml, hown, hts⟩ (c_X_within l hP r 0 3) (va_cwS 3 hts (tt_S tw_186 tw_184 tw_185 tw_30) rfl rfl rfl (by decide +kernel) ⟨Nat.le_of_ble_eq_true rfl, Nat.le_of_ble_eq_true rfl⟩) (zPc_S hKN) rfl rfl hl.1 rfl (lv_room (Nat.le_of_ble_eq_true rfl)) d_X_add_15 ⟨Nat.zero_le _, Nat.zero_le _⟩) ?_
    refine lv_if_eq (tgt := 33) hx hb d_X_add_18 (by decide) (fun c_6 => ?_) (fun c_6 => ?_)
    · have b2 := zb_f c_6
      exact absurd hc (by unfold xAdd; rw [if_neg (by simp only [cAdd, grp_eq, *, reduceIte, Bool.true_and, Bool.false_and, Bool.and_false, Bool.and_true, Bool.false_eq_true, Bool.or_true, Bool.true_or, Bool.or_false, Bool.false_or, decide_true, decide_false]; decide)]; decide)
    · have b2 := zb_t c_6
      refine lv_iload hx hb d_X_add_21 (zl hl rfl) ?_
      refine lv_iconst (v := 0) hx hb d_X_add_23 (by decide) ?_
      refine lv_sipush (v := 1000) hx hb d_X_add_24 (by decide) ?_
      refine z_calliK (va_runS (As := [.int delay, .int 0, .int 1000]) (rest := []) ⟨hx, hb, hml, hown, hts⟩ (c_X_within l hP delay 0 1000) (va_cwS 3 hts (tt_S tw_186 tw_184 tw_185 tw_30) rfl rfl rfl (by decide +kernel) ⟨Nat.le_of_ble_eq_true rfl, Nat.le_of_ble_eq_true rfl⟩) (zPc_S hKN) rfl rfl hl.1 rfl (lv_room (Nat.le_of_ble_eq_true rfl)) d_X_add_27 ⟨Nat.zero_le _, Nat.zero_le _⟩) ?_
      refine lv_if_ne (tgt := 43) hx hb d_X_add_30 (by decide) (fun c_7 => ?_) (fun c_7 => ?_)
      · have b3 := zb_t c_7
        refine lv_iload_n hx hb d_X_add_43 rfl (zl hl rfl) ?_
        refine lv_iconst (v := (-1)) hx hb d_X_add_44 (by decide) ?_
        refine lv_icmp_eq (tgt := 66) hx hb d_X_add_45 (by decide) (fun c_8 => ?_) (fun c_8 => ?_)
        · have eG : g = -1 := c_8
          subst eG
          refine lv_lload hx hb d_X_add_66 (zl hl rfl) ?_
          refine lv_lconst (v := 0) hx hb d_X_add_68 (by decide) ?_
          refine W.lcmp hx hb d_X_add_69 ?_
          refine lv_if_ne (tgt := 77) hx hb d_X_add_70 (by decide) (fun c_9 => ?_) (fun c_9 => ?_)
          · have bK : ¬ kv = 0 := fun z => c_9 (lgc.mpr z)
            refine lv_aload_n hx hb d_X_add_77 rfl (zl hl rfl) ?_
            refine lv_aload hx hb d_X_add_78 (zl hl rfl) ?_
            refine lv_lload hx hb d_X_add_80 (zl hl rfl) ?_
            refine z_calliK (va_runV (As := [.ref (qad x_2), .long kv]) (rest := []) ⟨hx, hb, hml, hown, hts⟩ (c_X_numberUnder l hP hX x_2 (by omega) kv bK) (cwV 2 hts (tt_V tw_370 tw_367 tw_369 tw_11 tw_30) rfl rfl rfl (by decide +kernel) ⟨Nat.le_of_ble_eq_true rfl, Nat.le_of_ble_eq_true rfl⟩) (zPc_V hKN hP (ci := 3) (q := (R_X, F_X, 5)) rfl (PX_x hX)) rfl rfl hl.1 rfl (lv_room (Nat.le_of_ble_eq_true rfl)) d_X_add_82 ⟨Nat.zero_le _, Nat.zero_le _⟩) ?_
            rcases ho : lstD (pKey f ky time x_2 kv) n with _ | t
            · have hm1 : True := trivial
              refine lv_istore (lv' := [(8, .int (-1)), (7, .ref (qad x_2)), (0, .ref (xa 0)), (1, .int (nI x_2)), (2, .int r), (3, .int (-1)), (4, .long kv), (6, .int delay)]) hx hb d_X_add_85 hl (by decide) rfl (fun ls hl => ?_)
              refine lv_iload hx hb d_X_add_87 (zl hl rfl) ?_
              refine lv_iconst (v := (-1)) hx hb d_X_add_89 (by decide) ?_
              refine lv_icmp_eq (tgt := 96) hx hb d_X_add_90 (by decide) (fun c_10 => ?_) (fun c_10 => ?_)
              · refine lv_aload_n hx hb d_X_add_96 rfl (zl hl rfl) ?_
                refine z_calliK (va_runV (As := []) (rest := []) ⟨hx, hb, hml, hown, hts⟩ (c_X_liveTasks l hP hX) (cwV 0 hts (tt_V tw_202 tw_199 tw_201 tw_2 tw_30) rfl rfl rfl (by decide +kernel) ⟨Nat.le_of_ble_eq_true rfl, Nat.le_of_ble_eq_true rfl⟩) (zPc_V hKN hP (ci := 3) (q := (R_X, F_X, 5)) rfl (PX_x hX)) rfl rfl hl.1 rfl (lv_room (Nat.le_of_ble_eq_true rfl)) d_X_add_97 ⟨Nat.zero_le _, Nat.zero_le _⟩) ?_
                refine lv_bipush (v := 64) hx hb d_X_add_100 (by decide) ?_
                refine lv_icmp_ge (tgt := 118) hx hb d_X_add_102 (by decide) (fun c_11 => ?_) (fun c_11 => ?_)
                · have bL : nI (cnt (pLive f) n) = 64 := Decidable.of_not_not (fun z => absurd ((lv64 hlv).mpr z) (Int32.not_lt.mpr c_11))
                  exact zx_throw (own := "LoanRounds") (E := "java/lang/IllegalStateException") (text := "no room for one more task") hx hb hl0 Bundle.six_0 Bundle.six_1 Bundle.six_2 Bundle.six_5 hts hown (by decide) tw_376 tw_43 ow_ISE hT (hSt (71, "no room for one more task") (by simp [strL])) (hl.1.trans hml.symm) d_X_add_118 d_X_add_121 d_X_add_122 d_X_add_124 d_X_add_127 htab (Nat.le_of_ble_eq_true rfl) (Nat.le_of_ble_eq_true rfl) (Nat.le_of_ble_eq_true rfl) (Nat.le_of_ble_eq_true rfl) hlocks (by decide) (by decide)
                · have bL := (lv64 hlv).mp (Int32.not_le.mp c_11)
                  refine lv_aload_n hx hb d_X_add_105 rfl (zl hl rfl) ?_
                  refine z_get (C := R_X) (T := F_X) (N := 5) (v := .ref (xa 3)) hx hb hts inT_X hown hK hP (PX_x hX) rfl 2 (by decide) tw_135 (fun _ h => h) rfl d_X_add_106 ?_
                  refine z_calliK (va_runV (As := []) (rest := []) ⟨hx, hb, hml, hown, hts⟩ (c_A_size l hP (PX_l hX)) (cwV 0 hts (tt_V tw_160 tw_157 tw_158 tw_159 tw_33) rfl rfl rfl (by decide +kernel) ⟨Nat.le_of_ble_eq_true rfl, Nat.le_of_ble_eq_true rfl⟩) (zPc_V hKN hP (ci := 5) (q := (R_A, F_A, 3)) rfl (PX_l hX)) rfl rfl hl.1 rfl (lv_room (Nat.le_of_ble_eq_true rfl)) d_X_add_109 ⟨Nat.zero_le _, Nat.zero_le _⟩) ?_
                  refine lv_sipush (v := 400) hx hb d_X_add_112 (by decide) ?_
                  refine lv_icmp_lt (tgt := 128) hx hb d_X_add_115 (by decide) (fun c_12 => ?_) (fun c_12 => ?_)
                  · have bS := (n400 (by omega)).mp c_12
                    have hn4 : n < 400 := (nI_ltI (a := n) (b := 400) (by omega) (by decide)).mp c_12
                    have hcA : cAdd (nI x_2) r (-1) delay = true := by simp only [cAdd, grp_eq, *, reduceIte, Bool.true_and, Bool.false_and, Bool.and_false, Bool.and_true, Bool.false_eq_true, Bool.or_true, Bool.true_or, Bool.or_false, Bool.false_or, decide_true, decide_false]
                    have hoA : oAdd f ky time n (nI x_2) kv = none := by unfold oAdd; rw [tx_nI (by omega)]; exact ho
                    have hfu : fullA f n = false := by unfold fullA; simp [bL, bS]
                    exact absurd hc (by unfold xAdd; rw [if_pos hcA, hoA]; simp only [hfu, Bool.false_eq_true, if_false]; decide)
                  · have bS : nI n = 400 := Decidable.of_not_not (fun z => c_12 ((n400 (by omega)).mpr z))
                    exact zx_throw (own := "LoanRounds") (E := "java/lang/IllegalStateException") (text := "no room for one more task") hx hb hl0 Bundle.six_0 Bundle.six_1 Bundle.six_2 Bundle.six_5 hts hown (by decide) tw_376 tw_43 ow_ISE hT (hSt (71, "no room for one more task") (by simp [strL])) (hl.1.trans hml.symm) d_X_add_118 d_X_add_121 d_X_add_122 d_X_add_124 d_X_add_127 htab (Nat.le_of_ble_eq_true rfl) (Nat.le_of_ble_eq_true rfl) (Nat.le_of_ble_eq_true rfl) (Nat.le_of_ble_eq_true rfl) hlocks (by decide) (by decide)
              · exact absurd rfl c_10
            · have hto := lstD_some ho
              refine lv_istore (lv' := [(8, .int (nI t)), (7, .ref (qad x_2)), (0, .ref (xa 0)), (1, .int (nI x_2)), (2, .int r), (3, .int (-1)), (4, .long kv), (6, .int delay)]) hx hb d_X_add_85 hl (by decide) rfl (fun ls hl => ?_)
              refine lv_iload hx hb d_X_add_87 (zl hl rfl) ?_
              refine lv_iconst (v := (-1)) hx hb d_X_add_89 (by decide) ?_
              refine lv_icmp_eq (tgt := 96) hx hb d_X_add_90 (by decide) (fun c_13 => ?_) (fun c_13 => ?_)
              · exact absurd c_13 (nI_m1 (by omega))
              · have hcA : cAdd (nI x_2) r (-1) delay = true := by simp only [cAdd, grp_eq, *, reduceIte, Bool.true_and, Bool.false_and, Bool.and_false, Bool.and_true, Bool.false_eq_true, Bool.or_true, Bool.true_or, Bool.or_false, Bool.false_or, decide_true, decide_false]
                have hoA : oAdd f ky time n (nI x_2) kv = some t := by unfold oAdd; rw [tx_nI (by omega)]; exact ho
                exact absurd hc (by unfold xAdd; rw [if_pos hcA, hoA]; show ¬ (0 : Int32) = 2; decide)
          · have bK : kv = 0 := lgc.mp c_9
            subst bK
            have ho : lstD (pKey f ky time x_2 0) n = none := key0 n
            refine lv_iconst (v := (-1)) hx hb d_X_add_73 (by decide) ?_
            refine lv_goto (tgt := 85) hx hb d_X_add_74 (by decide) ?_
            refine lv_istore (lv' := [(8, .int (-1)), (7, .ref (qad x_2)), (0, .ref (xa 0)), (1, .int (nI x_2)), (2, .int r), (3, .int (-1)), (4, .long 0), (6, .int delay)]) hx hb d_X_add_85 hl (by decide) rfl (fun ls hl => ?_)
            refine lv_iload hx hb d_X_add_87 (zl hl rfl) ?_
            refine lv_iconst (v := (-1)) hx hb d_X_add_89 (by decide) ?_
            refine lv_icmp_eq (tgt := 96) hx hb d_X_add_90 (by decide) (fun c_14 => ?_) (fun c_14 => ?_)
            · refine lv_aload_n hx hb d_X_add_96 rfl (zl hl rfl) ?_
              refine z_calliK (va_runV (As := []) (rest := []) ⟨hx, hb, hml, hown, hts⟩ (c_X_liveTasks l hP hX) (cwV 0 hts (tt_V tw_202 tw_199 tw_201 tw_2 tw_30) rfl rfl rfl (by decide +kernel) ⟨Nat.le_of_ble_eq_true rfl, Nat.le_of_ble_eq_true rfl⟩) (zPc_V hKN hP (ci := 3) (q := (R_X, F_X, 5)) rfl (PX_x hX)) rfl rfl hl.1 rfl (lv_room (Nat.le_of_ble_eq_true rfl)) d_X_add_97 ⟨Nat.zero_le _, Nat.zero_le _⟩) ?_
              refine lv_bipush (v := 64) hx hb d_X_add_100 (by decide) ?_
              refine lv_icmp_ge (tgt := 118) hx hb d_X_add_102 (by decide) (fun c_15 => ?_) (fun c_15 => ?_)
              · have bL : nI (cnt (pLive f) n) = 64 := Decidable.of_not_not (fun z => absurd ((lv64 hlv).mpr z) (Int32.not_lt.mpr c_15))
                exact zx_throw (own := "LoanRounds") (E := "java/lang/IllegalStateException") (text := "no room for one more task") hx hb hl0 Bundle.six_0 Bundle.six_1 Bundle.six_2 Bundle.six_5 hts hown (by decide) tw_376 tw_43 ow_ISE hT (hSt (71, "no room for one more task") (by simp [strL])) (hl.1.trans hml.symm) d_X_add_118 d_X_add_121 d_X_add_122 d_X_add_124 d_X_add_127 htab (Nat.le_of_ble_eq_true rfl) (Nat.le_of_ble_eq_true rfl) (Nat.le_of_ble_eq_true rfl) (Nat.le_of_ble_eq_true rfl) hlocks (by decide) (by decide)
              · have bL := (lv64 hlv).mp (Int32.not_le.mp c_15)
                refine lv_aload_n hx hb d_X_add_105 rfl (zl hl rfl) ?_
                refine z_get (C := R_X) (T := F_X) (N := 5) (v := .ref (xa 3)) hx hb hts inT_X hown hK hP (PX_x hX) rfl 2 (by decide) tw_135 (fun _ h => h) rfl d_X_add_106 ?_
                refine z_calliK (va_runV (As := []) (rest := []) ⟨hx, hb, hml, hown, hts⟩ (c_A_size l hP (PX_l hX)) (cwV 0 hts (tt_V tw_160 tw_157 tw_158 tw_159 tw_33) rfl rfl rfl (by decide +kernel) ⟨Nat.le_of_ble_eq_true rfl, Nat.le_of_ble_eq_true rfl⟩) (zPc_V hKN hP (ci := 5) (q := (R_A, F_A, 3)) rfl (PX_l hX)) rfl rfl hl.1 rfl (lv_room (Nat.le_of_ble_eq_true rfl)) d_X_add_109 ⟨Nat.zero_le _, Nat.zero_le _⟩) ?_
                refine lv_sipush (v := 400) hx hb d_X_add_112 (by decide) ?_
                refine lv_icmp_lt (tgt := 128) hx hb d_X_add_115 (by decide) (fun c_16 => ?_) (fun c_16 => ?_)
                · have bS := (n400 (by omega)).mp c_16
                  have hn4 : n < 400 := (nI_ltI (a := n) (b := 400) (by omega) (by decide)).mp c_16
                  have hcA : cAdd (nI x_2) r (-1) delay = true := by simp only [cAdd, grp_eq, *, reduceIte, Bool.true_and, Bool.false_and, Bool.and_false, Bool.and_true, Bool.false_eq_true, Bool.or_true, Bool.true_or, Bool.or_false, Bool.false_or, decide_true, decide_false]
                  have hoA : oAdd f ky time n (nI x_2) 0 = none := by unfold oAdd; rw [tx_nI (by omega)]; exact ho
                  have hfu : fullA f n = false := by unfold fullA; simp [bL, bS]
                  exact absurd hc (by unfold xAdd; rw [if_pos hcA, hoA]; simp only [hfu, Bool.false_eq_true, if_false]; decide)
                · have bS : nI n = 400 := Decidable.of_not_not (fun z => c_16 ((n400 (by omega)).mpr z))
                  exact zx_throw (own := "LoanRounds") (E := "java/lang/IllegalStateException") (text := "no room for one more task") hx hb hl0 Bundle.six_0 Bundle.six_1 Bundle.six_2 Bundle.six_5 hts hown (by decide) tw_376 tw_43 ow_ISE hT (hSt (71, "no room for one more task") (by simp [strL])) (hl.1.trans hml.symm) d_X_add_118 d_X_add_121 d_X_add_122 d_X_add_124 d_X_add_127 htab (Nat.le_of_ble_eq_true rfl) (Nat.le_of_ble_eq_true rfl) (Nat.le_of_ble_eq_true rfl) (Nat.le_of_ble_eq_true rfl) hlocks (by decide) (by decide)
            · exact absurd rfl c_14
        · have b4 : ¬ g = -1 := c_8
          refine lv_aload_n hx hb d_X_add_48 rfl (zl hl rfl) ?_
          refine lv_iload_n hx hb d_X_add_49 rfl (zl hl rfl) ?_
          by_cases bq_17 : sWithin g 0 7 = true
          · obtain ⟨x_18, hx_19, rfl⟩ := sWithin_nI (h := 7) (by decide) bq_17
            have ht_20 : tx (nI x_18) = x_18 := tx_nI (by omega)
            have hr_21 : gRef gad (nI x_18) = some (gad x_18) := by rw [gRef, if_pos bq_17, ht_20]
            refine z_callqK (va_runV (As := [.int (nI x_18)]) (rest := []) ⟨hx, hb, hml, hown, hts⟩ (c_X_groupAt l hP hX (nI x_18)) (cwV 1 hts (tt_V tw_219 tw_216 tw_218 tw_4 tw_30) rfl rfl rfl (by decide +kernel) ⟨Nat.le_of_ble_eq_true rfl, Nat.le_of_ble_eq_true rfl⟩) (zPc_V hKN hP (ci := 3) (q := (R_X, F_X, 5)) rfl (PX_x hX)) rfl rfl hl.1 rfl (lv_room (Nat.le_of_ble_eq_true rfl)) d_X_add_50 ⟨Nat.zero_le _, Nat.zero_le _⟩) ?_
            rw [hr_21]
            refine lv_ifnonnull (tgt := 66) hx hb d_X_add_53 (by decide) ?_
            refine lv_lload hx hb d_X_add_66 (zl hl rfl) ?_
            refine lv_lconst (v := 0) hx hb d_X_add_68 (by decide) ?_
            refine W.lcmp hx hb d_X_add_69 ?_
            refine lv_if_ne (tgt := 77) hx hb d_X_add_70 (by decide) (fun c_22 => ?_) (fun c_22 => ?_)
            · have bK : ¬ kv = 0 := fun z => c_22 (lgc.mpr z)
              refine lv_aload_n hx hb d_X_add_77 rfl (zl hl rfl) ?_
              refine lv_aload hx hb d_X_add_78 (zl hl rfl) ?_
              refine lv_lload hx hb d_X_add_80 (zl hl rfl) ?_
              refine z_calliK (va_runV (As := [.ref (qad x_2), .long kv]) (rest := []) ⟨hx, hb, hml, hown, hts⟩ (c_X_numberUnder l hP hX x_2 (by omega) kv bK) (cwV 2 hts (tt_V tw_370 tw_367 tw_369 tw_11 tw_30) rfl rfl rfl (by decide +kernel) ⟨Nat.le_of_ble_eq_true rfl, Nat.le_of_ble_eq_true rfl⟩) (zPc_V hKN hP (ci := 3) (q := (R_X, F_X, 5)) rfl (PX_x hX)) rfl rfl hl.1 rfl (lv_room (Nat.le_of_ble_eq_true rfl)) d_X_add_82 ⟨Nat.zero_le _, Nat.zero_le _⟩) ?_
              rcases ho : lstD (pKey f ky time x_2 kv) n with _ | t
              · have hm1 : True := trivial
                refine lv_istore (lv' := [(8, .int (-1)), (7, .ref (qad x_2)), (0, .ref (xa 0)), (1, .int (nI x_2)), (2, .int r), (3, .int (nI x_18)), (4, .long kv), (6, .int delay)]) hx hb d_X_add_85 hl (by decide) rfl (fun ls hl => ?_)
                refine lv_iload hx hb d_X_add_87 (zl hl rfl) ?_
                refine lv_iconst (v := (-1)) hx hb d_X_add_89 (by decide) ?_
                refine lv_icmp_eq (tgt := 96) hx hb d_X_add_90 (by decide) (fun c_23 => ?_) (fun c_23 => ?_)
                · refine lv_aload_n hx hb d_X_add_96 rfl (zl hl rfl) ?_
                  refine z_calliK (va_runV (As := []) (rest := []) ⟨hx, hb, hml, hown, hts⟩ (c_X_liveTasks l hP hX) (cwV 0 hts (tt_V tw_202 tw_199 tw_201 tw_2 tw_30) rfl rfl rfl (by decide +kernel) ⟨Nat.le_of_ble_eq_true rfl, Nat.le_of_ble_eq_true rfl⟩) (zPc_V hKN hP (ci := 3) (q := (R_X, F_X, 5)) rfl (PX_x hX)) rfl rfl hl.1 rfl (lv_room (Nat.le_of_ble_eq_true rfl)) d_X_add_97 ⟨Nat.zero_le _, Nat.zero_le _⟩) ?_
                  refine lv_bipush (v := 64) hx hb d_X_add_100 (by decide) ?_
                  refine lv_icmp_ge (tgt := 118) hx hb d_X_add_102 (by decide) (fun c_24 => ?_) (fun c_24 => ?_)
                  · have bL : nI (cnt (pLive f) n) = 64 := Decidable.of_not_not (fun z => absurd ((lv64 hlv).mpr z) (Int32.not_lt.mpr c_24))
                    exact zx_throw (own := "LoanRounds") (E := "java/lang/IllegalStateException") (text := "no room for one more task") hx hb hl0 Bundle.six_0 Bundle.six_1 Bundle.six_2 Bundle.six_5 hts hown (by decide) tw_376 tw_43 ow_ISE hT (hSt (71, "no room for one more task") (by simp [strL])) (hl.1.trans hml.symm) d_X_add_118 d_X_add_121 d_X_add_122 d_X_add_124 d_X_add_127 htab (Nat.le_of_ble_eq_true rfl) (Nat.le_of_ble_eq_true rfl) (Nat.le_of_ble_eq_true rfl) (Nat.le_of_ble_eq_true rfl) hlocks (by decide) (by decide)
                  · have bL := (lv64 hlv).mp (Int32.not_le.mp c_24)
                    refine lv_aload_n hx hb d_X_add_105 rfl (zl hl rfl) ?_
                    refine z_get (C := R_X) (T := F_X) (N := 5) (v := .ref (xa 3)) hx hb hts inT_X hown hK hP (PX_x hX) rfl 2 (by decide) tw_135 (fun _ h => h) rfl d_X_add_106 ?_
                    refine z_calliK (va_runV (As := []) (rest := []) ⟨hx, hb, hml, hown, hts⟩ (c_A_size l hP (PX_l hX)) (cwV 0 hts (tt_V tw_160 tw_157 tw_158 tw_159 tw_33) rfl rfl rfl (by decide +kernel) ⟨Nat.le_of_ble_eq_true rfl, Nat.le_of_ble_eq_true rfl⟩) (zPc_V hKN hP (ci := 5) (q := (R_A, F_A, 3)) rfl (PX_l hX)) rfl rfl hl.1 rfl (lv_room (Nat.le_of_ble_eq_true rfl)) d_X_add_109 ⟨Nat.zero_le _, Nat.zero_le _⟩) ?_
                    refine lv_sipush (v := 400) hx hb d_X_add_112 (by decide) ?_
                    refine lv_icmp_lt (tgt := 128) hx hb d_X_add_115 (by decide) (fun c_25 => ?_) (fun c_25 => ?_)
                    · have bS := (n400 (by omega)).mp c_25
                      have hn4 : n < 400 := (nI_ltI (a := n) (b := 400) (by omega) (by decide)).mp c_25
                      have hcA : cAdd (nI x_2) r (nI x_18) delay = true := by simp only [cAdd, grp_eq, *, reduceIte, Bool.true_and, Bool.false_and, Bool.and_false, Bool.and_true, Bool.false_eq_true, Bool.or_true, Bool.true_or, Bool.or_false, Bool.false_or, decide_true, decide_false]
                      have hoA : oAdd f ky time n (nI x_2) kv = none := by unfold oAdd; rw [tx_nI (by omega)]; exact ho
                      have hfu : fullA f n = false := by unfold fullA; simp [bL, bS]
                      exact absurd hc (by unfold xAdd; rw [if_pos hcA, hoA]; simp only [hfu, Bool.false_eq_true, if_false]; decide)
                    · have bS : nI n = 400 := Decidable.of_not_not (fun z => c_25 ((n400 (by omega)).mpr z))
                      exact zx_throw (own := "LoanRounds") (E := "java/lang/IllegalStateException") (text := "no room for one more task") hx hb hl0 Bundle.six_0 Bundle.six_1 Bundle.six_2 Bundle.six_5 hts hown (by decide) tw_376 tw_43 ow_ISE hT (hSt (71, "no room for one more task") (by simp [strL])) (hl.1.trans hml.symm) d_X_add_118 d_X_add_121 d_X_add_122 d_X_add_124 d_X_add_127 htab (Nat.le_of_ble_eq_true rfl) (Nat.le_of_ble_eq_true rfl) (Nat.le_of_ble_eq_true rfl) (Nat.le_of_ble_eq_true rfl) hlocks (by decide) (by decide)
                · exact absurd rfl c_23
              · have hto := lstD_some ho
                refine lv_istore (lv' := [(8, .int (nI t)), (7, .ref (qad x_2)), (0, .ref (xa 0)), (1, .int (nI x_2)), (2, .int r), (3, .int (nI x_18)), (4, .long kv), (6, .int delay)]) hx hb d_X_add_85 hl (by decide) rfl (fun ls hl => ?_)
                refine lv_iload hx hb d_X_add_87 (zl hl rfl) ?_
                refine lv_iconst (v := (-1)) hx hb d_X_add_89 (by decide) ?_
                refine lv_icmp_eq (tgt := 96) hx hb d_X_add_90 (by decide) (fun c_26 => ?_) (fun c_26 => ?_)
                · exact absurd c_26 (nI_m1 (by omega))
                · have hcA : cAdd (nI x_2) r (nI x_18) delay = true := by simp only [cAdd, grp_eq, *, reduceIte, Bool.true_and, Bool.false_and, Bool.and_false, Bool.and_true, Bool.false_eq_true, Bool.or_true, Bool.true_or, Bool.or_false, Bool.false_or, decide_true, decide_false]
                  have hoA : oAdd f ky time n (nI x_2) kv = some t := by unfold oAdd; rw [tx_nI (by omega)]; exact ho
                  exact absurd hc (by unfold xAdd; rw [if_pos hcA, hoA]; show ¬ (0 : Int32) = 2; decide)
            · have bK : kv = 0 := lgc.mp c_22
              subst bK
              have ho : lstD (pKey f ky time x_2 0) n = none := key0 n
              refine lv_iconst (v := (-1)) hx hb d_X_add_73 (by decide) ?_
              refine lv_goto (tgt := 85) hx hb d_X_add_74 (by decide) ?_
              refine lv_istore (lv' := [(8, .int (-1)), (7, .ref (qad x_2)), (0, .ref (xa 0)), (1, .int (nI x_2)), (2, .int r), (3, .int (nI x_18)), (4, .long 0), (6, .int delay)]) hx hb d_X_add_85 hl (by decide) rfl (fun ls hl => ?_)
              refine lv_iload hx hb d_X_add_87 (zl hl rfl) ?_
              refine lv_iconst (v := (-1)) hx hb d_X_add_89 (by decide) ?_
              refine lv_icmp_eq (tgt := 96) hx hb d_X_add_90 (by decide) (fun c_27 => ?_) (fun c_27 => ?_)
              · refine lv_aload_n hx hb d_X_add_96 rfl (zl hl rfl) ?_
                refine z_calliK (va_runV (As := []) (rest := []) ⟨hx, hb, hml, hown, hts⟩ (c_X_liveTasks l hP hX) (cwV 0 hts (tt_V tw_202 tw_199 tw_201 tw_2 tw_30) rfl rfl rfl (by decide +kernel) ⟨Nat.le_of_ble_eq_true rfl, Nat.le_of_ble_eq_true rfl⟩) (zPc_V hKN hP (ci := 3) (q := (R_X, F_X, 5)) rfl (PX_x hX)) rfl rfl hl.1 rfl (lv_room (Nat.le_of_ble_eq_true rfl)) d_X_add_97 ⟨Nat.zero_le _, Nat.zero_le _⟩) ?_
                refine lv_bipush (v := 64) hx hb d_X_add_100 (by decide) ?_
                refine lv_icmp_ge (tgt := 118) hx hb d_X_add_102 (by decide) (fun c_28 => ?_) (fun c_28 => ?_)
                · have bL : nI (cnt (pLive f) n) = 64 := Decidable.of_not_not (fun z => absurd ((lv64 hlv).mpr z) (Int32.not_lt.mpr c_28))
                  exact zx_throw (own := "LoanRounds") (E := "java/lang/IllegalStateException") (text := "no room for one more task") hx hb hl0 Bundle.six_0 Bundle.six_1 Bundle.six_2 Bundle.six_5 hts hown (by decide) tw_376 tw_43 ow_ISE hT (hSt (71, "no room for one more task") (by simp [strL])) (hl.1.trans hml.symm) d_X_add_118 d_X_add_121 d_X_add_122 d_X_add_124 d_X_add_127 htab (Nat.le_of_ble_eq_true rfl) (Nat.le_of_ble_eq_true rfl) (Nat.le_of_ble_eq_true rfl) (Nat.le_of_ble_eq_true rfl) hlocks (by decide) (by decide)
                · have bL := (lv64 hlv).mp (Int32.not_le.mp c_28)
                  refine lv_aload_n hx hb d_X_add_105 rfl (zl hl rfl) ?_
                  refine z_get (C := R_X) (T := F_X) (N := 5) (v := .ref (xa 3)) hx hb hts inT_X hown hK hP (PX_x hX) rfl 2 (by decide) tw_135 (fun _ h => h) rfl d_X_add_106 ?_
                  refine z_calliK (va_runV (As := []) (rest := []) ⟨hx, hb, hml, hown, hts⟩ (c_A_size l hP (PX_l hX)) (cwV 0 hts (tt_V tw_160 tw_157 tw_158 tw_159 tw_33) rfl rfl rfl (by decide +kernel) ⟨Nat.le_of_ble_eq_true rfl, Nat.le_of_ble_eq_true rfl⟩) (zPc_V hKN hP (ci := 5) (q := (R_A, F_A, 3)) rfl (PX_l hX)) rfl rfl hl.1 rfl (lv_room (Nat.le_of_ble_eq_true rfl)) d_X_add_109 ⟨Nat.zero_le _, Nat.zero_le _⟩) ?_
                  refine lv_sipush (v := 400) hx hb d_X_add_112 (by decide) ?_
                  refine lv_icmp_lt (tgt := 128) hx hb d_X_add_115 (by decide) (fun c_29 => ?_) (fun c_29 => ?_)
                  · have bS := (n400 (by omega)).mp c_29
                    have hn4 : n < 400 := (nI_ltI (a := n) (b := 400) (by omega) (by decide)).mp c_29
                    have hcA : cAdd (nI x_2) r (nI x_18) delay = true := by simp only [cAdd, grp_eq, *, reduceIte, Bool.true_and, Bool.false_and, Bool.and_false, Bool.and_true, Bool.false_eq_true, Bool.or_true, Bool.true_or, Bool.or_false, Bool.false_or, decide_true, decide_false]
                    have hoA : oAdd f ky time n (nI x_2) 0 = none := by unfold oAdd; rw [tx_nI (by omega)]; exact ho
                    have hfu : fullA f n = false := by unfold fullA; simp [bL, bS]
                    exact absurd hc (by unfold xAdd; rw [if_pos hcA, hoA]; simp only [hfu, Bool.false_eq_true, if_false]; decide)
                  · have bS : nI n = 400 := Decidable.of_not_not (fun z => c_29 ((n400 (by omega)).mpr z))
                    exact zx_throw (own := "LoanRounds") (E := "java/lang/IllegalStateException") (text := "no room for one more task") hx hb hl0 Bundle.six_0 Bundle.six_1 Bundle.six_2 Bundle.six_5 hts hown (by decide) tw_376 tw_43 ow_ISE hT (hSt (71, "no room for one more task") (by simp [strL])) (hl.1.trans hml.symm) d_X_add_118 d_X_add_121 d_X_add_122 d_X_add_124 d_X_add_127 htab (Nat.le_of_ble_eq_true rfl) (Nat.le_of_ble_eq_true rfl) (Nat.le_of_ble_eq_true rfl) (Nat.le_of_ble_eq_true rfl) hlocks (by decide) (by decide)
              · exact absurd rfl c_27
          · have bq_17 : sWithin g 0 7 = false := by simpa using bq_17
            have hr_21 : gRef gad g = none := by rw [gRef, if_neg (by rw [bq_17]; decide)]
            refine z_callqK (va_runV (As := [.int g]) (rest := []) ⟨hx, hb, hml, hown, hts⟩ (c_X_groupAt l hP hX g) (cwV 1 hts (tt_V tw_219 tw_216 tw_218 tw_4 tw_30) rfl rfl rfl (by decide +kernel) ⟨Nat.le_of_ble_eq_true rfl, Nat.le_of_ble_eq_true rfl⟩) (zPc_V hKN hP (ci := 3) (q := (R_X, F_X, 5)) rfl (PX_x hX)) rfl rfl hl.1 rfl (lv_room (Nat.le_of_ble_eq_true rfl)) d_X_add_50 ⟨Nat.zero_le _, Nat.zero_le _⟩) ?_
            rw [hr_21]
            refine lv_ifnonnullN hx hb d_X_add_53 ?_
            exact absurd hc (by unfold xAdd; rw [if_neg (by simp only [cAdd, grp_eq, *, reduceIte, Bool.true_and, Bool.false_and, Bool.and_false, Bool.and_true, Bool.false_eq_true, Bool.or_true, Bool.true_or, Bool.or_false, Bool.false_or, decide_true, decide_false]; decide)]; decide)
      · have b3 := zb_f c_7
        exact absurd hc (by unfold xAdd; rw [if_neg (by simp only [cAdd, grp_eq, *, reduceIte, Bool.true_and, Bool.false_and, Bool.and_false, Bool.and_true, Bool.false_eq_true, Bool.or_true, Bool.true_or, Bool.or_false, Bool.false_or, decide_true, decide_false]; decide)]; decide)
  · have bq_1 : sWithin q 0 3 = false := by simpa using bq_1
    have hr_5 : qRef qad q = none := by rw [qRef, if_neg (by rw [bq_1]; decide)]
    refine z_callqK (va_runV (As := [.int q]) (rest := []) ⟨hx, hb, hml, hown, hts⟩ (c_X_queueAt l hP hX q) (cwV 1 hts (tt_V tw_226 tw_223 tw_225 tw_5 tw_30) rfl rfl rfl (by decide +kernel) ⟨Nat.le_of_ble_eq_true rfl, Nat.le_of_ble_eq_true rfl⟩) (zPc_V hKN hP (ci := 3) (q := (R_X, F_X, 5)) rfl (PX_x hX)) rfl rfl hl.1 rfl (lv_room (Nat.le_of_ble_eq_true rfl)) d_X_add_2 ⟨Nat.zero_le _, Nat.zero_le _⟩) ?_
    rw [hr_5]
    refine lv_astoreN (lv' := [(7, .null), (0, .ref (xa 0)), (1, .int q), (2, .int r), (3, .int g), (4, .long kv), (6, .int delay)]) hx hb d_X_add_5 hl (by decide) rfl (fun ls hl => ?_)
    refine lv_aloadN hx hb d_X_add_7 (zl hl rfl) ?_
    refine lv_ifnullN (tgt := 33) hx hb d_X_add_9 (by decide) ?_
    exact absurd hc (by unfold xAdd; rw [if_neg (by simp only [cAdd, grp_eq, *, reduceIte, Bool.true_and, Bool.false_and, Bool.and_false, Bool.and_true, Bool.false_eq_true, Bool.or_true, Bool.true_or, Bool.or_false, Bool.false_or, decide_true, decide_false]; decide)]; decide)
