theorem lv4 {c : Nat} (h : c ≤ 4) : nI c < 4 ↔ ¬ nI c = 4 := by
  have e1 : (4 : Int32) = nI 4 := by decide
  rw [e1, nI_ltI (by omega) (by decide), nI_eq (by omega) (by decide)]
  omega
theorem mLent_6 {f : FF} {time : Int32} {qi t : Nat} {w tok : Int32} : mLent f time qi t w tok 6 t = 1 := by
  unfold mLent
  rw [w1_c (by decide), w1_c (by decide), w1_c (by decide), w1_c (by decide), w1_s]
theorem mLent_5 {f : FF} {time : Int32} {qi t : Nat} {w tok : Int32} : mLent f time qi t w tok 5 t = f 5 t + 1 := by
  unfold mLent
  rw [w1_c (by decide), w1_s, w1_c (by decide), w1_c (by decide), w1_c (by decide)]
theorem mLent_7 {f : FF} {time : Int32} {qi t : Nat} {w tok : Int32} : mLent f time qi t w tok 7 t = time + f 10 (6 * qi) := by
  unfold mLent
  rw [w1_s, w1_c (by decide), w1_c (by decide), w1_c (by decide), w1_c (by decide)]
theorem mLent_8 {f : FF} {time : Int32} {qi t : Nat} {w tok : Int32} : mLent f time qi t w tok 8 t = w := by
  unfold mLent
  rw [w1_c (by decide), w1_c (by decide), w1_c (by decide), w1_s]
theorem mLent_9 {f : FF} {time : Int32} {qi t : Nat} {w tok : Int32} : mLent f time qi t w tok 9 t = tok := by
  unfold mLent
  rw [w1_c (by decide), w1_c (by decide), w1_s]
theorem mLent_c {f : FF} {time : Int32} {qi t : Nat} {w tok : Int32} (j : Nat) (h5 : j ≠ 5) (h6 : j ≠ 6) (h7 : j ≠ 7) (h8 : j ≠ 8) (h9 : j ≠ 9) : mLent f time qi t w tok j = f j := by
  unfold mLent
  rw [w1_c h7, w1_c h5, w1_c h9, w1_c h8, w1_c h6]
theorem mLent_o {f : FF} {time : Int32} {qi t : Nat} {w tok : Int32} {i : Nat} (hi : i ≠ t) (j : Nat) : mLent f time qi t w tok j i = f j i := by
  unfold mLent
  rw [w1_o hi, w1_o hi, w1_o hi, w1_o hi, w1_o hi]
def okT (f : FF) : Prop := ∀ i, i < 4 → ∃ lo mo ba tp gr me : Nat, (f 10 (6 * i) = nI lo ∧ 1 ≤ lo ∧ lo ≤ 200) ∧ (f 10 (6 * i + 1) = nI mo ∧ 1 ≤ mo ∧ mo ≤ 20) ∧ (f 10 (6 * i + 2) = nI ba ∧ 1 ≤ ba ∧ ba ≤ 100) ∧ (f 10 (6 * i + 3) = nI tp ∧ 1 ≤ tp ∧ tp ≤ 1000) ∧ (f 10 (6 * i + 4) = nI gr ∧ gr ≤ 100) ∧ (f 10 (6 * i + 5) = nI me ∧ me ≤ 1000)
theorem mAgain_x6 {f : FF} {tm : Int32} {t : Nat} : mAgain f tm t 6 t = if f 5 t < f 10 (6 * qx f t + 1) then 0 else 3 := by rw [mAgain_6, if_pos rfl]
theorem mAgain_x7 {f : FF} {tm : Int32} {t : Nat} (hT : okT f) (hq : qx f t < 4) {tr : Nat} (h5 : f 5 t = nI tr) (h1 : 1 ≤ tr) (h2 : tr < 2 ^ 30) (hlt : f 5 t < f 10 (6 * qx f t + 1)) : mAgain f tm t 7 t = tm + sPause (f 10 (6 * qx f t + 2)) (f 10 (6 * qx f t + 3)) (f 5 t) := by
  obtain ⟨lo, mo, ba, tp, gr, me, -, ⟨e1, m1, m2⟩, ⟨e2, b1, b2⟩, ⟨e3, t1, t2⟩, -, -⟩ := hT _ hq
  have htr : tr < mo := by
    rw [h5, e1] at hlt
    exact (nI_ltI (by omega) (by omega)).mp hlt
  unfold mAgain
  rw [if_pos hlt, w1_s]
  congr 1
  unfold mWait
  rw [h5, e2, e3, pause_eq b2 t2 h1 (by omega), tx_nI (by omega)]
theorem mAgain_c {f : FF} {tm : Int32} {t : Nat} (j : Nat) (h6 : j ≠ 6) (h7 : j ≠ 7) : mAgain f tm t j = f j := mAgain_j j h6 h7
def tkF (f : FF) (T : Int32) (i : Nat) : FF := fun c k => if (c = 6 ∨ c = 7) ∧ k < i ∧ aC f T k = true then mAgain f (f 7 k) k c k else f c k
theorem tkF_0 {f : FF} {T : Int32} : tkF f T 0 = f := by
  funext c k
  exact if_neg (fun z => Nat.not_lt_zero _ z.2.1)
theorem tkF_c {f : FF} {T : Int32} {i j : Nat} (h6 : j ≠ 6) (h7 : j ≠ 7) : tkF f T i j = f j := by
  funext k
  exact if_neg (fun z => by rcases z.1 with h | h <;> contradiction)
theorem tkF_ge {f : FF} {T : Int32} {i c k : Nat} (h : i ≤ k) : tkF f T i c k = f c k := if_neg (fun z => by omega)
theorem tkF_o {f : FF} {T : Int32} {i k : Nat} (h : k ≠ i) (c : Nat) : tkF f T (i + 1) c k = tkF f T i c k := by
  unfold tkF
  have e : (k < i + 1) = (k < i) := propext ⟨fun z => by omega, fun z => by omega⟩
  simp only [e]
theorem tkF_f {f : FF} {T : Int32} {i : Nat} (h : aC f T i = false) : tkF f T (i + 1) = tkF f T i := by
  funext c k
  by_cases hk : k = i
  · subst hk
    unfold tkF
    rw [if_neg (fun z => by rw [h] at z; cases z.2.2), if_neg (fun z => by omega)]
  · exact tkF_o hk c
theorem tkF_t {f : FF} {T : Int32} {i c : Nat} (h : aC f T i = true) (hc : c = 6 ∨ c = 7) : tkF f T (i + 1) c i = mAgain f (f 7 i) i c i := if_pos ⟨hc, by omega, h⟩
theorem inn_c {f : FF} {T : Int32} {c : Nat} (h6 : c ≠ 6) (h7 : c ≠ 7) : ∀ k, inn f T k c = f c
  | 0 => rfl
  | k + 1 => by
    show aStep _ _ _ c = _
    unfold aStep
    split
    · rw [mAgain_j c h6 h7]
      exact inn_c h6 h7 k
    · exact inn_c h6 h7 k
theorem outF_c {f : FF} {T : Int32} {n c : Nat} (h6 : c ≠ 6) (h7 : c ≠ 7) : ∀ j, outF f T n j c = f c
  | 0 => rfl
  | j + 1 => by
    show inn _ _ _ c = _
    rw [inn_c h6 h7]
    exact outF_c h6 h7 j
theorem tkF_out {f : FF} {tm n : Nat} (hE : okE f tm n) (htm : tm < 2 ^ 29) {j : Nat} (hj : j ≤ 1000) {c k : Nat} (hk : k < n) : outF f (nI tm) n j c k = tkF f (nI (tm + j)) n c k := by
  by_cases hc : c = 6 ∨ c = 7
  · have h10 : c ≠ 10 := by omega
    rw [outF_at hE htm j hj k c hk h10]
    unfold tkF
    by_cases ha : aC f (nI (tm + j)) k = true
    · rw [if_pos ha, if_pos ⟨hc, hk, ha⟩]
    · rw [if_neg ha, if_neg (fun z => ha z.2.2)]
  · rw [outF_c (by omega) (by omega), tkF_c (by omega) (by omega)]
section PXC
variable {kk : Nat → ClassId} {xa qad gad tad : Nat → Nat} {e0 : Nat} {time tok : Int32} {n : Nat} {f f' : FF} {ky : Nat → Int64} {h : FF} {qar gar arr : Nat → Option Nat} {ea cap : Nat} {md : Int32} {ws : va_W}
theorem PX_congr (hX : PX kk xa qad gad tad e0 time tok n f ky h qar gar arr ea cap md ws) (hk : ∀ c k, k < n → f' c k = f c k) (h10 : f' 10 = f 10) (h11 : f' 11 = f 11) : PX kk xa qad gad tad e0 time tok n f' ky h qar gar arr ea cap md ws := by
  obtain ⟨p1, p2, p3, p4, p5, p6, p7, p8, p9, p10, p11, p12⟩ := hX
  have eq : ∀ k, k < n → qx f' k = qx f k := fun k hkn => by unfold qx; rw [hk 1 k hkn]
  have eg : ∀ k, k < n → gx f' k = gx f k := fun k hkn => by unfold gx; rw [hk 3 k hkn]
  refine ⟨p1, p2, p3, p4, p5, fun i hi => ?_, fun i hi => ?_, fun k hkn => ?_, fun k hkn => ?_, fun k hkn => ?_, fun k hkn => ?_, p12⟩
  · have := p6 i hi
    unfold qcl at *
    rw [h10]
    exact this
  · have := p7 i hi
    unfold gcl at *
    rw [h11, cnt_congr n (fun j hj => show pLent f' (nI i) j = pLent f (nI i) j by unfold pLent; rw [hk 6 j hj, hk 3 j hj])]
    exact this
  · have := p8 k hkn
    unfold tcl gref at *
    rw [eq k hkn, eg k hkn, hk 2 k hkn, hk 3 k hkn, hk 6 k hkn, hk 5 k hkn]
    exact this
  · rw [hk 1 k hkn, eq k hkn]
    exact p9 k hkn
  · rw [hk 3 k hkn, eg k hkn]
    exact p10 k hkn
  · rw [hk 6 k hkn, hk 7 k hkn, hk 8 k hkn, hk 9 k hkn]
    exact p11 k hkn
end PXC
theorem me0_6 {f : FF} {time : Int32} {t : Nat} : mEnd1 f time 0 t 6 t = 2 := by
  show w1 (w1 (w1 f 6 t 2) 7 t time) 5 t ((w1 (w1 f 6 t 2) 7 t time) 5 t - 0) 6 t = _
  rw [w1_c (by decide), w1_c (by decide), w1_s]
theorem me0_5 {f : FF} {time : Int32} {t : Nat} : mEnd1 f time 0 t 5 t = f 5 t := by
  show w1 (w1 (w1 f 6 t 2) 7 t time) 5 t ((w1 (w1 f 6 t 2) 7 t time) 5 t - 0) 5 t = _
  rw [w1_s, w1_c (by decide), w1_c (by decide)]
  exact Int32.sub_zero _
theorem me0_7 {f : FF} {time : Int32} {t : Nat} : mEnd1 f time 0 t 7 t = time := by
  show w1 (w1 (w1 f 6 t 2) 7 t time) 5 t ((w1 (w1 f 6 t 2) 7 t time) 5 t - 0) 7 t = _
  rw [w1_c (by decide), w1_s]
theorem me0_c {f : FF} {time : Int32} {t : Nat} (j : Nat) (h5 : j ≠ 5) (h6 : j ≠ 6) (h7 : j ≠ 7) (h8 : j ≠ 8) (h9 : j ≠ 9) : mEnd1 f time 0 t j = f j := by
  show w1 (w1 (w1 f 6 t 2) 7 t time) 5 t ((w1 (w1 f 6 t 2) 7 t time) 5 t - 0) j = _
  rw [w1_c h5, w1_c h7, w1_c h6]
theorem me0_o {f : FF} {time : Int32} {t i : Nat} (hi : i ≠ t) (j : Nat) : mEnd1 f time 0 t j i = f j i := by
  show w1 (w1 (w1 f 6 t 2) 7 t time) 5 t ((w1 (w1 f 6 t 2) 7 t time) 5 t - 0) j i = _
  rw [w1_o hi, w1_o hi, w1_o hi]
theorem me2_6 {f : FF} {time : Int32} {t : Nat} : mEnd1 f time 2 t 6 t = 0 := by
  show w1 (w1 (w1 f 6 t 0) 7 t time) 5 t ((w1 (w1 f 6 t 0) 7 t time) 5 t - 1) 6 t = _
  rw [w1_c (by decide), w1_c (by decide), w1_s]
theorem me2_5 {f : FF} {time : Int32} {t : Nat} : mEnd1 f time 2 t 5 t = f 5 t - 1 := by
  show w1 (w1 (w1 f 6 t 0) 7 t time) 5 t ((w1 (w1 f 6 t 0) 7 t time) 5 t - 1) 5 t = _
  rw [w1_s, w1_c (by decide), w1_c (by decide)]
theorem me2_7 {f : FF} {time : Int32} {t : Nat} : mEnd1 f time 2 t 7 t = time := by
  show w1 (w1 (w1 f 6 t 0) 7 t time) 5 t ((w1 (w1 f 6 t 0) 7 t time) 5 t - 1) 7 t = _
  rw [w1_c (by decide), w1_s]
theorem me2_c {f : FF} {time : Int32} {t : Nat} (j : Nat) (h5 : j ≠ 5) (h6 : j ≠ 6) (h7 : j ≠ 7) (h8 : j ≠ 8) (h9 : j ≠ 9) : mEnd1 f time 2 t j = f j := by
  show w1 (w1 (w1 f 6 t 0) 7 t time) 5 t ((w1 (w1 f 6 t 0) 7 t time) 5 t - 1) j = _
  rw [w1_c h5, w1_c h7, w1_c h6]
theorem me2_o {f : FF} {time : Int32} {t i : Nat} (hi : i ≠ t) (j : Nat) : mEnd1 f time 2 t j i = f j i := by
  show w1 (w1 (w1 f 6 t 0) 7 t time) 5 t ((w1 (w1 f 6 t 0) 7 t time) 5 t - 1) j i = _
  rw [w1_o hi, w1_o hi, w1_o hi]
theorem again_rel {f : FF} {tm : Int32} {t : Nat} (hT : okT f) (hq : qx f t < 4) {tr : Nat} (h5 : f 5 t = nI tr) (h1 : 1 ≤ tr) (h2 : tr < 2 ^ 30) {u0 u1 u2 u3 u4 : Int32} :
    ((if f 5 t < f 10 (6 * qx f t + 1) then 0 else 3 : Int32) = 0 → (if f 5 t < f 10 (6 * qx f t + 1) then tm + sPause (f 10 (6 * qx f t + 2)) (f 10 (6 * qx f t + 3)) (f 5 t) else u0) = mAgain f tm t 7 t) ∧
    ((if f 5 t < f 10 (6 * qx f t + 1) then 0 else 3 : Int32) = 1 → u1 = mAgain f tm t 7 t ∧ u2 = mAgain f tm t 8 t ∧ u3 = mAgain f tm t 9 t) ∧ ((if f 5 t < f 10 (6 * qx f t + 1) then 0 else 3 : Int32) = 2 → u4 = mAgain f tm t 7 t) := by
  by_cases hlt : f 5 t < f 10 (6 * qx f t + 1)
  · rw [if_pos hlt, if_pos hlt, mAgain_x7 hT hq h5 h1 h2 hlt]
    exact ⟨fun _ => rfl, fun z => absurd z (by decide), fun z => absurd z (by decide)⟩
  · rw [if_neg hlt, if_neg hlt]
    exact ⟨fun z => absurd z (by decide), fun z => absurd z (by decide), fun z => absurd z (by decide)⟩
theorem sw_out {x : Int32} {h : Nat} (hh : h < 2 ^ 30) (hd : x.toInt < 0 ∨ (h : Int) < x.toInt) : sWithin x 0 (nI h) = false := by
  cases hw : sWithin x 0 (nI h)
  · rfl
  · obtain ⟨a, ha, rfl⟩ := sWithin_nI (by omega) hw
    rw [nI_toInt (by omega)] at hd
    omega
set_option maxHeartbeats 4000000 in
set_option maxRecDepth 100000 in
theorem c_X_task (l : Launch) {D : va_G} {ws : va_W} {H : Heap} (hP : va_P D vwCl ws H) {kk : Nat → ClassId} {xa qad gad tad : Nat → Nat} {e0 : Nat} {time tok : Int32} {n : Nat} {f : FF} {ky : Nat → Int64} {h : FF} {qar gar arr : Nat → Option Nat} {ea cap : Nat} {md : Int32} (hX : PX kk xa qad gad tad e0 time tok n f ky h qar gar arr ea cap md ws) (v what : Int32) (hc : cTask n v what = true) : Met l y_X_task (Cond.code y_X_task b_X_task 4 (some .int) :: TT) ({ frames := 5, cells := 0, slots := 0, locals := 200 }) (zPc [.ref (xa 0), .int v, .int what] H D vwCl (TY kk)) (zQi (mTask f time n v what) H) 0 0 (fun _ => False) := by
  refine z_body (by decide) (Nat.le_of_ble_eq_true rfl) ?_
  intro p e s m below meth c ls C0 hH hKN hl
  obtain ⟨hx, hb, hr, hts, hown, hlocks, hml⟩ := C0
  subst hH
  have hK := hKN.1
  have hN := hKN.2
  have hS : va_S (fun _ => False) s.heap s.heap [] := va_S.rf
  have hn := PX_n hX
  have hl : lv_has ls 4 [(0, .ref (xa 0)), (1, .int v), (2, .int what)] := hl
  refine lv_aload_n hx hb d_X_task_0 rfl (zl hl rfl) ?_
  refine lv_iload_n hx hb d_X_task_1 rfl (zl hl rfl) ?_
  by_cases bq_1 : sTask v n = true
  · obtain ⟨x_2, hx_3, rfl⟩ := sTask_t (by omega) bq_1
    have ht_4 : tx (nI x_2) = x_2 := tx_nI (by omega)
    have hr_5 : tRef tad n (nI x_2) = some (tad x_2) := by rw [tRef, if_pos bq_1, ht_4]
    refine z_callq (va_runV (As := [.int (nI x_2)]) (rest := []) ⟨hx, hb, hml, hown, hts⟩ (c_X_taskAt l hP hX (nI x_2)) (cwV 1 hts (tt_V tw_183 tw_180 tw_182 tw_1 tw_30) rfl rfl rfl (by decide +kernel) ⟨Nat.le_of_ble_eq_true rfl, Nat.le_of_ble_eq_true rfl⟩) (zPc_V hKN hP (ci := 3) (q := (R_X, F_X, 5)) rfl (PX_x hX)) rfl rfl hl.1 rfl (lv_room (Nat.le_of_ble_eq_true rfl)) d_X_task_2 ⟨Nat.zero_le _, Nat.zero_le _⟩) hS (fun locs hS => ?_)
    rw [hr_5]
    refine lv_astore_n (lv' := [(3, .ref (tad x_2)), (0, .ref (xa 0)), (1, .int (nI x_2)), (2, .int what)]) hx hb d_X_task_5 rfl hl (by decide) rfl (fun ls hl => ?_)
    refine lv_aload_n hx hb d_X_task_6 rfl (zl hl rfl) ?_
    refine lv_ifnonnull (tgt := 20) hx hb d_X_task_7 (by decide) ?_
    refine lv_iload_n hx hb d_X_task_20 rfl (zl hl rfl) ?_
    rcases z_sw what 6 (by decide) with d_6 | ⟨k9, hk9, hkk⟩
    · have n_7 : ¬ what = 0 := fun h => absurd (h ▸ d_6) (by decide)
      have n_8 : ¬ what = 1 := fun h => absurd (h ▸ d_6) (by decide)
      have n_9 : ¬ what = 2 := fun h => absurd (h ▸ d_6) (by decide)
      have n_10 : ¬ what = 3 := fun h => absurd (h ▸ d_6) (by decide)
      have n_11 : ¬ what = 4 := fun h => absurd (h ▸ d_6) (by decide)
      have n_12 : ¬ what = 5 := fun h => absurd (h ▸ d_6) (by decide)
      have n_13 : ¬ what = 6 := fun h => absurd (h ▸ d_6) (by decide)
      have b9 := sw_out (h := 6) (by decide) d_6
      refine lv_tableOut (tgt := 165) hx hb d_X_task_21 d_6 (by decide) ?_
      exact absurd hc (by simp only [cTask]; rw [show sWithin what 0 6 = false from b9, Bool.and_false]; decide)
    · obtain rfl | rfl | rfl | rfl | rfl | rfl | rfl : k9 = 0 ∨ k9 = 1 ∨ k9 = 2 ∨ k9 = 3 ∨ k9 = 4 ∨ k9 = 5 ∨ k9 = 6 := by omega
      · have e9 : what = 0 := hkk
        clear hkk
        subst e9
        refine lv_tableIn (tgt := 64) hx hb d_X_task_21 (by decide) (by decide) rfl (by decide) ?_
        refine lv_aload_n hx hb d_X_task_64 rfl (zl hl rfl) ?_
        refine z_get (C := R_T) (T := F_T) (N := 12) (v := .int (f 6 x_2)) hx hb hts inT_T hown hK hP (PX_t hX (k := x_2) (by omega)) rfl 5 (by decide) tw_406 (fun _ h => h) rfl d_X_task_65 ?_
        exact z_iret hx hb hr hlocks hS (by unfold mTask; rw [if_pos hc]; first | (simp [*]; done) | (simp_all [sDue, wgt]; done)) d_X_task_68
      · have e9 : what = 1 := hkk
        clear hkk
        subst e9
        refine lv_tableIn (tgt := 69) hx hb d_X_task_21 (by decide) (by decide) rfl (by decide) ?_
        refine lv_aload_n hx hb d_X_task_69 rfl (zl hl rfl) ?_
        refine z_get (C := R_T) (T := F_T) (N := 12) (v := .int (f 5 x_2)) hx hb hts inT_T hown hK hP (PX_t hX (k := x_2) (by omega)) rfl 6 (by decide) tw_408 (fun _ h => h) rfl d_X_task_70 ?_
        exact z_iret hx hb hr hlocks hS (by unfold mTask; rw [if_pos hc]; first | (simp [*]; done) | (simp_all [sDue, wgt]; done)) d_X_task_73
      · have e9 : what = 2 := hkk
        clear hkk
        subst e9
        refine lv_tableIn (tgt := 74) hx hb d_X_task_21 (by decide) (by decide) rfl (by decide) ?_
        refine lv_aload_n hx hb d_X_task_74 rfl (zl hl rfl) ?_
        refine z_get (C := R_T) (T := F_T) (N := 12) (v := .int (f 6 x_2)) hx hb hts inT_T hown hK hP (PX_t hX (k := x_2) (by omega)) rfl 5 (by decide) tw_406 (fun _ h => h) rfl d_X_task_75 ?_
        refine lv_if_ne (tgt := 88) hx hb d_X_task_78 (by decide) (fun c_14 => ?_) (fun c_14 => ?_)
        · refine lv_iconst (v := (-1)) hx hb d_X_task_88 (by decide) ?_
          exact z_iret hx hb hr hlocks hS (by unfold mTask; rw [if_pos hc]; first | (simp [*]; done) | (simp_all [sDue, wgt]; done)) d_X_task_89
        · have hrl := (PX_rel hX x_2 (by omega)).1 c_14
          refine lv_aload_n hx hb d_X_task_81 rfl (zl hl rfl) ?_
          refine z_get (C := R_T) (T := F_T) (N := 12) (v := .int (h 0 x_2)) hx hb hts inT_T hown hK hP (PX_t hX (k := x_2) (by omega)) rfl 7 (by decide) tw_410 (fun _ h => h) rfl d_X_task_82 ?_
          refine lv_goto (tgt := 89) hx hb d_X_task_85 (by decide) ?_
          exact z_iret hx hb hr hlocks hS (by unfold mTask; rw [if_pos hc]; first | (simp [*]; done) | (simp_all [sDue, wgt]; done)) d_X_task_89
      · have e9 : what = 3 := hkk
        clear hkk
        subst e9
        refine lv_tableIn (tgt := 90) hx hb d_X_task_21 (by decide) (by decide) rfl (by decide) ?_
        refine lv_aload_n hx hb d_X_task_90 rfl (zl hl rfl) ?_
        refine z_get (C := R_T) (T := F_T) (N := 12) (v := .int (f 6 x_2)) hx hb hts inT_T hown hK hP (PX_t hX (k := x_2) (by omega)) rfl 5 (by decide) tw_406 (fun _ h => h) rfl d_X_task_91 ?_
        refine lv_iconst (v := 1) hx hb d_X_task_94 (by decide) ?_
        refine lv_icmp_ne (tgt := 105) hx hb d_X_task_95 (by decide) (fun c_15 => ?_) (fun c_15 => ?_)
        · refine lv_iconst (v := (-1)) hx hb d_X_task_105 (by decide) ?_
          exact z_iret hx hb hr hlocks hS (by unfold mTask; rw [if_pos hc]; first | (simp [*]; done) | (simp_all [sDue, wgt]; done)) d_X_task_106
        · have hrl := (PX_rel hX x_2 (by omega)).2.1 c_15
          refine lv_aload_n hx hb d_X_task_98 rfl (zl hl rfl) ?_
          refine z_get (C := R_T) (T := F_T) (N := 12) (v := .int (h 1 x_2)) hx hb hts inT_T hown hK hP (PX_t hX (k := x_2) (by omega)) rfl 8 (by decide) tw_412 (fun _ h => h) rfl d_X_task_99 ?_
          refine lv_goto (tgt := 106) hx hb d_X_task_102 (by decide) ?_
          exact z_iret hx hb hr hlocks hS (by unfold mTask; rw [if_pos hc]; first | (simp [*]; done) | (simp_all [sDue, wgt]; done)) d_X_task_106
      · have e9 : what = 4 := hkk
        clear hkk
        subst e9
        refine lv_tableIn (tgt := 107) hx hb d_X_task_21 (by decide) (by decide) rfl (by decide) ?_
        refine lv_aload_n hx hb d_X_task_107 rfl (zl hl rfl) ?_
        refine z_get (C := R_T) (T := F_T) (N := 12) (v := .int (f 6 x_2)) hx hb hts inT_T hown hK hP (PX_t hX (k := x_2) (by omega)) rfl 5 (by decide) tw_406 (fun _ h => h) rfl d_X_task_108 ?_
        refine lv_iconst (v := 1) hx hb d_X_task_111 (by decide) ?_
        refine lv_icmp_ne (tgt := 122) hx hb d_X_task_112 (by decide) (fun c_16 => ?_) (fun c_16 => ?_)
        · refine lv_iconst (v := (-1)) hx hb d_X_task_122 (by decide) ?_
          exact z_iret hx hb hr hlocks hS (by unfold mTask; rw [if_pos hc]; first | (simp [*]; done) | (simp_all [sDue, wgt]; done)) d_X_task_123
        · have hrl := (PX_rel hX x_2 (by omega)).2.1 c_16
          refine lv_aload_n hx hb d_X_task_115 rfl (zl hl rfl) ?_
          refine z_get (C := R_T) (T := F_T) (N := 12) (v := .int (h 2 x_2)) hx hb hts inT_T hown hK hP (PX_t hX (k := x_2) (by omega)) rfl 9 (by decide) tw_414 (fun _ h => h) rfl d_X_task_116 ?_
          refine lv_goto (tgt := 123) hx hb d_X_task_119 (by decide) ?_
          exact z_iret hx hb hr hlocks hS (by unfold mTask; rw [if_pos hc]; first | (simp [*]; done) | (simp_all [sDue, wgt]; done)) d_X_task_123
      · have e9 : what = 5 := hkk
        clear hkk
        subst e9
        refine lv_tableIn (tgt := 124) hx hb d_X_task_21 (by decide) (by decide) rfl (by decide) ?_
        refine lv_aload_n hx hb d_X_task_124 rfl (zl hl rfl) ?_
        refine z_get (C := R_T) (T := F_T) (N := 12) (v := .int (f 6 x_2)) hx hb hts inT_T hown hK hP (PX_t hX (k := x_2) (by omega)) rfl 5 (by decide) tw_406 (fun _ h => h) rfl d_X_task_125 ?_
        refine lv_iconst (v := 1) hx hb d_X_task_128 (by decide) ?_
        refine lv_icmp_ne (tgt := 139) hx hb d_X_task_129 (by decide) (fun c_17 => ?_) (fun c_17 => ?_)
        · refine lv_iconst (v := (-1)) hx hb d_X_task_139 (by decide) ?_
          exact z_iret hx hb hr hlocks hS (by unfold mTask; rw [if_pos hc]; first | (simp [*]; done) | (simp_all [sDue, wgt]; done)) d_X_task_140
        · have hrl := (PX_rel hX x_2 (by omega)).2.1 c_17
          refine lv_aload_n hx hb d_X_task_132 rfl (zl hl rfl) ?_
          refine z_get (C := R_T) (T := F_T) (N := 12) (v := .int (h 3 x_2)) hx hb hts inT_T hown hK hP (PX_t hX (k := x_2) (by omega)) rfl 10 (by decide) tw_416 (fun _ h => h) rfl d_X_task_133 ?_
          refine lv_goto (tgt := 140) hx hb d_X_task_136 (by decide) ?_
          exact z_iret hx hb hr hlocks hS (by unfold mTask; rw [if_pos hc]; first | (simp [*]; done) | (simp_all [sDue, wgt]; done)) d_X_task_140
      · have e9 : what = 6 := hkk
        clear hkk
        subst e9
        refine lv_tableIn (tgt := 141) hx hb d_X_task_21 (by decide) (by decide) rfl (by decide) ?_
        refine lv_aload_n hx hb d_X_task_141 rfl (zl hl rfl) ?_
        refine lv_aload_n hx hb d_X_task_142 rfl (zl hl rfl) ?_
        refine z_get (C := R_X) (T := F_X) (N := 5) (v := .int time) hx hb hts inT_X hown hK hP (PX_x hX) rfl 3 (by decide) tw_136 (fun _ h => h) rfl d_X_task_143 ?_
        refine z_calli (va_runV (As := [.int time]) (rest := []) ⟨hx, hb, hml, hown, hts⟩ (c_T_isDue l hP (PX_t hX (k := x_2) (by omega)) time) (cwV 1 hts (tt_V tw_250 tw_564 tw_248 tw_249 tw_44) rfl rfl rfl (by decide +kernel) ⟨Nat.le_of_ble_eq_true rfl, Nat.le_of_ble_eq_true rfl⟩) (zPc_V hKN hP (ci := 2) (q := (R_T, F_T, 12)) rfl (PX_t hX (k := x_2) (by omega))) rfl rfl hl.1 rfl (lv_room (Nat.le_of_ble_eq_true rfl)) d_X_task_146 ⟨Nat.zero_le _, Nat.zero_le _⟩) hS (fun locs hS => ?_)
        refine lv_if_eq (tgt := 163) hx hb d_X_task_149 (by decide) (fun c_18 => ?_) (fun c_18 => ?_)
        · have b3 : ¬ (f 6 x_2 = 0 ∧ f 7 x_2 ≤ time) := fun z => by have z3 := zb_f c_18; have z1 := z.1; have z2 := z.2; rw [← (PX_rel hX x_2 (by omega)).1 z1] at z2; simp [sDue, z1, z2] at z3
          have b4 : (if f 6 x_2 = 0 ∧ f 7 x_2 ≤ time then wgt f time x_2 else -1) = -1 := if_neg b3
          clear b3
          refine lv_iconst (v := (-1)) hx hb d_X_task_163 (by decide) ?_
          exact z_iret hx hb hr hlocks hS (by unfold mTask; rw [if_pos hc]; first | (simp [*]; done) | (simp_all [sDue, wgt]; done)) d_X_task_164
        · have b3 := zb_t c_18
          simp only [sDue, Bool.and_eq_true, decide_eq_true_eq] at b3
          have hrl := (PX_rel hX x_2 (by omega)).1 b3.1
          refine lv_aload_n hx hb d_X_task_152 rfl (zl hl rfl) ?_
          refine lv_aload_n hx hb d_X_task_153 rfl (zl hl rfl) ?_
          refine z_get (C := R_X) (T := F_X) (N := 5) (v := .int time) hx hb hts inT_X hown hK hP (PX_x hX) rfl 3 (by decide) tw_136 (fun _ h => h) rfl d_X_task_154 ?_
          refine z_calli (va_runV (As := [.int time]) (rest := []) ⟨hx, hb, hml, hown, hts⟩ (c_T_weight l hP (PX_t hX (k := x_2) (by omega)) (PX_q hX (PX_okq hX x_2 (by omega)).2) time) (cwV 1 hts (tt_V tw_258 tw_565 tw_256 tw_257 tw_44) rfl rfl rfl (by decide +kernel) ⟨Nat.le_of_ble_eq_true rfl, Nat.le_of_ble_eq_true rfl⟩) (zPc_V hKN hP (ci := 2) (q := (R_T, F_T, 12)) rfl (PX_t hX (k := x_2) (by omega))) rfl rfl hl.1 rfl (lv_room (Nat.le_of_ble_eq_true rfl)) d_X_task_157 ⟨Nat.zero_le _, Nat.zero_le _⟩) hS (fun locs hS => ?_)
          refine lv_goto (tgt := 164) hx hb d_X_task_160 (by decide) ?_
          exact z_iret hx hb hr hlocks hS (by unfold mTask; rw [if_pos hc]; first | (simp [*]; done) | (simp_all [sDue, wgt]; done)) d_X_task_164
  · have bq_1 : sTask v n = false := by simpa using bq_1
    have hr_5 : tRef tad n v = none := by rw [tRef, if_neg (by rw [bq_1]; decide)]
    refine z_callq (va_runV (As := [.int v]) (rest := []) ⟨hx, hb, hml, hown, hts⟩ (c_X_taskAt l hP hX v) (cwV 1 hts (tt_V tw_183 tw_180 tw_182 tw_1 tw_30) rfl rfl rfl (by decide +kernel) ⟨Nat.le_of_ble_eq_true rfl, Nat.le_of_ble_eq_true rfl⟩) (zPc_V hKN hP (ci := 3) (q := (R_X, F_X, 5)) rfl (PX_x hX)) rfl rfl hl.1 rfl (lv_room (Nat.le_of_ble_eq_true rfl)) d_X_task_2 ⟨Nat.zero_le _, Nat.zero_le _⟩) hS (fun locs hS => ?_)
    rw [hr_5]
    refine lv_astore_nN (lv' := [(3, .null), (0, .ref (xa 0)), (1, .int v), (2, .int what)]) hx hb d_X_task_5 rfl hl (by decide) rfl (fun ls hl => ?_)
    refine lv_aload_nN hx hb d_X_task_6 rfl (zl hl rfl) ?_
    refine lv_ifnonnullN hx hb d_X_task_7 ?_
    exact absurd hc (by simp [cTask, *])
set_option maxHeartbeats 4000000 in
set_option maxRecDepth 100000 in
theorem c_X_task_T (l : Launch) (hl0 : l.stackTraces = false) {D : va_G} {ws : va_W} {H : Heap} (hP : va_P D vwCl ws H) {kk : Nat → ClassId} {xa qad gad tad : Nat → Nat} {e0 : Nat} {time tok : Int32} {n : Nat} {f : FF} {ky : Nat → Int64} {h : FF} {qar gar arr : Nat → Option Nat} {ea cap : Nat} {md : Int32} (hX : PX kk xa qad gad tad e0 time tok n f ky h qar gar arr ea cap md ws) {B : Nat} (v what : Int32) (hc : cTask n v what = false) : zMT l y_X_task (Cond.code y_X_task b_X_task 4 (some .int) :: TT) ({ frames := 6, cells := 1, slots := 6, locals := 240 }) (zPx [.ref (xa 0), .int v, .int what] H D vwCl (TY kk) B) "java/util/NoSuchElementException" 1 6 := by
  refine z_bodyT (by decide) (Nat.le_of_ble_eq_true rfl) ?_
  intro p e s m below meth c ls C0 htab hH hKN hT hSt hl
  obtain ⟨hx, hb, hr, hts, hown, hlocks, hml⟩ := C0
  subst hH
  have hK := hKN.1
  have hN := hKN.2
  have hn := PX_n hX
  have hl : lv_has ls 4 [(0, .ref (xa 0)), (1, .int v), (2, .int what)] := hl
  refine lv_aload_n hx hb d_X_task_0 rfl (zl hl rfl) ?_
  refine lv_iload_n hx hb d_X_task_1 rfl (zl hl rfl) ?_
  by_cases bq_1 : sTask v n = true
  · obtain ⟨x_2, hx_3, rfl⟩ := sTask_t (by omega) bq_1
    have ht_4 : tx (nI x_2) = x_2 := tx_nI (by omega)
    have hr_5 : tRef tad n (nI x_2) = some (tad x_2) := by rw [tRef, if_pos bq_1, ht_4]
    refine z_callqK (va_runV (As := [.int (nI x_2)]) (rest := []) ⟨hx, hb, hml, hown, hts⟩ (c_X_taskAt l hP hX (nI x_2)) (cwV 1 hts (tt_V tw_183 tw_180 tw_182 tw_1 tw_30) rfl rfl rfl (by decide +kernel) ⟨Nat.le_of_ble_eq_true rfl, Nat.le_of_ble_eq_true rfl⟩) (zPc_V hKN hP (ci := 3) (q := (R_X, F_X, 5)) rfl (PX_x hX)) rfl rfl hl.1 rfl (lv_room (Nat.le_of_ble_eq_true rfl)) d_X_task_2 ⟨Nat.zero_le _, Nat.zero_le _⟩) ?_
    rw [hr_5]
    refine lv_astore_n (lv' := [(3, .ref (tad x_2)), (0, .ref (xa 0)), (1, .int (nI x_2)), (2, .int what)]) hx hb d_X_task_5 rfl hl (by decide) rfl (fun ls hl => ?_)
    refine lv_aload_n hx hb d_X_task_6 rfl (zl hl rfl) ?_
    refine lv_ifnonnull (tgt := 20) hx hb d_X_task_7 (by decide) ?_
    refine lv_iload_n hx hb d_X_task_20 rfl (zl hl rfl) ?_
    rcases z_sw what 6 (by decide) with d_6 | ⟨k9, hk9, hkk⟩
    · have n_7 : ¬ what = 0 := fun h => absurd (h ▸ d_6) (by decide)
      have n_8 : ¬ what = 1 := fun h => absurd (h ▸ d_6) (by decide)
      have n_9 : ¬ what = 2 := fun h => absurd (h ▸ d_6) (by decide)
      have n_10 : ¬ what = 3 := fun h => absurd (h ▸ d_6) (by decide)
      have n_11 : ¬ what = 4 := fun h => absurd (h ▸ d_6) (by decide)
      have n_12 : ¬ what = 5 := fun h => absurd (h ▸ d_6) (by decide)
      have n_13 : ¬ what = 6 := fun h => absurd (h ▸ d_6) (by decide)
      have b9 := sw_out (h := 6) (by decide) d_6
      refine lv_tableOut (tgt := 165) hx hb d_X_task_21 d_6 (by decide) ?_
      exact zx_throw (own := "LoanRounds") (E := "java/util/NoSuchElementException") (text := "no such what") hx hb hl0 b13_0 b13_1 b13_2 b13_5 hts hown (by decide) tw_517 tw_49 ow_NSE hT (hSt (182, "no such what") (by simp [strL])) (hl.1.trans hml.symm) d_X_task_165 d_X_task_168 d_X_task_169 d_X_task_171 d_X_task_174 htab (Nat.le_of_ble_eq_true rfl) (Nat.le_of_ble_eq_true rfl) (Nat.le_of_ble_eq_true rfl) (Nat.le_of_ble_eq_true rfl) hlocks (by decide) (by decide)
    · obtain rfl | rfl | rfl | rfl | rfl | rfl | rfl : k9 = 0 ∨ k9 = 1 ∨ k9 = 2 ∨ k9 = 3 ∨ k9 = 4 ∨ k9 = 5 ∨ k9 = 6 := by omega
      · have e9 : what = 0 := hkk
        clear hkk
        subst e9
        refine lv_tableIn (tgt := 64) hx hb d_X_task_21 (by decide) (by decide) rfl (by decide) ?_
        exact absurd hc (by simp only [cTask, *]; decide)
      · have e9 : what = 1 := hkk
        clear hkk
        subst e9
        refine lv_tableIn (tgt := 69) hx hb d_X_task_21 (by decide) (by decide) rfl (by decide) ?_
        exact absurd hc (by simp only [cTask, *]; decide)
      · have e9 : what = 2 := hkk
        clear hkk
        subst e9
        refine lv_tableIn (tgt := 74) hx hb d_X_task_21 (by decide) (by decide) rfl (by decide) ?_
        exact absurd hc (by simp only [cTask, *]; decide)
      · have e9 : what = 3 := hkk
        clear hkk
        subst e9
        refine lv_tableIn (tgt := 90) hx hb d_X_task_21 (by decide) (by decide) rfl (by decide) ?_
        exact absurd hc (by simp only [cTask, *]; decide)
      · have e9 : what = 4 := hkk
        clear hkk
        subst e9
        refine lv_tableIn (tgt := 107) hx hb d_X_task_21 (by decide) (by decide) rfl (by decide) ?_
        exact absurd hc (by simp only [cTask, *]; decide)
      · have e9 : what = 5 := hkk
        clear hkk
        subst e9
        refine lv_tableIn (tgt := 124) hx hb d_X_task_21 (by decide) (by decide) rfl (by decide) ?_
        exact absurd hc (by simp only [cTask, *]; decide)
      · have e9 : what = 6 := hkk
        clear hkk
        subst e9
        refine lv_tableIn (tgt := 141) hx hb d_X_task_21 (by decide) (by decide) rfl (by decide) ?_
        exact absurd hc (by simp only [cTask, *]; decide)
  · have bq_1 : sTask v n = false := by simpa using bq_1
    have hr_5 : tRef tad n v = none := by rw [tRef, if_neg (by rw [bq_1]; decide)]
    refine z_callqK (va_runV (As := [.int v]) (rest := []) ⟨hx, hb, hml, hown, hts⟩ (c_X_taskAt l hP hX v) (cwV 1 hts (tt_V tw_183 tw_180 tw_182 tw_1 tw_30) rfl rfl rfl (by decide +kernel) ⟨Nat.le_of_ble_eq_true rfl, Nat.le_of_ble_eq_true rfl⟩) (zPc_V hKN hP (ci := 3) (q := (R_X, F_X, 5)) rfl (PX_x hX)) rfl rfl hl.1 rfl (lv_room (Nat.le_of_ble_eq_true rfl)) d_X_task_2 ⟨Nat.zero_le _, Nat.zero_le _⟩) ?_
    rw [hr_5]
    refine lv_astore_nN (lv' := [(3, .null), (0, .ref (xa 0)), (1, .int v), (2, .int what)]) hx hb d_X_task_5 rfl hl (by decide) rfl (fun ls hl => ?_)
    refine lv_aload_nN hx hb d_X_task_6 rfl (zl hl rfl) ?_
    refine lv_ifnonnullN hx hb d_X_task_7 ?_
    exact zx_throw (own := "LoanRounds") (E := "java/util/NoSuchElementException") (text := "no such task") hx hb hl0 b13_0 b13_1 b13_2 b13_5 hts hown (by decide) tw_517 tw_49 ow_NSE hT (hSt (165, "no such task") (by simp [strL])) (hl.1.trans hml.symm) d_X_task_10 d_X_task_13 d_X_task_14 d_X_task_16 d_X_task_19 htab (Nat.le_of_ble_eq_true rfl) (Nat.le_of_ble_eq_true rfl) (Nat.le_of_ble_eq_true rfl) (Nat.le_of_ble_eq_true rfl) hlocks (by decide) (by decide)
set_option maxHeartbeats 4000000 in
set_option maxRecDepth 100000 in
theorem c_X_lend (l : Launch) {D : va_G} {ws : va_W} {H : Heap} (hP : va_P D vwCl ws H) {kk : Nat → ClassId} {xa qad gad tad : Nat → Nat} {e0 : Nat} {time tok : Int32} {n : Nat} {f : FF} {ky : Nat → Int64} {h : FF} {qar gar arr : Nat → Option Nat} {ea cap : Nat} {md : Int32} (hX : PX kk xa qad gad tad e0 time tok n f ky h qar gar arr ea cap md ws) {B : Nat} (hD : va_D (fun q => B ≤ q) ws) (v q : Int32) (hc : cLend v q = true) (hl4 : cnt (pTo f v) n ≤ 4) : Met l y_X_lend (Cond.code y_X_lend b_X_lend 6 (some .int) :: TT) ({ frames := 5, cells := 0, slots := 0, locals := 200 }) (zPc [.ref (xa 0), .int v, .int q] H D vwCl (TY kk)) (zR D vwCl B (some (.int (rLend f time n v q tok))) (fun ws' => XR kk xa qad gad tad e0 time (tLend f time n v q tok) n (mLend f time n v q tok) ky qar gar arr ea cap md ws ws')) 0 0 (fun q => B ≤ q) := by
  refine z_body (by decide) (Nat.le_of_ble_eq_true rfl) ?_
  intro p e s m below meth c ls C0 hH hKN hl
  obtain ⟨hx, hb, hr, hts, hown, hlocks, hml⟩ := C0
  subst hH
  have hK := hKN.1
  have hN := hKN.2
  have hS : va_S (fun q => B ≤ q) s.heap s.heap [] := va_S.rf
  have hn := PX_n hX
  have hl : lv_has ls 6 [(0, .ref (xa 0)), (1, .int v), (2, .int q)] := hl
  refine lv_aload_n hx hb d_X_lend_0 rfl (zl hl rfl) ?_
  refine lv_iload_n hx hb d_X_lend_1 rfl (zl hl rfl) ?_
  by_cases bq_1 : sWithin q 0 3 = true
  · obtain ⟨x_2, hx_3, rfl⟩ := sWithin_nI (h := 3) (by decide) bq_1
    have ht_4 : tx (nI x_2) = x_2 := tx_nI (by omega)
    have hr_5 : qRef qad (nI x_2) = some (qad x_2) := by rw [qRef, if_pos bq_1, ht_4]
    refine z_callq (va_runV (As := [.int (nI x_2)]) (rest := []) ⟨hx, hb, hml, hown, hts⟩ (c_X_queueAt l hP hX (nI x_2)) (cwV 1 hts (tt_V tw_226 tw_223 tw_225 tw_5 tw_30) rfl rfl rfl (by decide +kernel) ⟨Nat.le_of_ble_eq_true rfl, Nat.le_of_ble_eq_true rfl⟩) (zPc_V hKN hP (ci := 3) (q := (R_X, F_X, 5)) rfl (PX_x hX)) rfl rfl hl.1 rfl (lv_room (Nat.le_of_ble_eq_true rfl)) d_X_lend_2 ⟨Nat.zero_le _, Nat.zero_le _⟩) hS (fun locs hS => ?_)
    rw [hr_5]
    refine lv_astore_n (lv' := [(3, .ref (qad x_2)), (0, .ref (xa 0)), (1, .int v), (2, .int (nI x_2))]) hx hb d_X_lend_5 rfl hl (by decide) rfl (fun ls hl => ?_)
    refine lv_aload_n hx hb d_X_lend_6 rfl (zl hl rfl) ?_
    refine lv_ifnull hx hb d_X_lend_7 ?_
    refine lv_iload_n hx hb d_X_lend_10 rfl (zl hl rfl) ?_
    refine z_calli (va_runS (As := [.int v]) (rest := []) ⟨hx, hb, hml, hown, hts⟩ (c_X_isWorker l hP v) (va_cwS 1 hts (tt_S tw_280 tw_278 tw_279 tw_30) rfl rfl rfl (by decide +kernel) ⟨Nat.le_of_ble_eq_true rfl, Nat.le_of_ble_eq_true rfl⟩) (zPc_S hKN) rfl rfl hl.1 rfl (lv_room (Nat.le_of_ble_eq_true rfl)) d_X_lend_11 ⟨Nat.zero_le _, Nat.zero_le _⟩) hS (fun locs hS => ?_)
    refine lv_if_ne (tgt := 27) hx hb d_X_lend_14 (by decide) (fun c_6 => ?_) (fun c_6 => ?_)
    · have b1 := zb_t c_6
      refine lv_aload_n hx hb d_X_lend_27 rfl (zl hl rfl) ?_
      refine lv_aload_n hx hb d_X_lend_28 rfl (zl hl rfl) ?_
      refine z_callq (va_runV (As := [.ref (qad x_2)]) (rest := []) ⟨hx, hb, hml, hown, hts⟩ (c_X_firstOf l hP hX x_2 (by omega)) (cwV 1 hts (tt_V tw_242 tw_239 tw_241 tw_6 tw_30) rfl rfl rfl (by decide +kernel) ⟨Nat.le_of_ble_eq_true rfl, Nat.le_of_ble_eq_true rfl⟩) (zPc_V hKN hP (ci := 3) (q := (R_X, F_X, 5)) rfl (PX_x hX)) rfl rfl hl.1 rfl (lv_room (Nat.le_of_ble_eq_true rfl)) d_X_lend_29 ⟨Nat.zero_le _, Nat.zero_le _⟩) hS (fun locs hS => ?_)
      rcases ho : fst f time n (nI x_2) n with _ | t
      · have hm1 : True := trivial
        refine lv_astoreN (lv' := [(4, .null), (3, .ref (qad x_2)), (0, .ref (xa 0)), (1, .int v), (2, .int (nI x_2))]) hx hb d_X_lend_32 hl (by decide) rfl (fun ls hl => ?_)
        refine lv_aloadN hx hb d_X_lend_34 (zl hl rfl) ?_
        refine lv_ifnullN (tgt := 48) hx hb d_X_lend_36 (by decide) ?_
        refine lv_iconst (v := (-1)) hx hb d_X_lend_48 (by decide) ?_
        have ho2 : oLend f time n v (nI x_2) = none := by unfold oLend; first | (rw [if_pos b4]; done) | (rw [ho]; exact ite_self _)
        exact z_iretR hx hb hr hlocks hP hD hS (by unfold rLend; rw [if_pos hc, ho2]) (by unfold tLend mLend; rw [if_pos hc, if_pos hc, ho2]; exact ⟨⟨h, hX⟩, zfrX_rf⟩) d_X_lend_49
      · have hto := fst_lt ho
        refine lv_astore (lv' := [(4, .ref (tad t)), (3, .ref (qad x_2)), (0, .ref (xa 0)), (1, .int v), (2, .int (nI x_2))]) hx hb d_X_lend_32 hl (by decide) rfl (fun ls hl => ?_)
        refine lv_aload hx hb d_X_lend_34 (zl hl rfl) ?_
        refine lv_ifnull hx hb d_X_lend_36 ?_
        refine lv_aload_n hx hb d_X_lend_39 rfl (zl hl rfl) ?_
        refine lv_iload_n hx hb d_X_lend_40 rfl (zl hl rfl) ?_
        refine z_calli (va_runV (As := [.int v]) (rest := []) ⟨hx, hb, hml, hown, hts⟩ (c_X_lentTo l hP hX v) (cwV 1 hts (tt_V tw_284 tw_281 tw_283 tw_8 tw_30) rfl rfl rfl (by decide +kernel) ⟨Nat.le_of_ble_eq_true rfl, Nat.le_of_ble_eq_true rfl⟩) (zPc_V hKN hP (ci := 3) (q := (R_X, F_X, 5)) rfl (PX_x hX)) rfl rfl hl.1 rfl (lv_room (Nat.le_of_ble_eq_true rfl)) d_X_lend_41 ⟨Nat.zero_le _, Nat.zero_le _⟩) hS (fun locs hS => ?_)
        refine lv_iconst (v := 4) hx hb d_X_lend_44 (by decide) ?_
        refine lv_icmp_lt (tgt := 50) hx hb d_X_lend_45 (by decide) (fun c_7 => ?_) (fun c_7 => ?_)
        · have b4 := (lv4 hl4).mp c_7
          refine lv_aload_n hx hb d_X_lend_50 rfl (zl hl rfl) ?_
          refine lv_dup hx hb d_X_lend_51 rfl ?_
          refine z_get (C := R_X) (T := F_X) (N := 5) (v := .int tok) hx hb hts inT_X hown hK hP (PX_x hX) rfl 4 (by decide) tw_137 (fun _ h => h) rfl d_X_lend_52 ?_
          refine lv_dup_x1 hx hb d_X_lend_55 rfl rfl ?_
          refine lv_iconst (v := 1) hx hb d_X_lend_56 (by decide) ?_
          refine lv_iadd hx hb d_X_lend_57 ?_
          have hD0 := hD
          refine z_put (C := R_X) (T := F_X) (N := 5) (v := .int (tok + 1)) hx hb hts inT_X ft_X ft_X_ok fn_X hown hK hP hD hS (PX_x hX) rfl 4 (by decide) tw_137 (fun _ h => h) rfl rfl rfl (by simp) d_X_lend_58 (fun ws H locs hP hD hS u => ?_)
          have hF := zfrX_up hD0 (PX_x hX) rfl u
          have hX := PX_wx (time' := time) (tok' := tok + 1) hD0 hX u
          refine lv_istore (lv' := [(5, .int tok), (4, .ref (tad t)), (3, .ref (qad x_2)), (0, .ref (xa 0)), (1, .int v), (2, .int (nI x_2))]) hx hb d_X_lend_61 hl (by decide) rfl (fun ls hl => ?_)
          refine lv_aload hx hb d_X_lend_63 (zl hl rfl) ?_
          refine lv_iload_n hx hb d_X_lend_65 rfl (zl hl rfl) ?_
          refine lv_iload hx hb d_X_lend_66 (zl hl rfl) ?_
          refine lv_aload_n hx hb d_X_lend_68 rfl (zl hl rfl) ?_
          refine z_get (C := R_X) (T := F_X) (N := 5) (v := .int time) hx hb hts inT_X hown hK hP (PX_x hX) rfl 3 (by decide) tw_136 (fun _ h => h) rfl d_X_lend_69 ?_
          have hqx : qx f t = x_2 := by
            have z1 := (PX_okq hX t (by omega))
            rw [hto.2.1] at z1
            exact ((nI_eq (by omega) (by omega)).mp z1.1).symm
          have hD0 := hD
          refine z_call (va_runV (As := [.int v, .int tok, .int time]) (rest := []) ⟨hx, hb, hml, hown, hts⟩ (c_T_becomeLent l hP (PX_t hX (k := t) (by omega)) (PX_tg hX (k := t) (by omega)) hD (PX_q hX (PX_okq hX t (by omega)).2) v tok time) (cwV 3 hts (tt_V tw_508 tw_505 tw_506 tw_507 tw_44) rfl rfl rfl (by decide +kernel) ⟨Nat.le_of_ble_eq_true rfl, Nat.le_of_ble_eq_true rfl⟩) (zPc_V hKN hP (ci := 2) (q := (R_T, F_T, 12)) rfl (PX_t hX (k := t) (by omega))) rfl rfl hl.1 rfl (lv_room (Nat.le_of_ble_eq_true rfl)) d_X_lend_72 ⟨Nat.le_of_ble_eq_true rfl, Nat.le_of_ble_eq_true rfl⟩) hS (fun ws H locs hR hP hD hz9 hS => ?_)
          obtain ⟨hz1, hg1, hFr⟩ := hR
          have hXR := PX_task (f' := mLent f time x_2 t v tok) hD0 hX (by omega) hz1 hg1 hFr mLent_6 mLent_5 mLent_c (fun i hi j => mLent_o hi j) ⟨fun h => absurd h (by decide), fun _ => ⟨by rw [mLent_7, hqx], mLent_8.symm, mLent_9.symm⟩, fun h => absurd h (by decide)⟩
          refine lv_iload hx hb d_X_lend_75 (zl hl rfl) ?_
          have ho2 : oLend f time n v (nI x_2) = some t := by unfold oLend; rw [if_neg b4]; exact ho
          exact z_iretR hx hb hr hlocks hP hD hS (by unfold rLend; rw [if_pos hc, ho2]) (by unfold tLend mLend; rw [if_pos hc, if_pos hc, ho2, tx_nI (by omega)]; exact ⟨hXR.1, zfrX_tr hF hXR.2⟩) d_X_lend_77
        · have b4 : nI (cnt (pTo f v) n) = 4 := Decidable.of_not_not (fun z => c_7 ((lv4 hl4).mpr z))
          refine lv_iconst (v := (-1)) hx hb d_X_lend_48 (by decide) ?_
          have ho2 : oLend f time n v (nI x_2) = none := by unfold oLend; first | (rw [if_pos b4]; done) | (rw [ho]; exact ite_self _)
          exact z_iretR hx hb hr hlocks hP hD hS (by unfold rLend; rw [if_pos hc, ho2]) (by unfold tLend mLend; rw [if_pos hc, if_pos hc, ho2]; exact ⟨⟨h, hX⟩, zfrX_rf⟩) d_X_lend_49
    · have b1 := zb_f c_6
      exact absurd hc (by simp [cLend, *])
  · have bq_1 : sWithin q 0 3 = false := by simpa using bq_1
    have hr_5 : qRef qad q = none := by rw [qRef, if_neg (by rw [bq_1]; decide)]
    refine z_callq (va_runV (As := [.int q]) (rest := []) ⟨hx, hb, hml, hown, hts⟩ (c_X_queueAt l hP hX q) (cwV 1 hts (tt_V tw_226 tw_223 tw_225 tw_5 tw_30) rfl rfl rfl (by decide +kernel) ⟨Nat.le_of_ble_eq_true rfl, Nat.le_of_ble_eq_true rfl⟩) (zPc_V hKN hP (ci := 3) (q := (R_X, F_X, 5)) rfl (PX_x hX)) rfl rfl hl.1 rfl (lv_room (Nat.le_of_ble_eq_true rfl)) d_X_lend_2 ⟨Nat.zero_le _, Nat.zero_le _⟩) hS (fun locs hS => ?_)
    rw [hr_5]
    refine lv_astore_nN (lv' := [(3, .null), (0, .ref (xa 0)), (1, .int v), (2, .int q)]) hx hb d_X_lend_5 rfl hl (by decide) rfl (fun ls hl => ?_)
    refine lv_aload_nN hx hb d_X_lend_6 rfl (zl hl rfl) ?_
    refine lv_ifnullN (tgt := 17) hx hb d_X_lend_7 (by decide) ?_
    exact absurd hc (by simp [cLend, *])
set_option maxHeartbeats 4000000 in
set_option maxRecDepth 100000 in
theorem c_X_lend_T (l : Launch) (hl0 : l.stackTraces = false) {D : va_G} {ws : va_W} {H : Heap} (hP : va_P D vwCl ws H) {kk : Nat → ClassId} {xa qad gad tad : Nat → Nat} {e0 : Nat} {time tok : Int32} {n : Nat} {f : FF} {ky : Nat → Int64} {h : FF} {qar gar arr : Nat → Option Nat} {ea cap : Nat} {md : Int32} (hX : PX kk xa qad gad tad e0 time tok n f ky h qar gar arr ea cap md ws) {B : Nat} (v q : Int32) (hc : cLend v q = false) : zMT l y_X_lend (Cond.code y_X_lend b_X_lend 6 (some .int) :: TT) ({ frames := 6, cells := 1, slots := 6, locals := 240 }) (zPx [.ref (xa 0), .int v, .int q] H D vwCl (TY kk) B) "java/lang/IllegalArgumentException" 1 6 := by
  refine z_bodyT (by decide) (Nat.le_of_ble_eq_true rfl) ?_
  intro p e s m below meth c ls C0 htab hH hKN hT hSt hl
  obtain ⟨hx, hb, hr, hts, hown, hlocks, hml⟩ := C0
  subst hH
  have hK := hKN.1
  have hN := hKN.2
  have hn := PX_n hX
  have hl : lv_has ls 6 [(0, .ref (xa 0)), (1, .int v), (2, .int q)] := hl
  refine lv_aload_n hx hb d_X_lend_0 rfl (zl hl rfl) ?_
  refine lv_iload_n hx hb d_X_lend_1 rfl (zl hl rfl) ?_
  by_cases bq_1 : sWithin q 0 3 = true
  · obtain ⟨x_2, hx_3, rfl⟩ := sWithin_nI (h := 3) (by decide) bq_1
    have ht_4 : tx (nI x_2) = x_2 := tx_nI (by omega)
    have hr_5 : qRef qad (nI x_2) = some (qad x_2) := by rw [qRef, if_pos bq_1, ht_4]
    refine z_callqK (va_runV (As := [.int (nI x_2)]) (rest := []) ⟨hx, hb, hml, hown, hts⟩ (c_X_queueAt l hP hX (nI x_2)) (cwV 1 hts (tt_V tw_226 tw_223 tw_225 tw_5 tw_30) rfl rfl rfl (by decide +kernel) ⟨Nat.le_of_ble_eq_true rfl, Nat.le_of_ble_eq_true rfl⟩) (zPc_V hKN hP (ci := 3) (q := (R_X, F_X, 5)) rfl (PX_x hX)) rfl rfl hl.1 rfl (lv_room (Nat.le_of_ble_eq_true rfl)) d_X_lend_2 ⟨Nat.zero_le _, Nat.zero_le _⟩) ?_
    rw [hr_5]
    refine lv_astore_n (lv' := [(3, .ref (qad x_2)), (0, .ref (xa 0)), (1, .int v), (2, .int (nI x_2))]) hx hb d_X_lend_5 rfl hl (by decide) rfl (fun ls hl => ?_)
    refine lv_aload_n hx hb d_X_lend_6 rfl (zl hl rfl) ?_
    refine lv_ifnull hx hb d_X_lend_7 ?_
    refine lv_iload_n hx hb d_X_lend_10 rfl (zl hl rfl) ?_
    refine z_calliK (va_runS (As := [.int v]) (rest := []) ⟨hx, hb, hml, hown, hts⟩ (c_X_isWorker l hP v) (va_cwS 1 hts (tt_S tw_280 tw_278 tw_279 tw_30) rfl rfl rfl (by decide +kernel) ⟨Nat.le_of_ble_eq_true rfl, Nat.le_of_ble_eq_true rfl⟩) (zPc_S hKN) rfl rfl hl.1 rfl (lv_room (Nat.le_of_ble_eq_true rfl)) d_X_lend_11 ⟨Nat.zero_le _, Nat.zero_le _⟩) ?_
    refine lv_if_ne (tgt := 27) hx hb d_X_lend_14 (by decide) (fun c_6 => ?_) (fun c_6 => ?_)
    · have b1 := zb_t c_6
      exact absurd hc (by simp [cLend, *])
    · have b1 := zb_f c_6
      exact zx_throw (own := "LoanRounds") (E := "java/lang/IllegalArgumentException") (text := "no such queue or worker") hx hb hl0 Bundle.six_0 Bundle.six_1 Bundle.six_2 Bundle.six_5 hts hown (by decide) tw_298 tw_40 ow_IAE hT (hSt (87, "no such queue or worker") (by simp [strL])) (hl.1.trans hml.symm) d_X_lend_17 d_X_lend_20 d_X_lend_21 d_X_lend_23 d_X_lend_26 htab (Nat.le_of_ble_eq_true rfl) (Nat.le_of_ble_eq_true rfl) (Nat.le_of_ble_eq_true rfl) (Nat.le_of_ble_eq_true rfl) hlocks (by decide) (by decide)
  · have bq_1 : sWithin q 0 3 = false := by simpa using bq_1
    have hr_5 : qRef qad q = none := by rw [qRef, if_neg (by rw [bq_1]; decide)]
    refine z_callqK (va_runV (As := [.int q]) (rest := []) ⟨hx, hb, hml, hown, hts⟩ (c_X_queueAt l hP hX q) (cwV 1 hts (tt_V tw_226 tw_223 tw_225 tw_5 tw_30) rfl rfl rfl (by decide +kernel) ⟨Nat.le_of_ble_eq_true rfl, Nat.le_of_ble_eq_true rfl⟩) (zPc_V hKN hP (ci := 3) (q := (R_X, F_X, 5)) rfl (PX_x hX)) rfl rfl hl.1 rfl (lv_room (Nat.le_of_ble_eq_true rfl)) d_X_lend_2 ⟨Nat.zero_le _, Nat.zero_le _⟩) ?_
    rw [hr_5]
    refine lv_astore_nN (lv' := [(3, .null), (0, .ref (xa 0)), (1, .int v), (2, .int q)]) hx hb d_X_lend_5 rfl hl (by decide) rfl (fun ls hl => ?_)
    refine lv_aload_nN hx hb d_X_lend_6 rfl (zl hl rfl) ?_
    refine lv_ifnullN (tgt := 17) hx hb d_X_lend_7 (by decide) ?_
    exact zx_throw (own := "LoanRounds") (E := "java/lang/IllegalArgumentException") (text := "no such queue or worker") hx hb hl0 Bundle.six_0 Bundle.six_1 Bundle.six_2 Bundle.six_5 hts hown (by decide) tw_298 tw_40 ow_IAE hT (hSt (87, "no such queue or worker") (by simp [strL])) (hl.1.trans hml.symm) d_X_lend_17 d_X_lend_20 d_X_lend_21 d_X_lend_23 d_X_lend_26 htab (Nat.le_of_ble_eq_true rfl) (Nat.le_of_ble_eq_true rfl) (Nat.le_of_ble_eq_true rfl) (Nat.le_of_ble_eq_true rfl) hlocks (by decide) (by decide)
set_option maxHeartbeats 4000000 in
set_option maxRecDepth 100000 in
theorem c_X_end (l : Launch) {D : va_G} {ws : va_W} {H : Heap} (hP : va_P D vwCl ws H) {kk : Nat → ClassId} {xa qad gad tad : Nat → Nat} {e0 : Nat} {time tok : Int32} {n : Nat} {f : FF} {ky : Nat → Int64} {h : FF} {qar gar arr : Nat → Option Nat} {ea cap : Nat} {md : Int32} (hX : PX kk xa qad gad tad e0 time tok n f ky h qar gar arr ea cap md ws) {B : Nat} (hD : va_D (fun q => B ≤ q) ws) (v how : Int32) (hc : xEnd f n v how = 0) (hA : okA f n) (hT : okT f) : Met l y_X_end (Cond.code y_X_end b_X_end 4 (some .int) :: TT) ({ frames := 5, cells := 0, slots := 0, locals := 200 }) (zPc [.ref (xa 0), .int v, .int how] H D vwCl (TY kk)) (zR D vwCl B (some (.int (rEnd f n v how))) (fun ws' => XR kk xa qad gad tad e0 time tok n (mEnd f time n v how) ky qar gar arr ea cap md ws ws')) 0 0 (fun q => B ≤ q) := by
  refine z_body (by decide) (Nat.le_of_ble_eq_true rfl) ?_
  intro p e s m below meth c ls C0 hH hKN hl
  obtain ⟨hx, hb, hr, hts, hown, hlocks, hml⟩ := C0
  subst hH
  have hK := hKN.1
  have hN := hKN.2
  have hS : va_S (fun q => B ≤ q) s.heap s.heap [] := va_S.rf
  have hn := PX_n hX
  have hl : lv_has ls 4 [(0, .ref (xa 0)), (1, .int v), (2, .int how)] := hl
  refine lv_aload_n hx hb d_X_end_0 rfl (zl hl rfl) ?_
  refine lv_iload_n hx hb d_X_end_1 rfl (zl hl rfl) ?_
  refine z_callq (va_runV (As := [.int v]) (rest := []) ⟨hx, hb, hml, hown, hts⟩ (c_X_lentWith l hP hX v) (cwV 1 hts (tt_V tw_156 tw_153 tw_155 tw_0 tw_30) rfl rfl rfl (by decide +kernel) ⟨Nat.le_of_ble_eq_true rfl, Nat.le_of_ble_eq_true rfl⟩) (zPc_V hKN hP (ci := 3) (q := (R_X, F_X, 5)) rfl (PX_x hX)) rfl rfl hl.1 rfl (lv_room (Nat.le_of_ble_eq_true rfl)) d_X_end_2 ⟨Nat.zero_le _, Nat.zero_le _⟩) hS (fun locs hS => ?_)
  rcases ho : fnd (pTok f v) 0 n with _ | t
  · have hm1 : True := trivial
    refine lv_astore_nN (lv' := [(3, .null), (0, .ref (xa 0)), (1, .int v), (2, .int how)]) hx hb d_X_end_5 rfl hl (by decide) rfl (fun ls hl => ?_)
    refine lv_aload_nN hx hb d_X_end_6 rfl (zl hl rfl) ?_
    refine lv_ifnonnullN hx hb d_X_end_7 ?_
    exact absurd hc (by unfold xEnd; rw [ho]; show ¬ (1 : Int32) = 0; decide)
  · have hto := fnd_some ho
    refine lv_astore_n (lv' := [(3, .ref (tad t)), (0, .ref (xa 0)), (1, .int v), (2, .int how)]) hx hb d_X_end_5 rfl hl (by decide) rfl (fun ls hl => ?_)
    refine lv_aload_n hx hb d_X_end_6 rfl (zl hl rfl) ?_
    refine lv_ifnonnull (tgt := 20) hx hb d_X_end_7 (by decide) ?_
    refine lv_iload_n hx hb d_X_end_20 rfl (zl hl rfl) ?_
    rcases z_sw how 2 (by decide) with d_1 | ⟨k9, hk9, hkk⟩
    · have n_2 : ¬ how = 0 := fun h => absurd (h ▸ d_1) (by decide)
      have n_3 : ¬ how = 1 := fun h => absurd (h ▸ d_1) (by decide)
      have n_4 : ¬ how = 2 := fun h => absurd (h ▸ d_1) (by decide)
      have b9 := sw_out (h := 2) (by decide) d_1
      refine lv_tableOut (tgt := 91) hx hb d_X_end_21 d_1 (by decide) ?_
      exact absurd hc (by unfold xEnd; rw [ho]; show ¬ (if sWithin how 0 2 = true then (0 : Int32) else 2) = 0; rw [show sWithin how 0 2 = false from b9]; decide)
    · obtain rfl | rfl | rfl : k9 = 0 ∨ k9 = 1 ∨ k9 = 2 := by omega
      · have e9 : how = 0 := hkk
        clear hkk
        subst e9
        refine lv_tableIn (tgt := 48) hx hb d_X_end_21 (by decide) (by decide) rfl (by decide) ?_
        have hto1 : f 6 t = 1 := by have := hto.2.2; simp only [pTok, Bool.and_eq_true, decide_eq_true_eq] at this; exact this.1
        refine lv_aload_n hx hb d_X_end_48 rfl (zl hl rfl) ?_
        refine lv_aload_n hx hb d_X_end_49 rfl (zl hl rfl) ?_
        refine z_get (C := R_X) (T := F_X) (N := 5) (v := .int time) hx hb hts inT_X hown hK hP (PX_x hX) rfl 3 (by decide) tw_136 (fun _ h => h) rfl d_X_end_50 ?_
        have hD0 := hD
        refine z_call (va_runV (As := [.int time]) (rest := []) ⟨hx, hb, hml, hown, hts⟩ (c_T_becomeDone l hP (PX_t hX (k := t) (by omega)) (PX_tg hX (k := t) (by omega)) hD time) (cwV 1 hts (tt_V tw_536 tw_533 tw_534 tw_535 tw_44) rfl rfl rfl (by decide +kernel) ⟨Nat.le_of_ble_eq_true rfl, Nat.le_of_ble_eq_true rfl⟩) (zPc_V hKN hP (ci := 2) (q := (R_T, F_T, 12)) rfl (PX_t hX (k := t) (by omega))) rfl rfl hl.1 rfl (lv_room (Nat.le_of_ble_eq_true rfl)) d_X_end_53 ⟨Nat.le_of_ble_eq_true rfl, Nat.le_of_ble_eq_true rfl⟩) hS (fun ws H locs hR hP hD hz9 hS => ?_)
        obtain ⟨hz1, hg1, hFr⟩ := hR
        have hXR := PX_task (f' := mEnd1 f time 0 t) hD0 hX (by omega) hz1 hg1 hFr me0_6 me0_5 me0_c (fun i hi j => me0_o hi j) ⟨fun h => absurd h (by decide), fun h => absurd h (by decide), fun _ => me0_7.symm⟩
        refine lv_goto (tgt := 101) hx hb d_X_end_56 (by decide) ?_
        refine lv_aload_n hx hb d_X_end_101 rfl (zl hl rfl) ?_
        obtain ⟨⟨h9, hX9⟩, hF9⟩ := hXR
        refine z_get (C := R_T) (T := F_T) (N := 12) (v := .int (nI t)) hx hb hts inT_T hown hK hP (PX_t hX9 (k := t) (by omega)) rfl 0 (by decide) tw_398 (fun _ h => h) rfl d_X_end_102 ?_
        exact z_iretR hx hb hr hlocks hP hD hS (by unfold rEnd; rw [ho]; rfl) (by unfold mEnd; rw [ho]; exact ⟨⟨h9, hX9⟩, hF9⟩) d_X_end_105
      · have e9 : how = 1 := hkk
        clear hkk
        subst e9
        refine lv_tableIn (tgt := 59) hx hb d_X_end_21 (by decide) (by decide) rfl (by decide) ?_
        have hto1 : f 6 t = 1 := by have := hto.2.2; simp only [pTok, Bool.and_eq_true, decide_eq_true_eq] at this; exact this.1
        refine lv_aload_n hx hb d_X_end_59 rfl (zl hl rfl) ?_
        refine lv_aload_n hx hb d_X_end_60 rfl (zl hl rfl) ?_
        refine z_get (C := R_X) (T := F_X) (N := 5) (v := .int time) hx hb hts inT_X hown hK hP (PX_x hX) rfl 3 (by decide) tw_136 (fun _ h => h) rfl d_X_end_61 ?_
        obtain ⟨tr, q1, q2, q3⟩ := hA.2 t (by omega) hto1
        have hD0 := hD
        refine z_call (va_runV (As := [.int time]) (rest := []) ⟨hx, hb, hml, hown, hts⟩ (c_T_tryAgain l hP (PX_t hX (k := t) (by omega)) (PX_tg hX (k := t) (by omega)) hD (PX_q hX (PX_okq hX t (by omega)).2) time) (cwV 1 hts (tt_V tw_540 tw_537 tw_538 tw_539 tw_44) rfl rfl rfl (by decide +kernel) ⟨Nat.le_of_ble_eq_true rfl, Nat.le_of_ble_eq_true rfl⟩) (zPc_V hKN hP (ci := 2) (q := (R_T, F_T, 12)) rfl (PX_t hX (k := t) (by omega))) rfl rfl hl.1 rfl (lv_room (Nat.le_of_ble_eq_true rfl)) d_X_end_64 ⟨Nat.le_of_ble_eq_true rfl, Nat.le_of_ble_eq_true rfl⟩) hS (fun ws H locs hR hP hD hz9 hS => ?_)
        obtain ⟨hz1, hg1, hFr⟩ := hR
        have hXR := PX_task (f' := mAgain f time t) hD0 hX (by omega) hz1 hg1 hFr mAgain_x6 (by rw [mAgain_c 5 (by decide) (by decide)]) (fun j h5 h6 h7 h8 h9 => mAgain_c j h6 h7) (fun i hi j => mAgain_o hi j) (again_rel hT (PX_okq hX t (by omega)).2 q3 q1 q2)
        refine lv_goto (tgt := 101) hx hb d_X_end_67 (by decide) ?_
        refine lv_aload_n hx hb d_X_end_101 rfl (zl hl rfl) ?_
        obtain ⟨⟨h9, hX9⟩, hF9⟩ := hXR
        refine z_get (C := R_T) (T := F_T) (N := 12) (v := .int (nI t)) hx hb hts inT_T hown hK hP (PX_t hX9 (k := t) (by omega)) rfl 0 (by decide) tw_398 (fun _ h => h) rfl d_X_end_102 ?_
        exact z_iretR hx hb hr hlocks hP hD hS (by unfold rEnd; rw [ho]; rfl) (by unfold mEnd; rw [ho]; exact ⟨⟨h9, hX9⟩, hF9⟩) d_X_end_105
      · have e9 : how = 2 := hkk
        clear hkk
        subst e9
        refine lv_tableIn (tgt := 70) hx hb d_X_end_21 (by decide) (by decide) rfl (by decide) ?_
        have hto1 : f 6 t = 1 := by have := hto.2.2; simp only [pTok, Bool.and_eq_true, decide_eq_true_eq] at this; exact this.1
        refine lv_aload_n hx hb d_X_end_70 rfl (zl hl rfl) ?_
        refine lv_aload_n hx hb d_X_end_71 rfl (zl hl rfl) ?_
        refine z_get (C := R_X) (T := F_X) (N := 5) (v := .int time) hx hb hts inT_X hown hK hP (PX_x hX) rfl 3 (by decide) tw_136 (fun _ h => h) rfl d_X_end_72 ?_
        have hD0 := hD
        refine z_call (va_runV (As := [.int time]) (rest := []) ⟨hx, hb, hml, hown, hts⟩ (c_T_becomeWaiting l hP (PX_t hX (k := t) (by omega)) (PX_tg hX (k := t) (by omega)) hD time) (cwV 1 hts (tt_V tw_210 tw_207 tw_208 tw_209 tw_44) rfl rfl rfl (by decide +kernel) ⟨Nat.le_of_ble_eq_true rfl, Nat.le_of_ble_eq_true rfl⟩) (zPc_V hKN hP (ci := 2) (q := (R_T, F_T, 12)) rfl (PX_t hX (k := t) (by omega))) rfl rfl hl.1 rfl (lv_room (Nat.le_of_ble_eq_true rfl)) d_X_end_75 ⟨Nat.le_of_ble_eq_true rfl, Nat.le_of_ble_eq_true rfl⟩) hS (fun ws H locs hR hP hD hz9 hS => ?_)
        obtain ⟨hz1, hg1, hFr⟩ := hR
        refine lv_aload_n hx hb d_X_end_78 rfl (zl hl rfl) ?_
        refine lv_dup hx hb d_X_end_79 rfl ?_
        refine z_get (C := R_T) (T := F_T) (N := 12) (v := .int (f 5 t)) hx hb hts inT_T hown hK hP hz1 rfl 6 (by decide) tw_408 (fun _ h => h) rfl d_X_end_80 ?_
        refine lv_iconst (v := 1) hx hb d_X_end_83 (by decide) ?_
        refine lv_isub hx hb d_X_end_84 ?_
        have hD1 := hD
        refine z_put (C := R_T) (T := F_T) (N := 12) (v := .int ((f 5 t) - 1)) hx hb hts inT_T ft_T ft_T_ok fn_T hown hK hP hD hS hz1 rfl 6 (by decide) tw_408 (fun _ h => h) rfl rfl rfl (by simp) d_X_end_85 (fun ws H locs hP hD hS u => ?_)
        have hz1b := hz1
        have hg1 := fun g (hg : gref f gad t = some g) => u.2 _ _ (zin_ne hD1 (hg1 g hg) hz1b (by intro h; cases h)) (hg1 g hg)
        have hFr := zfrT_a hFr u
        have hXR := PX_task (f' := mEnd1 f time 2 t) (v6 := 0) (v5 := f 5 t - 1) (u0 := time) (u1 := h 1 t) (u2 := h 2 t) (u3 := h 3 t) (u4 := h 4 t) hD0 hX (by omega) u.1 hg1 hFr me2_6 me2_5 me2_c (fun i hi j => me2_o hi j) ⟨fun _ => me2_7.symm, fun h => absurd h (by decide), fun h => absurd h (by decide)⟩
        refine lv_goto (tgt := 101) hx hb d_X_end_88 (by decide) ?_
        refine lv_aload_n hx hb d_X_end_101 rfl (zl hl rfl) ?_
        obtain ⟨⟨h9, hX9⟩, hF9⟩ := hXR
        refine z_get (C := R_T) (T := F_T) (N := 12) (v := .int (nI t)) hx hb hts inT_T hown hK hP (PX_t hX9 (k := t) (by omega)) rfl 0 (by decide) tw_398 (fun _ h => h) rfl d_X_end_102 ?_
        exact z_iretR hx hb hr hlocks hP hD hS (by unfold rEnd; rw [ho]; rfl) (by unfold mEnd; rw [ho]; exact ⟨⟨h9, hX9⟩, hF9⟩) d_X_end_105
set_option maxHeartbeats 4000000 in
set_option maxRecDepth 100000 in
theorem c_X_end_T1 (l : Launch) (hl0 : l.stackTraces = false) {D : va_G} {ws : va_W} {H : Heap} (hP : va_P D vwCl ws H) {kk : Nat → ClassId} {xa qad gad tad : Nat → Nat} {e0 : Nat} {time tok : Int32} {n : Nat} {f : FF} {ky : Nat → Int64} {h : FF} {qar gar arr : Nat → Option Nat} {ea cap : Nat} {md : Int32} (hX : PX kk xa qad gad tad e0 time tok n f ky h qar gar arr ea cap md ws) {B : Nat} (v how : Int32) (hc : xEnd f n v how = 1) : zMT l y_X_end (Cond.code y_X_end b_X_end 4 (some .int) :: TT) ({ frames := 6, cells := 1, slots := 6, locals := 240 }) (zPx [.ref (xa 0), .int v, .int how] H D vwCl (TY kk) B) "java/util/NoSuchElementException" 1 6 := by
  refine z_bodyT (by decide) (Nat.le_of_ble_eq_true rfl) ?_
  intro p e s m below meth c ls C0 htab hH hKN hT hSt hl
  obtain ⟨hx, hb, hr, hts, hown, hlocks, hml⟩ := C0
  subst hH
  have hK := hKN.1
  have hN := hKN.2
  have hn := PX_n hX
  have hl : lv_has ls 4 [(0, .ref (xa 0)), (1, .int v), (2, .int how)] := hl
  refine lv_aload_n hx hb d_X_end_0 rfl (zl hl rfl) ?_
  refine lv_iload_n hx hb d_X_end_1 rfl (zl hl rfl) ?_
  refine z_callqK (va_runV (As := [.int v]) (rest := []) ⟨hx, hb, hml, hown, hts⟩ (c_X_lentWith l hP hX v) (cwV 1 hts (tt_V tw_156 tw_153 tw_155 tw_0 tw_30) rfl rfl rfl (by decide +kernel) ⟨Nat.le_of_ble_eq_true rfl, Nat.le_of_ble_eq_true rfl⟩) (zPc_V hKN hP (ci := 3) (q := (R_X, F_X, 5)) rfl (PX_x hX)) rfl rfl hl.1 rfl (lv_room (Nat.le_of_ble_eq_true rfl)) d_X_end_2 ⟨Nat.zero_le _, Nat.zero_le _⟩) ?_
  rcases ho : fnd (pTok f v) 0 n with _ | t
  · have hm1 : True := trivial
    refine lv_astore_nN (lv' := [(3, .null), (0, .ref (xa 0)), (1, .int v), (2, .int how)]) hx hb d_X_end_5 rfl hl (by decide) rfl (fun ls hl => ?_)
    refine lv_aload_nN hx hb d_X_end_6 rfl (zl hl rfl) ?_
    refine lv_ifnonnullN hx hb d_X_end_7 ?_
    exact zx_throw (own := "LoanRounds") (E := "java/util/NoSuchElementException") (text := "nothing is lent with this token") hx hb hl0 b13_0 b13_1 b13_2 b13_5 hts hown (by decide) tw_517 tw_49 ow_NSE hT (hSt (117, "nothing is lent with this token") (by simp [strL])) (hl.1.trans hml.symm) d_X_end_10 d_X_end_13 d_X_end_14 d_X_end_16 d_X_end_19 htab (Nat.le_of_ble_eq_true rfl) (Nat.le_of_ble_eq_true rfl) (Nat.le_of_ble_eq_true rfl) (Nat.le_of_ble_eq_true rfl) hlocks (by decide) (by decide)
  · have hto := fnd_some ho
    refine lv_astore_n (lv' := [(3, .ref (tad t)), (0, .ref (xa 0)), (1, .int v), (2, .int how)]) hx hb d_X_end_5 rfl hl (by decide) rfl (fun ls hl => ?_)
    refine lv_aload_n hx hb d_X_end_6 rfl (zl hl rfl) ?_
    refine lv_ifnonnull (tgt := 20) hx hb d_X_end_7 (by decide) ?_
    exact absurd hc (by unfold xEnd; rw [ho]; show ¬ (if sWithin how 0 2 = true then (0 : Int32) else 2) = 1; split <;> decide)
set_option maxHeartbeats 4000000 in
set_option maxRecDepth 100000 in
theorem c_X_end_T2 (l : Launch) (hl0 : l.stackTraces = false) {D : va_G} {ws : va_W} {H : Heap} (hP : va_P D vwCl ws H) {kk : Nat → ClassId} {xa qad gad tad : Nat → Nat} {e0 : Nat} {time tok : Int32} {n : Nat} {f : FF} {ky : Nat → Int64} {h : FF} {qar gar arr : Nat → Option Nat} {ea cap : Nat} {md : Int32} (hX : PX kk xa qad gad tad e0 time tok n f ky h qar gar arr ea cap md ws) {B : Nat} (v how : Int32) (hc : xEnd f n v how = 2) : zMT l y_X_end (Cond.code y_X_end b_X_end 4 (some .int) :: TT) ({ frames := 6, cells := 1, slots := 6, locals := 240 }) (zPx [.ref (xa 0), .int v, .int how] H D vwCl (TY kk) B) "java/lang/IllegalArgumentException" 1 6 := by
  refine z_bodyT (by decide) (Nat.le_of_ble_eq_true rfl) ?_
  intro p e s m below meth c ls C0 htab hH hKN hT hSt hl
  obtain ⟨hx, hb, hr, hts, hown, hlocks, hml⟩ := C0
  subst hH
  have hK := hKN.1
  have hN := hKN.2
  have hn := PX_n hX
  have hl : lv_has ls 4 [(0, .ref (xa 0)), (1, .int v), (2, .int how)] := hl
  refine lv_aload_n hx hb d_X_end_0 rfl (zl hl rfl) ?_
  refine lv_iload_n hx hb d_X_end_1 rfl (zl hl rfl) ?_
  refine z_callqK (va_runV (As := [.int v]) (rest := []) ⟨hx, hb, hml, hown, hts⟩ (c_X_lentWith l hP hX v) (cwV 1 hts (tt_V tw_156 tw_153 tw_155 tw_0 tw_30) rfl rfl rfl (by decide +kernel) ⟨Nat.le_of_ble_eq_true rfl, Nat.le_of_ble_eq_true rfl⟩) (zPc_V hKN hP (ci := 3) (q := (R_X, F_X, 5)) rfl (PX_x hX)) rfl rfl hl.1 rfl (lv_room (Nat.le_of_ble_eq_true rfl)) d_X_end_2 ⟨Nat.zero_le _, Nat.zero_le _⟩) ?_
  rcases ho : fnd (pTok f v) 0 n with _ | t
  · have hm1 : True := trivial
    refine lv_astore_nN (lv' := [(3, .null), (0, .ref (xa 0)), (1, .int v), (2, .int how)]) hx hb d_X_end_5 rfl hl (by decide) rfl (fun ls hl => ?_)
    refine lv_aload_nN hx hb d_X_end_6 rfl (zl hl rfl) ?_
    refine lv_ifnonnullN hx hb d_X_end_7 ?_
    exact absurd hc (by unfold xEnd; rw [ho]; show ¬ (1 : Int32) = 2; decide)
  · have hto := fnd_some ho
    refine lv_astore_n (lv' := [(3, .ref (tad t)), (0, .ref (xa 0)), (1, .int v), (2, .int how)]) hx hb d_X_end_5 rfl hl (by decide) rfl (fun ls hl => ?_)
    refine lv_aload_n hx hb d_X_end_6 rfl (zl hl rfl) ?_
    refine lv_ifnonnull (tgt := 20) hx hb d_X_end_7 (by decide) ?_
    refine lv_iload_n hx hb d_X_end_20 rfl (zl hl rfl) ?_
    rcases z_sw how 2 (by decide) with d_1 | ⟨k9, hk9, hkk⟩
    · have n_2 : ¬ how = 0 := fun h => absurd (h ▸ d_1) (by decide)
      have n_3 : ¬ how = 1 := fun h => absurd (h ▸ d_1) (by decide)
      have n_4 : ¬ how = 2 := fun h => absurd (h ▸ d_1) (by decide)
      have b9 := sw_out (h := 2) (by decide) d_1
      refine lv_tableOut (tgt := 91) hx hb d_X_end_21 d_1 (by decide) ?_
      exact zx_throw (own := "LoanRounds") (E := "java/lang/IllegalArgumentException") (text := "no such how") hx hb hl0 Bundle.six_0 Bundle.six_1 Bundle.six_2 Bundle.six_5 hts hown (by decide) tw_298 tw_40 ow_IAE hT (hSt (133, "no such how") (by simp [strL])) (hl.1.trans hml.symm) d_X_end_91 d_X_end_94 d_X_end_95 d_X_end_97 d_X_end_100 htab (Nat.le_of_ble_eq_true rfl) (Nat.le_of_ble_eq_true rfl) (Nat.le_of_ble_eq_true rfl) (Nat.le_of_ble_eq_true rfl) hlocks (by decide) (by decide)
    · obtain rfl | rfl | rfl : k9 = 0 ∨ k9 = 1 ∨ k9 = 2 := by omega
      · have e9 : how = 0 := hkk
        clear hkk
        subst e9
        refine lv_tableIn (tgt := 48) hx hb d_X_end_21 (by decide) (by decide) rfl (by decide) ?_
        exact absurd hc (by unfold xEnd; rw [ho]; show ¬ (0 : Int32) = 2; decide)
      · have e9 : how = 1 := hkk
        clear hkk
        subst e9
        refine lv_tableIn (tgt := 59) hx hb d_X_end_21 (by decide) (by decide) rfl (by decide) ?_
        exact absurd hc (by unfold xEnd; rw [ho]; show ¬ (0 : Int32) = 2; decide)
      · have e9 : how = 2 := hkk
        clear hkk
        subst e9
        refine lv_tableIn (tgt := 70) hx hb d_X_end_21 (by decide) (by decide) rfl (by decide) ?_
        exact absurd hc (by unfold xEnd; rw [ho]; show ¬ (0 : Int32) = 2; decide)
