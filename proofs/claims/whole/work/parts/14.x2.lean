def gref (f : FF) (gad : Nat → Nat) (k : Nat) : Option Nat := if f 3 k = -1 then none else some (gad (gx f k))
def tcl (qad gad : Nat → Nat) (f : FF) (ky : Nat → Int64) (h : FF) (k : Nat) : va_E := .inr (2, [.int (nI k), .ref (qad (qx f k)), .int (f 2 k), va_rf (gref f gad k), .long (ky k), .int (f 6 k), .int (f 5 k), .int (h 0 k), .int (h 1 k), .int (h 2 k), .int (h 3 k), .int (h 4 k)])
def qcl (f : FF) (i : Nat) : va_E := .inr (1, [.int (f 10 (6 * i)), .int (f 10 (6 * i + 1)), .int (f 10 (6 * i + 2)), .int (f 10 (6 * i + 3)), .int (f 10 (6 * i + 4)), .int (f 10 (6 * i + 5))])
def gcl (f : FF) (n i : Nat) : va_E := .inr (0, [.int (f 11 i), .int (nI (cnt (pLent f (nI i)) n))])
def rel (f h : FF) (n : Nat) : Prop := ∀ k, k < n → (f 6 k = 0 → h 0 k = f 7 k) ∧ (f 6 k = 1 → h 1 k = f 7 k ∧ h 2 k = f 8 k ∧ h 3 k = f 9 k) ∧ (f 6 k = 2 → h 4 k = f 7 k)
def PX (kk : Nat → ClassId) (xa qad gad tad : Nat → Nat) (e0 : Nat) (time tok : Int32) (n : Nat) (f : FF) (ky : Nat → Int64) (h : FF) (qar gar arr : Nat → Option Nat) (ea cap : Nat) (md : Int32) (ws : va_W) : Prop :=
  zin ws (xa 0) (.inr (3, [.ref (xa 1), .ref (xa 2), .ref (xa 3), .int time, .int tok])) ∧ zin ws (xa 1) (.inl (kk 2, 4, .inr (.inr (.inr (.inr qar))))) ∧ zin ws (xa 2) (.inl (kk 3, 8, .inr (.inr (.inr (.inr gar))))) ∧ zin ws (xa 3) (.inr (5, [.ref ea, .int (nI n), .int md])) ∧
  ((n = 0 ∧ ea = e0) ∨ (zin ws ea (.inl (kk 4, cap, .inr (.inr (.inr (.inr arr))))) ∧ n ≤ cap ∧ 10 ≤ cap ∧ cap < 1000)) ∧ (∀ i, i < 4 → qar i = some (qad i) ∧ zin ws (qad i) (qcl f i)) ∧ (∀ i, i < 8 → gar i = some (gad i) ∧ zin ws (gad i) (gcl f n i)) ∧
  (∀ k, k < n → arr k = some (tad k) ∧ zin ws (tad k) (tcl qad gad f ky h k)) ∧ okq f n ∧ okg f n ∧ rel f h n ∧ (∀ i j, i < 4 → j < 4 → qad i = qad j → i = j) ∧ (∀ i j, i < 8 → j < 8 → gad i = gad j → i = j) ∧ n ≤ 400
section PXS
variable {kk : Nat → ClassId} {xa qad gad tad : Nat → Nat} {e0 : Nat} {time tok : Int32} {n : Nat} {f : FF} {ky : Nat → Int64} {h : FF} {qar gar arr : Nat → Option Nat} {ea cap : Nat} {md : Int32} {ws : va_W}
theorem PX_x (hX : PX kk xa qad gad tad e0 time tok n f ky h qar gar arr ea cap md ws) : zin ws (xa 0) (.inr (3, [.ref (xa 1), .ref (xa 2), .ref (xa 3), .int time, .int tok])) := hX.1
theorem PX_qa (hX : PX kk xa qad gad tad e0 time tok n f ky h qar gar arr ea cap md ws) : zin ws (xa 1) (.inl (kk 2, 4, .inr (.inr (.inr (.inr qar))))) := hX.2.1
theorem PX_ga (hX : PX kk xa qad gad tad e0 time tok n f ky h qar gar arr ea cap md ws) : zin ws (xa 2) (.inl (kk 3, 8, .inr (.inr (.inr (.inr gar))))) := hX.2.2.1
theorem PX_l (hX : PX kk xa qad gad tad e0 time tok n f ky h qar gar arr ea cap md ws) : zin ws (xa 3) (.inr (5, [.ref ea, .int (nI n), .int md])) := hX.2.2.2.1
theorem PX_e (hX : PX kk xa qad gad tad e0 time tok n f ky h qar gar arr ea cap md ws) {i : Nat} (hi : i < n) : zin ws ea (.inl (kk 4, cap, .inr (.inr (.inr (.inr arr))))) ∧ n ≤ cap ∧ 10 ≤ cap ∧ cap < 1000 := by
  rcases hX.2.2.2.2.1 with z | z
  · omega
  · exact z
theorem PX_q (hX : PX kk xa qad gad tad e0 time tok n f ky h qar gar arr ea cap md ws) {i : Nat} (hi : i < 4) : zin ws (qad i) (.inr (1, [.int (f 10 (6 * i)), .int (f 10 (6 * i + 1)), .int (f 10 (6 * i + 2)), .int (f 10 (6 * i + 3)), .int (f 10 (6 * i + 4)), .int (f 10 (6 * i + 5))])) := (hX.2.2.2.2.2.1 i hi).2
theorem PX_qr (hX : PX kk xa qad gad tad e0 time tok n f ky h qar gar arr ea cap md ws) {i : Nat} (hi : i < 4) : qar i = some (qad i) := (hX.2.2.2.2.2.1 i hi).1
theorem PX_g (hX : PX kk xa qad gad tad e0 time tok n f ky h qar gar arr ea cap md ws) {i : Nat} (hi : i < 8) : zin ws (gad i) (.inr (0, [.int (f 11 i), .int (nI (cnt (pLent f (nI i)) n))])) := (hX.2.2.2.2.2.2.1 i hi).2
theorem PX_gr (hX : PX kk xa qad gad tad e0 time tok n f ky h qar gar arr ea cap md ws) {i : Nat} (hi : i < 8) : gar i = some (gad i) := (hX.2.2.2.2.2.2.1 i hi).1
theorem PX_t (hX : PX kk xa qad gad tad e0 time tok n f ky h qar gar arr ea cap md ws) {k : Nat} (hk : k < n) : zin ws (tad k) (.inr (2, [.int (nI k), .ref (qad (qx f k)), .int (f 2 k), va_rf (gref f gad k), .long (ky k), .int (f 6 k), .int (f 5 k), .int (h 0 k), .int (h 1 k), .int (h 2 k), .int (h 3 k), .int (h 4 k)])) := (hX.2.2.2.2.2.2.2.1 k hk).2
theorem PX_tq (hX : PX kk xa qad gad tad e0 time tok n f ky h qar gar arr ea cap md ws) {k qi : Nat} (hk : k < n) (hq : qx f k = qi) : zin ws (tad k) (.inr (2, [.int (nI k), .ref (qad qi), .int (f 2 k), va_rf (gref f gad k), .long (ky k), .int (f 6 k), .int (f 5 k), .int (h 0 k), .int (h 1 k), .int (h 2 k), .int (h 3 k), .int (h 4 k)])) := by
  subst hq
  exact PX_t hX hk
theorem PX_tr (hX : PX kk xa qad gad tad e0 time tok n f ky h qar gar arr ea cap md ws) {k : Nat} (hk : k < n) : arr k = some (tad k) := (hX.2.2.2.2.2.2.2.1 k hk).1
theorem PX_okq (hX : PX kk xa qad gad tad e0 time tok n f ky h qar gar arr ea cap md ws) : okq f n := hX.2.2.2.2.2.2.2.2.1
theorem PX_okg (hX : PX kk xa qad gad tad e0 time tok n f ky h qar gar arr ea cap md ws) : okg f n := hX.2.2.2.2.2.2.2.2.2.1
theorem PX_rel (hX : PX kk xa qad gad tad e0 time tok n f ky h qar gar arr ea cap md ws) : rel f h n := hX.2.2.2.2.2.2.2.2.2.2.1
theorem PX_qi (hX : PX kk xa qad gad tad e0 time tok n f ky h qar gar arr ea cap md ws) : ∀ i j, i < 4 → j < 4 → qad i = qad j → i = j := hX.2.2.2.2.2.2.2.2.2.2.2.1
theorem PX_gi (hX : PX kk xa qad gad tad e0 time tok n f ky h qar gar arr ea cap md ws) : ∀ i j, i < 8 → j < 8 → gad i = gad j → i = j := hX.2.2.2.2.2.2.2.2.2.2.2.2.1
theorem PX_n (hX : PX kk xa qad gad tad e0 time tok n f ky h qar gar arr ea cap md ws) : n ≤ 400 := hX.2.2.2.2.2.2.2.2.2.2.2.2.2
theorem PX_tg (hX : PX kk xa qad gad tad e0 time tok n f ky h qar gar arr ea cap md ws) {k : Nat} (hk : k < n) : ∀ g, gref f gad k = some g → zin ws g (.inr (0, [.int (f 11 (gx f k)), .int (nI (cnt (pLent f (f 3 k)) n))])) := by
  intro g hg
  unfold gref at hg
  by_cases h3 : f 3 k = -1
  · rw [if_pos h3] at hg
    cases hg
  · rw [if_neg h3] at hg
    cases hg
    obtain ⟨e1, e2⟩ := (PX_okg hX k hk).resolve_left h3
    rw [e1]
    exact PX_g hX e2
theorem had_eq (hX : PX kk xa qad gad tad e0 time tok n f ky h qar gar arr ea cap md ws) {k : Nat} (hk : k < n) : sHad (f 6 k) (h 0 k) time (gref f gad k) (f 11 (gx f k)) (nI (cnt (pLent f (f 3 k)) n)) = pHad f time n k := by
  unfold sHad pHad sDue gref
  by_cases h0 : f 6 k = 0
  · rw [((PX_rel hX k hk).1 h0)]
    by_cases h3 : f 3 k = -1
    · simp [h3]
    · simp [h3]
  · simp [h0]
theorem key_eq (hX : PX kk xa qad gad tad e0 time tok n f ky h qar gar arr ea cap md ws) {t qi : Nat} (ht : t < n) {k : Int64} (hk0 : ¬ k = 0) (hqi : qi < 4) : pKey f ky time qi k t = (decide (qx f t = qi) && decide (ky t = k) && sHold (f 6 t) (f 10 (6 * qx f t + 5)) (h 4 t) time) := by
  have h1 := PX_okq hX t ht
  unfold pKey sHold
  by_cases hq : qx f t = qi
  · rw [h1.1, hq]
    by_cases h2 : f 6 t = 2
    · rw [(PX_rel hX t ht).2.2 h2]
      simp [hk0]
    · simp [hk0, h2]
  · have : ¬ f 1 t = nI qi := fun z => hq (by rw [h1.1] at z; exact (nI_eq (by omega) (by omega)).mp z)
    simp [hq, this]
theorem better_eq (hX : PX kk xa qad gad tad e0 time tok n f ky h qar gar arr ea cap md ws) {i b qi : Nat} (hi : i < n) (hb : b < i) (qi1 : qx f i = qi) (qb : qx f b = qi) (hi0 : pHad f time n i = true) (hb0 : pHad f time n b = true) :
    sBefore (sWeight (f 2 i) (f 10 (6 * qi + 4)) (h 0 i) time) (sWeight (f 2 b) (f 10 (6 * qi + 4)) (h 0 b) time) (h 0 i) (h 0 b) (nI i) (nI b) = fBetter f time (some b) i := by
  have n1 := PX_n hX
  have e1 : f 6 i = 0 := by simp only [pHad, Bool.and_eq_true, decide_eq_true_eq] at hi0; exact hi0.1.1
  have e2 : f 6 b = 0 := by simp only [pHad, Bool.and_eq_true, decide_eq_true_eq] at hb0; exact hb0.1.1
  rw [(PX_rel hX i hi).1 e1, (PX_rel hX b (by omega)).1 e2]
  have w1 : sWeight (f 2 i) (f 10 (6 * qi + 4)) (f 7 i) time = wgt f time i := by unfold wgt; rw [qi1]
  have w2 : sWeight (f 2 b) (f 10 (6 * qi + 4)) (f 7 b) time = wgt f time b := by unfold wgt; rw [qb]
  rw [w1, w2]
  unfold sBefore fBetter
  have nn : ¬ nI i < nI b := nI_nlt (by omega) (by omega)
  by_cases hw : wgt f time i = wgt f time b
  · rw [if_pos hw, hw]
    have n0 : ¬ wgt f time b < wgt f time b := Int32.lt_irrefl
    by_cases hd : f 7 i = f 7 b
    · rw [if_pos hd, hd]
      have n2 : ¬ f 7 b < f 7 b := Int32.lt_irrefl
      simp [n0, nn, n2]
    · rw [if_neg hd]
      simp [n0]
  · rw [if_neg hw]
    simp [hw]
end PXS
theorem live_eq (f : FF) : ∀ n, nI (cnt (pSt f 0) n) + nI (cnt (pSt f 1) n) = nI (cnt (pLive f) n) := by
  intro n
  rw [nI_add]
  congr 1
  induction n with
  | zero => rfl
  | succ n ih =>
    show (cnt (pSt f 0) n + (if pSt f 0 n = true then 1 else 0)) + (cnt (pSt f 1) n + (if pSt f 1 n = true then 1 else 0)) = cnt (pLive f) n + (if pLive f n = true then 1 else 0)
    rw [← ih]
    unfold pSt pLive sLive
    by_cases h0 : f 6 n = 0
    · simp [h0]
      omega
    · by_cases h1 : f 6 n = 1
      · simp [h1]
        omega
      · simp [h0, h1]
def qRef (qad : Nat → Nat) (q : Int32) : Option Nat := if sWithin q 0 3 = true then some (qad (tx q)) else none
def gRef (gad : Nat → Nat) (g : Int32) : Option Nat := if sWithin g 0 7 = true then some (gad (tx g)) else none
def tRef (tad : Nat → Nat) (n : Nat) (t : Int32) : Option Nat := if sTask t n = true then some (tad (tx t)) else none
theorem task_in (t : Int32) {n : Nat} (hn : n < 2 ^ 31) : sWithin t 0 (nI n - 1) = sTask t n := by
  rw [pr_sub]
  unfold sWithin sTask
  by_cases h0 : 0 ≤ t
  · obtain ⟨j, hj, rfl⟩ := nI_of (x := t) (Int32.not_lt.mpr h0)
    have e : nI j ≤ pr n ↔ nI j < nI n := by
      cases n with
      | zero =>
        have a1 : ¬ nI j ≤ pr 0 := fun z => absurd (Int32.le_trans h0 z) (by decide)
        have a2 : ¬ nI j < nI 0 := fun z => absurd ((nI_ltI hj (by omega)).mp z) (by omega)
        exact ⟨fun z => absurd z a1, fun z => absurd z a2⟩
      | succ k =>
        show nI j ≤ nI k ↔ _
        rw [nI_leI hj (by omega), nI_ltI hj hn]
        omega
    simp [e]
  · simp [h0]
section ZR2
variable {p : Program} {l : Launch} {e : Env} {R : Room} {s : State} {m : MethodId} {args : Array Value} {below : List Frame} {meth : Method} {c : Code} {H : Heap} {locs : List Loc} {cells slots : Nat} {Q : State → Prop}
variable {cc : ByteArray} {pc : Nat} {ls : Array Slot} {rest st0 : List Value} {D : va_G} {cl : List vw_C} {A : Nat → Prop} {a : Nat} {tys : List (ClassId × FieldType)} {ws : va_W} {H0 : Heap}
theorem z_aaldS (hx : p.tables.exec = Jvm.exec) (hb : c.code = cc) (hK : va_K D cl tys s) (hP : va_P D cl ws H) (t0 : Nat) {cA : ClassId} {C : String} {n : Nat} {f : Nat → Option Nat} (hz : zin ws a (.inl (cA, n, .inr (.inr (.inr (.inr f)))))) (ht : tys[t0]? = some (cA, .object C)) {i : Int32} (j : Nat) (hj : i = nI j) (hn : j < n) (hN : n < 2 ^ 31) {y : Nat} (hy : f j = some y) (hdg : decode cc pc = .ok (.aaload, 1))
    (kk : W p l e R s m args below meth c H locs cells slots Q (F0 m (pc + 1) ls (.ref y :: rest))) : W p l e R s m args below meth c H locs cells slots Q (F0 m pc ls (.int i :: .ref a :: rest)) := by
  refine z_aald hx hb hK hP t0 hz ht j hj hn hN hdg ?_
  rw [hy]
  exact kk
theorem z_cast (hx : p.tables.exec = Jvm.exec) (hb : c.code = cc) {own : String} {ci index : Nat} {q : vw_C} {fs : List Value} (hts : ∀ w ∈ TT, w.before args s = true) (hown : s.vm.findClass own = some m.cls) (hlink : Cond.classLink own index q.1 ∈ TT) (hK : va_K D cl tys s) (hP : va_P D cl ws H) (hz : zin ws a (.inr (ci, fs))) (hc : cl[ci]? = some q) (hdg : decode cc pc = .ok (.checkcast index, 3))
    (kk : W p l e R s m args below meth c H locs cells slots Q (F0 m (pc + 3) ls (.ref a :: rest))) : W p l e R s m args below meth c H locs cells slots Q (F0 m pc ls (.ref a :: rest)) :=
  va_castS hx hb hown (hts _ hlink) (hK.1 ci q hc).2 (va_recv hK (z_P hP hz) hc (q0 := 0) rfl) hdg kk
end ZR2
set_option maxHeartbeats 4000000 in
set_option maxRecDepth 100000 in
theorem c_A_size (l : Launch) {D : va_G} {tys : List (ClassId × FieldType)} {ws : va_W} {H : Heap} (hP : va_P D vwCl ws H) {la ea : Nat} {sz md : Int32} (hz : zin ws la (.inr (5, [.ref ea, .int sz, .int md]))) : Met l y_A_size (Cond.code y_A_size b_A_size 1 (some .int) :: TT) ({ frames := 1, cells := 0, slots := 0, locals := 40 }) (zPc [.ref la] H D vwCl tys) (zQi sz H) 0 0 (fun _ => False) := by
  refine z_body (by decide) (Nat.le_of_ble_eq_true rfl) ?_
  intro p e s m below meth c ls C0 hH hKN hl
  obtain ⟨hx, hb, hr, hts, hown, hlocks, hml⟩ := C0
  subst hH
  have hK := hKN.1
  have hN := hKN.2
  have hS : va_S (fun _ => False) s.heap s.heap [] := va_S.rf
  have hl : lv_has ls 1 [(0, .ref la)] := hl
  refine lv_aload_n hx hb d_A_size_0 rfl (zl hl rfl) ?_
  refine z_get (C := R_A) (T := F_A) (N := 3) (v := .int sz) hx hb hts inT_A hown hK hP hz rfl 1 (by decide) tw_77 (fun _ h => h) rfl d_A_size_1 ?_
  exact z_iret hx hb hr hlocks hS (rfl) d_A_size_4
set_option maxHeartbeats 4000000 in
set_option maxRecDepth 100000 in
theorem c_P_checkIndex (l : Launch) {D : va_G} {tys : List (ClassId × FieldType)} {ws : va_W} {H : Heap} (hP : va_P D vwCl ws H) (i n : Nat) (hi : i < n) (hn : n < 2 ^ 31) : Met l y_P_checkIndex (Cond.code y_P_checkIndex b_P_checkIndex 3 (some .int) :: TT) ({ frames := 1, cells := 0, slots := 0, locals := 40 }) (zPc [.int (nI i), .int (nI n), .null] H D vwCl tys) (zQi (nI i) H) 0 0 (fun _ => False) := by
  refine z_body (by decide) (Nat.le_of_ble_eq_true rfl) ?_
  intro p e s m below meth c ls C0 hH hKN hl
  obtain ⟨hx, hb, hr, hts, hown, hlocks, hml⟩ := C0
  subst hH
  have hK := hKN.1
  have hN := hKN.2
  have hS : va_S (fun _ => False) s.heap s.heap [] := va_S.rf
  have hl : lv_has ls 3 [(0, .int (nI i)), (1, .int (nI n)), (2, .null)] := hl
  refine lv_iload_n hx hb d_P_checkIndex_0 rfl (zl hl rfl) ?_
  refine lv_if_lt (tgt := 9) hx hb d_P_checkIndex_1 (by decide) (fun c_1 => ?_) (fun c_1 => ?_)
  · exact absurd c_1 (nI_pos (by omega))
  · refine lv_iload_n hx hb d_P_checkIndex_4 rfl (zl hl rfl) ?_
    refine lv_iload_n hx hb d_P_checkIndex_5 rfl (zl hl rfl) ?_
    refine lv_icmp_lt (tgt := 16) hx hb d_P_checkIndex_6 (by decide) (fun c_2 => ?_) (fun c_2 => ?_)
    · refine lv_iload_n hx hb d_P_checkIndex_16 rfl (zl hl rfl) ?_
      exact z_iret hx hb hr hlocks hS (rfl) d_P_checkIndex_17
    · exact absurd (nI_lt hi hn) c_2
set_option maxHeartbeats 4000000 in
set_option maxRecDepth 100000 in
theorem c_O_checkIndex (l : Launch) {D : va_G} {tys : List (ClassId × FieldType)} {ws : va_W} {H : Heap} (hP : va_P D vwCl ws H) (i n : Nat) (hi : i < n) (hn : n < 2 ^ 31) : Met l y_O_checkIndex (Cond.code y_O_checkIndex b_O_checkIndex 2 (some .int) :: TT) ({ frames := 2, cells := 0, slots := 0, locals := 80 }) (zPc [.int (nI i), .int (nI n)] H D vwCl tys) (zQi (nI i) H) 0 0 (fun _ => False) := by
  refine z_body (by decide) (Nat.le_of_ble_eq_true rfl) ?_
  intro p e s m below meth c ls C0 hH hKN hl
  obtain ⟨hx, hb, hr, hts, hown, hlocks, hml⟩ := C0
  subst hH
  have hK := hKN.1
  have hN := hKN.2
  have hS : va_S (fun _ => False) s.heap s.heap [] := va_S.rf
  have hl : lv_has ls 2 [(0, .int (nI i)), (1, .int (nI n))] := hl
  refine lv_iload_n hx hb d_O_checkIndex_0 rfl (zl hl rfl) ?_
  refine lv_iload_n hx hb d_O_checkIndex_1 rfl (zl hl rfl) ?_
  refine lv_null hx hb d_O_checkIndex_2 ?_
  refine z_calli (va_runS (As := [.int (nI i), .int (nI n), .null]) (rest := []) ⟨hx, hb, hml, hown, hts⟩ (c_P_checkIndex l hP i n hi hn) (va_cwS 3 hts (tt_S tw_170 tw_168 tw_169 tw_42) rfl rfl rfl (by decide +kernel) ⟨Nat.le_of_ble_eq_true rfl, Nat.le_of_ble_eq_true rfl⟩) (zPc_S hKN) rfl rfl hl.1 rfl (lv_room (Nat.le_of_ble_eq_true rfl)) d_O_checkIndex_3 ⟨Nat.zero_le _, Nat.zero_le _⟩) hS (fun locs hS => ?_)
  exact z_iret hx hb hr hlocks hS (rfl) d_O_checkIndex_6
set_option maxHeartbeats 4000000 in
set_option maxRecDepth 100000 in
theorem c_A_elementData (l : Launch) {D : va_G} {ws : va_W} {H : Heap} (hP : va_P D vwCl ws H) {kk : Nat → ClassId} {la ea : Nat} {sz md : Int32} {cap : Nat} {arr : Nat → Option Nat} (hz : zin ws la (.inr (5, [.ref ea, .int sz, .int md]))) (he : zin ws ea (.inl (kk 4, cap, .inr (.inr (.inr (.inr arr)))))) (i : Nat) (hi : i < cap) (hc : cap < 2 ^ 31) {y : Nat} (hy : arr i = some y) : Met l y_A_elementData (Cond.code y_A_elementData b_A_elementData 2 (some (.object "java/lang/Object")) :: TT) ({ frames := 1, cells := 0, slots := 0, locals := 40 }) (zPc [.ref la, .int (nI i)] H D vwCl (TY kk)) (zQq (some y) H) 0 0 (fun _ => False) := by
  refine z_body (by decide) (Nat.le_of_ble_eq_true rfl) ?_
  intro p e s m below meth c ls C0 hH hKN hl
  obtain ⟨hx, hb, hr, hts, hown, hlocks, hml⟩ := C0
  subst hH
  have hK := hKN.1
  have hN := hKN.2
  have hS : va_S (fun _ => False) s.heap s.heap [] := va_S.rf
  have hl : lv_has ls 2 [(0, .ref la), (1, .int (nI i))] := hl
  refine lv_aload_n hx hb d_A_elementData_0 rfl (zl hl rfl) ?_
  refine z_get (C := R_A) (T := F_A) (N := 3) (v := .ref ea) hx hb hts inT_A hown hK hP hz rfl 0 (by decide) tw_76 (fun _ h => h) rfl d_A_elementData_1 ?_
  refine lv_iload_n hx hb d_A_elementData_4 rfl (zl hl rfl) ?_
  refine z_aaldS hx hb hK hP 4 he rfl i rfl hi hc hy d_A_elementData_5 ?_
  exact z_qret (v := some y) hx hb hr (Or.inl ⟨_, rfl⟩) hlocks hS (rfl) d_A_elementData_6
set_option maxHeartbeats 4000000 in
set_option maxRecDepth 100000 in
theorem c_A_get (l : Launch) {D : va_G} {ws : va_W} {H : Heap} (hP : va_P D vwCl ws H) {kk : Nat → ClassId} {la ea : Nat} {md : Int32} {n cap : Nat} {arr : Nat → Option Nat} (hz : zin ws la (.inr (5, [.ref ea, .int (nI n), .int md]))) (he : zin ws ea (.inl (kk 4, cap, .inr (.inr (.inr (.inr arr)))))) (i : Nat) (hi : i < cap) (hc : cap < 2 ^ 31) {y : Nat} (hy : arr i = some y) (hin : i < n) (hn : n < 2 ^ 31) : Met l y_A_get (Cond.code y_A_get b_A_get 2 (some (.object "java/lang/Object")) :: TT) ({ frames := 3, cells := 0, slots := 0, locals := 120 }) (zPc [.ref la, .int (nI i)] H D vwCl (TY kk)) (zQq (some y) H) 0 0 (fun _ => False) := by
  refine z_body (by decide) (Nat.le_of_ble_eq_true rfl) ?_
  intro p e s m below meth c ls C0 hH hKN hl
  obtain ⟨hx, hb, hr, hts, hown, hlocks, hml⟩ := C0
  subst hH
  have hK := hKN.1
  have hN := hKN.2
  have hS : va_S (fun _ => False) s.heap s.heap [] := va_S.rf
  have hl : lv_has ls 2 [(0, .ref la), (1, .int (nI i))] := hl
  refine lv_iload_n hx hb d_A_get_0 rfl (zl hl rfl) ?_
  refine lv_aload_n hx hb d_A_get_1 rfl (zl hl rfl) ?_
  refine z_get (C := R_A) (T := F_A) (N := 3) (v := .int (nI n)) hx hb hts inT_A hown hK hP hz rfl 1 (by decide) tw_77 (fun _ h => h) rfl d_A_get_2 ?_
  refine z_calli (va_runS (As := [.int (nI i), .int (nI n)]) (rest := []) ⟨hx, hb, hml, hown, hts⟩ (c_O_checkIndex l hP i n hin hn) (va_cwS 2 hts (tt_S tw_167 tw_165 tw_166 tw_41) rfl rfl rfl (by decide +kernel) ⟨Nat.le_of_ble_eq_true rfl, Nat.le_of_ble_eq_true rfl⟩) (zPc_S hKN) rfl rfl hl.1 rfl (lv_room (Nat.le_of_ble_eq_true rfl)) d_A_get_5 ⟨Nat.zero_le _, Nat.zero_le _⟩) hS (fun locs hS => ?_)
  refine lv_pop hx hb d_A_get_8 rfl ?_
  refine lv_aload_n hx hb d_A_get_9 rfl (zl hl rfl) ?_
  refine lv_iload_n hx hb d_A_get_10 rfl (zl hl rfl) ?_
  refine z_callq (va_runV (As := [.int (nI i)]) (rest := []) ⟨hx, hb, hml, hown, hts⟩ (c_A_elementData l hP hz he i hi hc hy) (cwV 1 hts (tt_V tw_174 tw_171 tw_172 tw_173 tw_33) rfl rfl rfl (by decide +kernel) ⟨Nat.le_of_ble_eq_true rfl, Nat.le_of_ble_eq_true rfl⟩) (zPc_V hKN hP (ci := 5) (q := (R_A, F_A, 3)) rfl hz) rfl rfl hl.1 rfl (lv_room (Nat.le_of_ble_eq_true rfl)) d_A_get_11 ⟨Nat.zero_le _, Nat.zero_le _⟩) hS (fun locs hS => ?_)
  exact z_qret (v := some y) hx hb hr (Or.inl ⟨_, rfl⟩) hlocks hS (rfl) d_A_get_14
set_option maxHeartbeats 4000000 in
set_option maxRecDepth 100000 in
theorem c_X_queueAt (l : Launch) {D : va_G} {ws : va_W} {H : Heap} (hP : va_P D vwCl ws H) {kk : Nat → ClassId} {xa qad gad tad : Nat → Nat} {e0 : Nat} {time tok : Int32} {n : Nat} {f : FF} {ky : Nat → Int64} {h : FF} {qar gar arr : Nat → Option Nat} {ea cap : Nat} {md : Int32} (hX : PX kk xa qad gad tad e0 time tok n f ky h qar gar arr ea cap md ws) (v : Int32) : Met l y_X_queueAt (Cond.code y_X_queueAt b_X_queueAt 2 (some (.object "LoanRounds$Queue")) :: TT) ({ frames := 2, cells := 0, slots := 0, locals := 80 }) (zPc [.ref (xa 0), .int v] H D vwCl (TY kk)) (zQq (qRef qad v) H) 0 0 (fun _ => False) := by
  refine z_body (by decide) (Nat.le_of_ble_eq_true rfl) ?_
  intro p e s m below meth c ls C0 hH hKN hl
  obtain ⟨hx, hb, hr, hts, hown, hlocks, hml⟩ := C0
  subst hH
  have hK := hKN.1
  have hN := hKN.2
  have hS : va_S (fun _ => False) s.heap s.heap [] := va_S.rf
  have hn := PX_n hX
  have hl : lv_has ls 2 [(0, .ref (xa 0)), (1, .int v)] := hl
  refine lv_iload_n hx hb d_X_queueAt_0 rfl (zl hl rfl) ?_
  refine lv_iconst (v := 0) hx hb d_X_queueAt_1 (by decide) ?_
  refine lv_aload_n hx hb d_X_queueAt_2 rfl (zl hl rfl) ?_
  refine z_get (C := R_X) (T := F_X) (N := 5) (v := .ref (xa 1)) hx hb hts inT_X hown hK hP (PX_x hX) rfl 0 (by decide) tw_133 (fun _ h => h) rfl d_X_queueAt_3 ?_
  refine z_alen hx hb hK hP 2 (PX_qa hX) rfl d_X_queueAt_6 ?_
  refine lv_iconst (v := 1) hx hb d_X_queueAt_7 (by decide) ?_
  refine lv_isub hx hb d_X_queueAt_8 ?_
  refine z_top (y := 3) (by show nI 4 - 1 = 3; decide) ?_
  refine z_calli (va_runS (As := [.int v, .int 0, .int 3]) (rest := []) ⟨hx, hb, hml, hown, hts⟩ (c_X_within l hP v 0 3) (va_cwS 3 hts (tt_S tw_186 tw_184 tw_185 tw_30) rfl rfl rfl (by decide +kernel) ⟨Nat.le_of_ble_eq_true rfl, Nat.le_of_ble_eq_true rfl⟩) (zPc_S hKN) rfl rfl hl.1 rfl (lv_room (Nat.le_of_ble_eq_true rfl)) d_X_queueAt_9 ⟨Nat.zero_le _, Nat.zero_le _⟩) hS (fun locs hS => ?_)
  refine lv_if_eq (tgt := 24) hx hb d_X_queueAt_12 (by decide) (fun c_1 => ?_) (fun c_1 => ?_)
  · have b1 := zb_f c_1
    refine lv_null hx hb d_X_queueAt_24 ?_
    exact z_qret (v := none) hx hb hr (Or.inl ⟨_, rfl⟩) hlocks hS (by simp [qRef, *]) d_X_queueAt_25
  · have b1 := zb_t c_1
    obtain ⟨x1, hx1, rfl⟩ := sWithin_nI (h := 3) (by decide) b1
    have ht1 : tx (nI x1) = x1 := tx_nI (by omega)
    refine lv_aload_n hx hb d_X_queueAt_15 rfl (zl hl rfl) ?_
    refine z_get (C := R_X) (T := F_X) (N := 5) (v := .ref (xa 1)) hx hb hts inT_X hown hK hP (PX_x hX) rfl 0 (by decide) tw_133 (fun _ h => h) rfl d_X_queueAt_16 ?_
    refine lv_iload_n hx hb d_X_queueAt_19 rfl (zl hl rfl) ?_
    refine z_aaldS hx hb hK hP 2 (PX_qa hX) rfl x1 rfl (by omega) (by decide) (PX_qr hX (by omega)) d_X_queueAt_20 ?_
    refine lv_goto (tgt := 25) hx hb d_X_queueAt_21 (by decide) ?_
    exact z_qret (v := some (qad x1)) hx hb hr (Or.inl ⟨_, rfl⟩) hlocks hS (by simp [qRef, *]) d_X_queueAt_25
set_option maxHeartbeats 4000000 in
set_option maxRecDepth 100000 in
theorem c_X_groupAt (l : Launch) {D : va_G} {ws : va_W} {H : Heap} (hP : va_P D vwCl ws H) {kk : Nat → ClassId} {xa qad gad tad : Nat → Nat} {e0 : Nat} {time tok : Int32} {n : Nat} {f : FF} {ky : Nat → Int64} {h : FF} {qar gar arr : Nat → Option Nat} {ea cap : Nat} {md : Int32} (hX : PX kk xa qad gad tad e0 time tok n f ky h qar gar arr ea cap md ws) (v : Int32) : Met l y_X_groupAt (Cond.code y_X_groupAt b_X_groupAt 2 (some (.object "LoanRounds$Group")) :: TT) ({ frames := 2, cells := 0, slots := 0, locals := 80 }) (zPc [.ref (xa 0), .int v] H D vwCl (TY kk)) (zQq (gRef gad v) H) 0 0 (fun _ => False) := by
  refine z_body (by decide) (Nat.le_of_ble_eq_true rfl) ?_
  intro p e s m below meth c ls C0 hH hKN hl
  obtain ⟨hx, hb, hr, hts, hown, hlocks, hml⟩ := C0
  subst hH
  have hK := hKN.1
  have hN := hKN.2
  have hS : va_S (fun _ => False) s.heap s.heap [] := va_S.rf
  have hn := PX_n hX
  have hl : lv_has ls 2 [(0, .ref (xa 0)), (1, .int v)] := hl
  refine lv_iload_n hx hb d_X_groupAt_0 rfl (zl hl rfl) ?_
  refine lv_iconst (v := 0) hx hb d_X_groupAt_1 (by decide) ?_
  refine lv_aload_n hx hb d_X_groupAt_2 rfl (zl hl rfl) ?_
  refine z_get (C := R_X) (T := F_X) (N := 5) (v := .ref (xa 2)) hx hb hts inT_X hown hK hP (PX_x hX) rfl 1 (by decide) tw_134 (fun _ h => h) rfl d_X_groupAt_3 ?_
  refine z_alen hx hb hK hP 3 (PX_ga hX) rfl d_X_groupAt_6 ?_
  refine lv_iconst (v := 1) hx hb d_X_groupAt_7 (by decide) ?_
  refine lv_isub hx hb d_X_groupAt_8 ?_
  refine z_top (y := 7) (by show nI 8 - 1 = 7; decide) ?_
  refine z_calli (va_runS (As := [.int v, .int 0, .int 7]) (rest := []) ⟨hx, hb, hml, hown, hts⟩ (c_X_within l hP v 0 7) (va_cwS 3 hts (tt_S tw_186 tw_184 tw_185 tw_30) rfl rfl rfl (by decide +kernel) ⟨Nat.le_of_ble_eq_true rfl, Nat.le_of_ble_eq_true rfl⟩) (zPc_S hKN) rfl rfl hl.1 rfl (lv_room (Nat.le_of_ble_eq_true rfl)) d_X_groupAt_9 ⟨Nat.zero_le _, Nat.zero_le _⟩) hS (fun locs hS => ?_)
  refine lv_if_eq (tgt := 24) hx hb d_X_groupAt_12 (by decide) (fun c_1 => ?_) (fun c_1 => ?_)
  · have b1 := zb_f c_1
    refine lv_null hx hb d_X_groupAt_24 ?_
    exact z_qret (v := none) hx hb hr (Or.inl ⟨_, rfl⟩) hlocks hS (by simp [gRef, *]) d_X_groupAt_25
  · have b1 := zb_t c_1
    obtain ⟨x1, hx1, rfl⟩ := sWithin_nI (h := 7) (by decide) b1
    have ht1 : tx (nI x1) = x1 := tx_nI (by omega)
    refine lv_aload_n hx hb d_X_groupAt_15 rfl (zl hl rfl) ?_
    refine z_get (C := R_X) (T := F_X) (N := 5) (v := .ref (xa 2)) hx hb hts inT_X hown hK hP (PX_x hX) rfl 1 (by decide) tw_134 (fun _ h => h) rfl d_X_groupAt_16 ?_
    refine lv_iload_n hx hb d_X_groupAt_19 rfl (zl hl rfl) ?_
    refine z_aaldS hx hb hK hP 3 (PX_ga hX) rfl x1 rfl (by omega) (by decide) (PX_gr hX (by omega)) d_X_groupAt_20 ?_
    refine lv_goto (tgt := 25) hx hb d_X_groupAt_21 (by decide) ?_
    exact z_qret (v := some (gad x1)) hx hb hr (Or.inl ⟨_, rfl⟩) hlocks hS (by simp [gRef, *]) d_X_groupAt_25
set_option maxHeartbeats 4000000 in
set_option maxRecDepth 100000 in
theorem c_X_taskAt (l : Launch) {D : va_G} {ws : va_W} {H : Heap} (hP : va_P D vwCl ws H) {kk : Nat → ClassId} {xa qad gad tad : Nat → Nat} {e0 : Nat} {time tok : Int32} {n : Nat} {f : FF} {ky : Nat → Int64} {h : FF} {qar gar arr : Nat → Option Nat} {ea cap : Nat} {md : Int32} (hX : PX kk xa qad gad tad e0 time tok n f ky h qar gar arr ea cap md ws) (v : Int32) : Met l y_X_taskAt (Cond.code y_X_taskAt b_X_taskAt 2 (some (.object "LoanRounds$Task")) :: TT) ({ frames := 4, cells := 0, slots := 0, locals := 160 }) (zPc [.ref (xa 0), .int v] H D vwCl (TY kk)) (zQq (tRef tad n v) H) 0 0 (fun _ => False) := by
  refine z_body (by decide) (Nat.le_of_ble_eq_true rfl) ?_
  intro p e s m below meth c ls C0 hH hKN hl
  obtain ⟨hx, hb, hr, hts, hown, hlocks, hml⟩ := C0
  subst hH
  have hK := hKN.1
  have hN := hKN.2
  have hS : va_S (fun _ => False) s.heap s.heap [] := va_S.rf
  have hn := PX_n hX
  have hl : lv_has ls 2 [(0, .ref (xa 0)), (1, .int v)] := hl
  refine lv_iload_n hx hb d_X_taskAt_0 rfl (zl hl rfl) ?_
  refine lv_iconst (v := 0) hx hb d_X_taskAt_1 (by decide) ?_
  refine lv_aload_n hx hb d_X_taskAt_2 rfl (zl hl rfl) ?_
  refine z_get (C := R_X) (T := F_X) (N := 5) (v := .ref (xa 3)) hx hb hts inT_X hown hK hP (PX_x hX) rfl 2 (by decide) tw_135 (fun _ h => h) rfl d_X_taskAt_3 ?_
  refine z_calli (va_runV (As := []) (rest := [.int 0, .int v]) ⟨hx, hb, hml, hown, hts⟩ (c_A_size l hP (PX_l hX)) (cwV 0 hts (tt_V tw_160 tw_157 tw_158 tw_159 tw_33) rfl rfl rfl (by decide +kernel) ⟨Nat.le_of_ble_eq_true rfl, Nat.le_of_ble_eq_true rfl⟩) (zPc_V hKN hP (ci := 5) (q := (R_A, F_A, 3)) rfl (PX_l hX)) rfl rfl hl.1 rfl (lv_room (Nat.le_of_ble_eq_true rfl)) d_X_taskAt_6 ⟨Nat.zero_le _, Nat.zero_le _⟩) hS (fun locs hS => ?_)
  refine lv_iconst (v := 1) hx hb d_X_taskAt_9 (by decide) ?_
  refine lv_isub hx hb d_X_taskAt_10 ?_
  refine z_calli (va_runS (As := [.int v, .int 0, .int ((nI n) - 1)]) (rest := []) ⟨hx, hb, hml, hown, hts⟩ (c_X_within l hP v 0 ((nI n) - 1)) (va_cwS 3 hts (tt_S tw_186 tw_184 tw_185 tw_30) rfl rfl rfl (by decide +kernel) ⟨Nat.le_of_ble_eq_true rfl, Nat.le_of_ble_eq_true rfl⟩) (zPc_S hKN) rfl rfl hl.1 rfl (lv_room (Nat.le_of_ble_eq_true rfl)) d_X_taskAt_11 ⟨Nat.zero_le _, Nat.zero_le _⟩) hS (fun locs hS => ?_)
  refine lv_if_eq (tgt := 31) hx hb d_X_taskAt_14 (by decide) (fun c_1 => ?_) (fun c_1 => ?_)
  · have b1 : sTask v n = false := by rw [← task_in v (by omega)]; exact zb_f c_1
    refine lv_null hx hb d_X_taskAt_31 ?_
    exact z_qret (v := none) hx hb hr (Or.inl ⟨_, rfl⟩) hlocks hS (by simp [tRef, *]) d_X_taskAt_32
  · have b0 := zb_t c_1
    have b1 : sTask v n = true := by rw [← task_in v (by omega)]; exact b0
    clear b0
    obtain ⟨x1, hx1, rfl⟩ := sTask_t (by omega) b1
    have ht1 : tx (nI x1) = x1 := tx_nI (by omega)
    refine lv_aload_n hx hb d_X_taskAt_17 rfl (zl hl rfl) ?_
    refine z_get (C := R_X) (T := F_X) (N := 5) (v := .ref (xa 3)) hx hb hts inT_X hown hK hP (PX_x hX) rfl 2 (by decide) tw_135 (fun _ h => h) rfl d_X_taskAt_18 ?_
    refine lv_iload_n hx hb d_X_taskAt_21 rfl (zl hl rfl) ?_
    have he := PX_e hX (i := x1) (by omega)
    refine z_callq (va_runV (As := [.int (nI x1)]) (rest := []) ⟨hx, hb, hml, hown, hts⟩ (c_A_get l hP (PX_l hX) he.1 x1 (by omega) (by omega) (PX_tr hX (by omega)) (by omega) (by omega)) (cwV 1 hts (tt_V tw_164 tw_161 tw_162 tw_163 tw_33) rfl rfl rfl (by decide +kernel) ⟨Nat.le_of_ble_eq_true rfl, Nat.le_of_ble_eq_true rfl⟩) (zPc_V hKN hP (ci := 5) (q := (R_A, F_A, 3)) rfl (PX_l hX)) rfl rfl hl.1 rfl (lv_room (Nat.le_of_ble_eq_true rfl)) d_X_taskAt_22 ⟨Nat.zero_le _, Nat.zero_le _⟩) hS (fun locs hS => ?_)
    refine z_cast (ci := 2) (q := (R_T, F_T, 12)) hx hb hts hown tw_175 hK hP (PX_t hX (k := x1) (by omega)) rfl d_X_taskAt_25 ?_
    refine lv_goto (tgt := 32) hx hb d_X_taskAt_28 (by decide) ?_
    exact z_qret (v := some (tad x1)) hx hb hr (Or.inl ⟨_, rfl⟩) hlocks hS (by simp [tRef, *]) d_X_taskAt_32
set_option maxHeartbeats 4000000 in
set_option maxRecDepth 100000 in
theorem c_X_isWorker (l : Launch) {D : va_G} {tys : List (ClassId × FieldType)} {ws : va_W} {H : Heap} (hP : va_P D vwCl ws H) (v : Int32) : Met l y_X_isWorker (Cond.code y_X_isWorker b_X_isWorker 1 (some .boolean) :: TT) ({ frames := 2, cells := 0, slots := 0, locals := 80 }) (zPc [.int v] H D vwCl tys) (zQi (zb (sWithin v 0 7)) H) 0 0 (fun _ => False) := by
  refine z_body (by decide) (Nat.le_of_ble_eq_true rfl) ?_
  intro p e s m below meth c ls C0 hH hKN hl
  obtain ⟨hx, hb, hr, hts, hown, hlocks, hml⟩ := C0
  subst hH
  have hK := hKN.1
  have hN := hKN.2
  have hS : va_S (fun _ => False) s.heap s.heap [] := va_S.rf
  have hl : lv_has ls 1 [(0, .int v)] := hl
  refine lv_iload_n hx hb d_X_isWorker_0 rfl (zl hl rfl) ?_
  refine lv_iconst (v := 0) hx hb d_X_isWorker_1 (by decide) ?_
  refine lv_bipush (v := 7) hx hb d_X_isWorker_2 (by decide) ?_
  refine z_calli (va_runS (As := [.int v, .int 0, .int 7]) (rest := []) ⟨hx, hb, hml, hown, hts⟩ (c_X_within l hP v 0 7) (va_cwS 3 hts (tt_S tw_186 tw_184 tw_185 tw_30) rfl rfl rfl (by decide +kernel) ⟨Nat.le_of_ble_eq_true rfl, Nat.le_of_ble_eq_true rfl⟩) (zPc_S hKN) rfl rfl hl.1 rfl (lv_room (Nat.le_of_ble_eq_true rfl)) d_X_isWorker_4 ⟨Nat.zero_le _, Nat.zero_le _⟩) hS (fun locs hS => ?_)
  exact z_zret hx hb hr hlocks hS (rfl) d_X_isWorker_7
theorem cnt_t2 {P : Nat → Bool} {i : Nat} (h : P i = true) : nI (cnt P i + 1) = nI (cnt P (i + 1)) := by rw [← cnt_t h, nI_1]
set_option maxHeartbeats 4000000 in
set_option maxRecDepth 100000 in
theorem c_X_tasksThatAre (l : Launch) {D : va_G} {ws : va_W} {H : Heap} (hP : va_P D vwCl ws H) {kk : Nat → ClassId} {xa qad gad tad : Nat → Nat} {e0 : Nat} {time tok : Int32} {n : Nat} {f : FF} {ky : Nat → Int64} {h : FF} {qar gar arr : Nat → Option Nat} {ea cap : Nat} {md : Int32} (hX : PX kk xa qad gad tad e0 time tok n f ky h qar gar arr ea cap md ws) (v : Int32) : Met l y_X_tasksThatAre (Cond.code y_X_tasksThatAre b_X_tasksThatAre 4 (some .int) :: TT) ({ frames := 4, cells := 0, slots := 0, locals := 160 }) (zPc [.ref (xa 0), .int v] H D vwCl (TY kk)) (zQi (nI (cnt (pSt f v) n)) H) 0 0 (fun _ => False) := by
  refine z_body (by decide) (Nat.le_of_ble_eq_true rfl) ?_
  intro p e s m below meth c ls C0 hH hKN hl
  obtain ⟨hx, hb, hr, hts, hown, hlocks, hml⟩ := C0
  subst hH
  have hK := hKN.1
  have hN := hKN.2
  have hS : va_S (fun _ => False) s.heap s.heap [] := va_S.rf
  have hn := PX_n hX
  have key : ∀ (r i : Nat) (ls : Array Slot) (locs : List Loc), i ≤ n → n + 1 ≤ i + r → lv_has ls 4 [(0, .ref (xa 0)), (1, .int v), (2, .int (nI (cnt (pSt f v) i))), (3, .int (nI i))] → va_S (fun _ => False) s.heap s.heap locs → W p l e ({ frames := 4, cells := 0, slots := 0, locals := 160 }) s m ([.ref (xa 0), .int v] : List Value).toArray below meth c s.heap locs 0 0 (MQ below (zQi (nI (cnt (pSt f v) n)) s.heap) ([.ref (xa 0), .int v] : List Value).toArray s 0 0 (fun _ => False)) (F0 m 4 ls []) := by
    intro r
    induction r with
    | zero => intro i ls locs h1 h2; omega
    | succ r ih =>
      intro i ls locs hi hir hl hS
      refine lv_iload_n hx hb d_X_tasksThatAre_4 rfl (zl hl rfl) ?_
      refine lv_aload_n hx hb d_X_tasksThatAre_5 rfl (zl hl rfl) ?_
      refine z_get (C := R_X) (T := F_X) (N := 5) (v := .ref (xa 3)) hx hb hts inT_X hown hK hP (PX_x hX) rfl 2 (by decide) tw_135 (fun _ h => h) rfl d_X_tasksThatAre_6 ?_
      refine z_calli (va_runV (As := []) (rest := [.int (nI i)]) ⟨hx, hb, hml, hown, hts⟩ (c_A_size l hP (PX_l hX)) (cwV 0 hts (tt_V tw_160 tw_157 tw_158 tw_159 tw_33) rfl rfl rfl (by decide +kernel) ⟨Nat.le_of_ble_eq_true rfl, Nat.le_of_ble_eq_true rfl⟩) (zPc_V hKN hP (ci := 5) (q := (R_A, F_A, 3)) rfl (PX_l hX)) rfl rfl hl.1 rfl (lv_room (Nat.le_of_ble_eq_true rfl)) d_X_tasksThatAre_9 ⟨Nat.zero_le _, Nat.zero_le _⟩) hS (fun locs hS => ?_)
      refine lv_icmp_ge (tgt := 42) hx hb d_X_tasksThatAre_12 (by decide) (fun c_1 => ?_) (fun c_1 => ?_)
      · have hin := z_ge hi (by omega) c_1
        refine lv_iload_n hx hb d_X_tasksThatAre_42 rfl (zl hl rfl) ?_
        exact z_iret hx hb hr hlocks hS (by rw [hin]) d_X_tasksThatAre_43
      · have hlt := z_lt hi (by omega) c_1
        refine lv_aload_n hx hb d_X_tasksThatAre_15 rfl (zl hl rfl) ?_
        refine z_get (C := R_X) (T := F_X) (N := 5) (v := .ref (xa 3)) hx hb hts inT_X hown hK hP (PX_x hX) rfl 2 (by decide) tw_135 (fun _ h => h) rfl d_X_tasksThatAre_16 ?_
        refine lv_iload_n hx hb d_X_tasksThatAre_19 rfl (zl hl rfl) ?_
        have he := PX_e hX (i := i) (by omega)
        refine z_callq (va_runV (As := [.int (nI i)]) (rest := []) ⟨hx, hb, hml, hown, hts⟩ (c_A_get l hP (PX_l hX) he.1 i (by omega) (by omega) (PX_tr hX (by omega)) (by omega) (by omega)) (cwV 1 hts (tt_V tw_164 tw_161 tw_162 tw_163 tw_33) rfl rfl rfl (by decide +kernel) ⟨Nat.le_of_ble_eq_true rfl, Nat.le_of_ble_eq_true rfl⟩) (zPc_V hKN hP (ci := 5) (q := (R_A, F_A, 3)) rfl (PX_l hX)) rfl rfl hl.1 rfl (lv_room (Nat.le_of_ble_eq_true rfl)) d_X_tasksThatAre_20 ⟨Nat.zero_le _, Nat.zero_le _⟩) hS (fun locs hS => ?_)
        refine z_cast (ci := 2) (q := (R_T, F_T, 12)) hx hb hts hown tw_175 hK hP (PX_t hX (k := i) (by omega)) rfl d_X_tasksThatAre_23 ?_
        refine z_get (C := R_T) (T := F_T) (N := 12) (v := .int (f 6 i)) hx hb hts inT_T hown hK hP (PX_t hX (k := i) (by omega)) rfl 5 (by decide) tw_406 (fun _ h => h) rfl d_X_tasksThatAre_26 ?_
        refine lv_iload_n hx hb d_X_tasksThatAre_29 rfl (zl hl rfl) ?_
        refine lv_icmp_ne (tgt := 36) hx hb d_X_tasksThatAre_30 (by decide) (fun c_2 => ?_) (fun c_2 => ?_)
        · refine lv_iinc (v := (nI (i + 1))) (lv' := [(3, .int (nI (i + 1))), (0, .ref (xa 0)), (1, .int v), (2, .int (nI (cnt (pSt f v) i)))]) hx hb d_X_tasksThatAre_36 hl (k := 3) rfl (nI_1 i) (by decide) rfl (fun ls hl => ?_)
          refine lv_goto (tgt := 4) hx hb d_X_tasksThatAre_39 (by decide) ?_
          rw [show nI (cnt (pSt f v) i) = nI (cnt (pSt f v) (i + 1)) from cnt_f (by simp [pSt, *])] at hl
          exact ih (i + 1) ls locs (by omega) (by omega) (lv_sub hl [1, 2, 3, 0] rfl) hS
        · refine lv_iinc (v := (nI (cnt (pSt f v) i + 1))) (lv' := [(2, .int (nI (cnt (pSt f v) i + 1))), (0, .ref (xa 0)), (1, .int v), (3, .int (nI i))]) hx hb d_X_tasksThatAre_33 hl (k := 2) rfl (nI_1 _) (by decide) rfl (fun ls hl => ?_)
          refine lv_iinc (v := (nI (i + 1))) (lv' := [(3, .int (nI (i + 1))), (2, .int (nI (cnt (pSt f v) i + 1))), (0, .ref (xa 0)), (1, .int v)]) hx hb d_X_tasksThatAre_36 hl (k := 3) rfl (nI_1 i) (by decide) rfl (fun ls hl => ?_)
          refine lv_goto (tgt := 4) hx hb d_X_tasksThatAre_39 (by decide) ?_
          rw [show nI (cnt (pSt f v) i + 1) = nI (cnt (pSt f v) (i + 1)) from cnt_t2 (by simp [pSt, *])] at hl
          exact ih (i + 1) ls locs (by omega) (by omega) (lv_sub hl [2, 3, 1, 0] rfl) hS
  have hl : lv_has ls 4 [(0, .ref (xa 0)), (1, .int v)] := hl
  refine lv_iconst (v := 0) hx hb d_X_tasksThatAre_0 (by decide) ?_
  refine lv_istore_n (lv' := [(2, .int 0), (0, .ref (xa 0)), (1, .int v)]) hx hb d_X_tasksThatAre_1 rfl hl (by decide) rfl (fun ls hl => ?_)
  refine lv_iconst (v := 0) hx hb d_X_tasksThatAre_2 (by decide) ?_
  refine lv_istore_n (lv' := [(3, .int 0), (2, .int 0), (0, .ref (xa 0)), (1, .int v)]) hx hb d_X_tasksThatAre_3 rfl hl (by decide) rfl (fun ls hl => ?_)
  exact key (n + 1) 0 ls [] (Nat.zero_le _) (by omega) (lv_sub hl [2, 3, 1, 0] rfl) hS
set_option maxHeartbeats 4000000 in
set_option maxRecDepth 100000 in
theorem c_X_lentTo (l : Launch) {D : va_G} {ws : va_W} {H : Heap} (hP : va_P D vwCl ws H) {kk : Nat → ClassId} {xa qad gad tad : Nat → Nat} {e0 : Nat} {time tok : Int32} {n : Nat} {f : FF} {ky : Nat → Int64} {h : FF} {qar gar arr : Nat → Option Nat} {ea cap : Nat} {md : Int32} (hX : PX kk xa qad gad tad e0 time tok n f ky h qar gar arr ea cap md ws) (v : Int32) : Met l y_X_lentTo (Cond.code y_X_lentTo b_X_lentTo 5 (some .int) :: TT) ({ frames := 4, cells := 0, slots := 0, locals := 160 }) (zPc [.ref (xa 0), .int v] H D vwCl (TY kk)) (zQi (nI (cnt (pTo f v) n)) H) 0 0 (fun _ => False) := by
  refine z_body (by decide) (Nat.le_of_ble_eq_true rfl) ?_
  intro p e s m below meth c ls C0 hH hKN hl
  obtain ⟨hx, hb, hr, hts, hown, hlocks, hml⟩ := C0
  subst hH
  have hK := hKN.1
  have hN := hKN.2
  have hS : va_S (fun _ => False) s.heap s.heap [] := va_S.rf
  have hn := PX_n hX
  have key : ∀ (r i : Nat) (ls : Array Slot) (locs : List Loc), i ≤ n → n + 1 ≤ i + r → lv_has ls 5 [(0, .ref (xa 0)), (1, .int v), (2, .int (nI (cnt (pTo f v) i))), (3, .int (nI i))] → va_S (fun _ => False) s.heap s.heap locs → W p l e ({ frames := 4, cells := 0, slots := 0, locals := 160 }) s m ([.ref (xa 0), .int v] : List Value).toArray below meth c s.heap locs 0 0 (MQ below (zQi (nI (cnt (pTo f v) n)) s.heap) ([.ref (xa 0), .int v] : List Value).toArray s 0 0 (fun _ => False)) (F0 m 4 ls []) := by
    intro r
    induction r with
    | zero => intro i ls locs h1 h2; omega
    | succ r ih =>
      intro i ls locs hi hir hl hS
      refine lv_iload_n hx hb d_X_lentTo_4 rfl (zl hl rfl) ?_
      refine lv_aload_n hx hb d_X_lentTo_5 rfl (zl hl rfl) ?_
      refine z_get (C := R_X) (T := F_X) (N := 5) (v := .ref (xa 3)) hx hb hts inT_X hown hK hP (PX_x hX) rfl 2 (by decide) tw_135 (fun _ h => h) rfl d_X_lentTo_6 ?_
      refine z_calli (va_runV (As := []) (rest := [.int (nI i)]) ⟨hx, hb, hml, hown, hts⟩ (c_A_size l hP (PX_l hX)) (cwV 0 hts (tt_V tw_160 tw_157 tw_158 tw_159 tw_33) rfl rfl rfl (by decide +kernel) ⟨Nat.le_of_ble_eq_true rfl, Nat.le_of_ble_eq_true rfl⟩) (zPc_V hKN hP (ci := 5) (q := (R_A, F_A, 3)) rfl (PX_l hX)) rfl rfl hl.1 rfl (lv_room (Nat.le_of_ble_eq_true rfl)) d_X_lentTo_9 ⟨Nat.zero_le _, Nat.zero_le _⟩) hS (fun locs hS => ?_)
      refine lv_icmp_ge (tgt := 55) hx hb d_X_lentTo_12 (by decide) (fun c_1 => ?_) (fun c_1 => ?_)
      · have hin := z_ge hi (by omega) c_1
        refine lv_iload_n hx hb d_X_lentTo_55 rfl (zl hl rfl) ?_
        exact z_iret hx hb hr hlocks hS (by rw [hin]) d_X_lentTo_56
      · have hlt := z_lt hi (by omega) c_1
        refine lv_aload_n hx hb d_X_lentTo_15 rfl (zl hl rfl) ?_
        refine z_get (C := R_X) (T := F_X) (N := 5) (v := .ref (xa 3)) hx hb hts inT_X hown hK hP (PX_x hX) rfl 2 (by decide) tw_135 (fun _ h => h) rfl d_X_lentTo_16 ?_
        refine lv_iload_n hx hb d_X_lentTo_19 rfl (zl hl rfl) ?_
        have he := PX_e hX (i := i) (by omega)
        refine z_callq (va_runV (As := [.int (nI i)]) (rest := []) ⟨hx, hb, hml, hown, hts⟩ (c_A_get l hP (PX_l hX) he.1 i (by omega) (by omega) (PX_tr hX (by omega)) (by omega) (by omega)) (cwV 1 hts (tt_V tw_164 tw_161 tw_162 tw_163 tw_33) rfl rfl rfl (by decide +kernel) ⟨Nat.le_of_ble_eq_true rfl, Nat.le_of_ble_eq_true rfl⟩) (zPc_V hKN hP (ci := 5) (q := (R_A, F_A, 3)) rfl (PX_l hX)) rfl rfl hl.1 rfl (lv_room (Nat.le_of_ble_eq_true rfl)) d_X_lentTo_20 ⟨Nat.zero_le _, Nat.zero_le _⟩) hS (fun locs hS => ?_)
        refine z_cast (ci := 2) (q := (R_T, F_T, 12)) hx hb hts hown tw_175 hK hP (PX_t hX (k := i) (by omega)) rfl d_X_lentTo_23 ?_
        refine lv_astore (lv' := [(4, .ref (tad i)), (0, .ref (xa 0)), (1, .int v), (2, .int (nI (cnt (pTo f v) i))), (3, .int (nI i))]) hx hb d_X_lentTo_26 hl (by decide) rfl (fun ls hl => ?_)
        refine lv_aload hx hb d_X_lentTo_28 (zl hl rfl) ?_
        refine z_get (C := R_T) (T := F_T) (N := 12) (v := .int (f 6 i)) hx hb hts inT_T hown hK hP (PX_t hX (k := i) (by omega)) rfl 5 (by decide) tw_406 (fun _ h => h) rfl d_X_lentTo_30 ?_
        refine lv_iconst (v := 1) hx hb d_X_lentTo_33 (by decide) ?_
        refine lv_icmp_ne (tgt := 49) hx hb d_X_lentTo_34 (by decide) (fun c_2 => ?_) (fun c_2 => ?_)
        · refine lv_iinc (v := (nI (i + 1))) (lv' := [(3, .int (nI (i + 1))), (4, .ref (tad i)), (0, .ref (xa 0)), (1, .int v), (2, .int (nI (cnt (pTo f v) i)))]) hx hb d_X_lentTo_49 hl (k := 4) rfl (nI_1 i) (by decide) rfl (fun ls hl => ?_)
          refine lv_goto (tgt := 4) hx hb d_X_lentTo_52 (by decide) ?_
          rw [show nI (cnt (pTo f v) i) = nI (cnt (pTo f v) (i + 1)) from cnt_f (by first | (simp [pTo, *]; done) | (rw [hr2] at *; simp [pTo, *]; done))] at hl
          exact ih (i + 1) ls locs (by omega) (by omega) (lv_sub hl [2, 3, 4, 0] rfl) hS
        · have hr2 := ((PX_rel hX i hlt).2.1 c_2).2.1
          have c9 := c_2
          refine lv_aload hx hb d_X_lentTo_37 (zl hl rfl) ?_
          refine z_get (C := R_T) (T := F_T) (N := 12) (v := .int (h 2 i)) hx hb hts inT_T hown hK hP (PX_t hX (k := i) (by omega)) rfl 9 (by decide) tw_414 (fun _ h => h) rfl d_X_lentTo_39 ?_
          refine lv_iload_n hx hb d_X_lentTo_42 rfl (zl hl rfl) ?_
          refine lv_icmp_ne (tgt := 49) hx hb d_X_lentTo_43 (by decide) (fun c_3 => ?_) (fun c_3 => ?_)
          · refine lv_iinc (v := (nI (i + 1))) (lv' := [(3, .int (nI (i + 1))), (4, .ref (tad i)), (0, .ref (xa 0)), (1, .int v), (2, .int (nI (cnt (pTo f v) i)))]) hx hb d_X_lentTo_49 hl (k := 4) rfl (nI_1 i) (by decide) rfl (fun ls hl => ?_)
            refine lv_goto (tgt := 4) hx hb d_X_lentTo_52 (by decide) ?_
            rw [show nI (cnt (pTo f v) i) = nI (cnt (pTo f v) (i + 1)) from cnt_f (by first | (simp [pTo, *]; done) | (rw [hr2] at *; simp [pTo, *]; done))] at hl
            exact ih (i + 1) ls locs (by omega) (by omega) (lv_sub hl [2, 3, 4, 0] rfl) hS
          · refine lv_iinc (v := (nI (cnt (pTo f v) i + 1))) (lv' := [(2, .int (nI (cnt (pTo f v) i + 1))), (4, .ref (tad i)), (0, .ref (xa 0)), (1, .int v), (3, .int (nI i))]) hx hb d_X_lentTo_46 hl (k := 3) rfl (nI_1 _) (by decide) rfl (fun ls hl => ?_)
            refine lv_iinc (v := (nI (i + 1))) (lv' := [(3, .int (nI (i + 1))), (2, .int (nI (cnt (pTo f v) i + 1))), (4, .ref (tad i)), (0, .ref (xa 0)), (1, .int v)]) hx hb d_X_lentTo_49 hl (k := 4) rfl (nI_1 i) (by decide) rfl (fun ls hl => ?_)
            refine lv_goto (tgt := 4) hx hb d_X_lentTo_52 (by decide) ?_
            rw [show nI (cnt (pTo f v) i + 1) = nI (cnt (pTo f v) (i + 1)) from cnt_t2 (by first | (simp [pTo, *]; done) | (rw [hr2] at *; simp [pTo, *]; done))] at hl
            exact ih (i + 1) ls locs (by omega) (by omega) (lv_sub hl [3, 4, 1, 0] rfl) hS
  have hl : lv_has ls 5 [(0, .ref (xa 0)), (1, .int v)] := hl
  refine lv_iconst (v := 0) hx hb d_X_lentTo_0 (by decide) ?_
  refine lv_istore_n (lv' := [(2, .int 0), (0, .ref (xa 0)), (1, .int v)]) hx hb d_X_lentTo_1 rfl hl (by decide) rfl (fun ls hl => ?_)
  refine lv_iconst (v := 0) hx hb d_X_lentTo_2 (by decide) ?_
  refine lv_istore_n (lv' := [(3, .int 0), (2, .int 0), (0, .ref (xa 0)), (1, .int v)]) hx hb d_X_lentTo_3 rfl hl (by decide) rfl (fun ls hl => ?_)
  exact key (n + 1) 0 ls [] (Nat.zero_le _) (by omega) (lv_sub hl [2, 3, 1, 0] rfl) hS
set_option maxHeartbeats 4000000 in
set_option maxRecDepth 100000 in
theorem c_X_waitingIn (l : Launch) {D : va_G} {ws : va_W} {H : Heap} (hP : va_P D vwCl ws H) {kk : Nat → ClassId} {xa qad gad tad : Nat → Nat} {e0 : Nat} {time tok : Int32} {n : Nat} {f : FF} {ky : Nat → Int64} {h : FF} {qar gar arr : Nat → Option Nat} {ea cap : Nat} {md : Int32} (hX : PX kk xa qad gad tad e0 time tok n f ky h qar gar arr ea cap md ws) (qi : Nat) (hqi : qi < 4) : Met l y_X_waitingIn (Cond.code y_X_waitingIn b_X_waitingIn 5 (some .int) :: TT) ({ frames := 4, cells := 0, slots := 0, locals := 160 }) (zPc [.ref (xa 0), .ref (qad qi)] H D vwCl (TY kk)) (zQi (nI (cnt (pWq f (nI qi)) n)) H) 0 0 (fun _ => False) := by
  refine z_body (by decide) (Nat.le_of_ble_eq_true rfl) ?_
  intro p e s m below meth c ls C0 hH hKN hl
  obtain ⟨hx, hb, hr, hts, hown, hlocks, hml⟩ := C0
  subst hH
  have hK := hKN.1
  have hN := hKN.2
  have hS : va_S (fun _ => False) s.heap s.heap [] := va_S.rf
  have hn := PX_n hX
  have key : ∀ (r i : Nat) (ls : Array Slot) (locs : List Loc), i ≤ n → n + 1 ≤ i + r → lv_has ls 5 [(0, .ref (xa 0)), (1, .ref (qad qi)), (2, .int (nI (cnt (pWq f (nI qi)) i))), (3, .int (nI i))] → va_S (fun _ => False) s.heap s.heap locs → W p l e ({ frames := 4, cells := 0, slots := 0, locals := 160 }) s m ([.ref (xa 0), .ref (qad qi)] : List Value).toArray below meth c s.heap locs 0 0 (MQ below (zQi (nI (cnt (pWq f (nI qi)) n)) s.heap) ([.ref (xa 0), .ref (qad qi)] : List Value).toArray s 0 0 (fun _ => False)) (F0 m 4 ls []) := by
    intro r
    induction r with
    | zero => intro i ls locs h1 h2; omega
    | succ r ih =>
      intro i ls locs hi hir hl hS
      refine lv_iload_n hx hb d_X_waitingIn_4 rfl (zl hl rfl) ?_
      refine lv_aload_n hx hb d_X_waitingIn_5 rfl (zl hl rfl) ?_
      refine z_get (C := R_X) (T := F_X) (N := 5) (v := .ref (xa 3)) hx hb hts inT_X hown hK hP (PX_x hX) rfl 2 (by decide) tw_135 (fun _ h => h) rfl d_X_waitingIn_6 ?_
      refine z_calli (va_runV (As := []) (rest := [.int (nI i)]) ⟨hx, hb, hml, hown, hts⟩ (c_A_size l hP (PX_l hX)) (cwV 0 hts (tt_V tw_160 tw_157 tw_158 tw_159 tw_33) rfl rfl rfl (by decide +kernel) ⟨Nat.le_of_ble_eq_true rfl, Nat.le_of_ble_eq_true rfl⟩) (zPc_V hKN hP (ci := 5) (q := (R_A, F_A, 3)) rfl (PX_l hX)) rfl rfl hl.1 rfl (lv_room (Nat.le_of_ble_eq_true rfl)) d_X_waitingIn_9 ⟨Nat.zero_le _, Nat.zero_le _⟩) hS (fun locs hS => ?_)
      refine lv_icmp_ge (tgt := 54) hx hb d_X_waitingIn_12 (by decide) (fun c_1 => ?_) (fun c_1 => ?_)
      · have hin := z_ge hi (by omega) c_1
        refine lv_iload_n hx hb d_X_waitingIn_54 rfl (zl hl rfl) ?_
        exact z_iret hx hb hr hlocks hS (by rw [hin]) d_X_waitingIn_55
      · have hlt := z_lt hi (by omega) c_1
        refine lv_aload_n hx hb d_X_waitingIn_15 rfl (zl hl rfl) ?_
        refine z_get (C := R_X) (T := F_X) (N := 5) (v := .ref (xa 3)) hx hb hts inT_X hown hK hP (PX_x hX) rfl 2 (by decide) tw_135 (fun _ h => h) rfl d_X_waitingIn_16 ?_
        refine lv_iload_n hx hb d_X_waitingIn_19 rfl (zl hl rfl) ?_
        have he := PX_e hX (i := i) (by omega)
        refine z_callq (va_runV (As := [.int (nI i)]) (rest := []) ⟨hx, hb, hml, hown, hts⟩ (c_A_get l hP (PX_l hX) he.1 i (by omega) (by omega) (PX_tr hX (by omega)) (by omega) (by omega)) (cwV 1 hts (tt_V tw_164 tw_161 tw_162 tw_163 tw_33) rfl rfl rfl (by decide +kernel) ⟨Nat.le_of_ble_eq_true rfl, Nat.le_of_ble_eq_true rfl⟩) (zPc_V hKN hP (ci := 5) (q := (R_A, F_A, 3)) rfl (PX_l hX)) rfl rfl hl.1 rfl (lv_room (Nat.le_of_ble_eq_true rfl)) d_X_waitingIn_20 ⟨Nat.zero_le _, Nat.zero_le _⟩) hS (fun locs hS => ?_)
        refine z_cast (ci := 2) (q := (R_T, F_T, 12)) hx hb hts hown tw_175 hK hP (PX_t hX (k := i) (by omega)) rfl d_X_waitingIn_23 ?_
        refine lv_astore (lv' := [(4, .ref (tad i)), (0, .ref (xa 0)), (1, .ref (qad qi)), (2, .int (nI (cnt (pWq f (nI qi)) i))), (3, .int (nI i))]) hx hb d_X_waitingIn_26 hl (by decide) rfl (fun ls hl => ?_)
        refine lv_aload hx hb d_X_waitingIn_28 (zl hl rfl) ?_
        refine z_get (C := R_T) (T := F_T) (N := 12) (v := .int (f 6 i)) hx hb hts inT_T hown hK hP (PX_t hX (k := i) (by omega)) rfl 5 (by decide) tw_406 (fun _ h => h) rfl d_X_waitingIn_30 ?_
        refine lv_if_ne (tgt := 48) hx hb d_X_waitingIn_33 (by decide) (fun c_2 => ?_) (fun c_2 => ?_)
        · refine lv_iinc (v := (nI (i + 1))) (lv' := [(3, .int (nI (i + 1))), (4, .ref (tad i)), (0, .ref (xa 0)), (1, .ref (qad qi)), (2, .int (nI (cnt (pWq f (nI qi)) i)))]) hx hb d_X_waitingIn_48 hl (k := 4) rfl (nI_1 i) (by decide) rfl (fun ls hl => ?_)
          refine lv_goto (tgt := 4) hx hb d_X_waitingIn_51 (by decide) ?_
          rw [show nI (cnt (pWq f (nI qi)) i) = nI (cnt (pWq f (nI qi)) (i + 1)) from cnt_f (by simp [pWq, *])] at hl
          exact ih (i + 1) ls locs (by omega) (by omega) (lv_sub hl [2, 3, 4, 0] rfl) hS
        · refine lv_aload hx hb d_X_waitingIn_36 (zl hl rfl) ?_
          refine z_get (C := R_T) (T := F_T) (N := 12) (v := .ref (qad (qx f i))) hx hb hts inT_T hown hK hP (PX_t hX (k := i) (by omega)) rfl 1 (by decide) tw_400 (fun _ h => h) rfl d_X_waitingIn_38 ?_
          refine lv_aload_n hx hb d_X_waitingIn_41 rfl (zl hl rfl) ?_
          refine lv_acmp_ne (tgt := 48) (rx := (some (qad (qx f i)))) (ry := (some (qad qi))) hx hb d_X_waitingIn_42 (by decide) (fun c_3 => ?_) (fun c_3 => ?_)
          · have hq9 : ¬ f 1 i = nI qi := fun z => c_3 (by rw [(PX_okq hX i hlt).1] at z; rw [(nI_eq (by have := (PX_okq hX i hlt).2; omega) (by omega)).mp z])
            refine lv_iinc (v := (nI (i + 1))) (lv' := [(3, .int (nI (i + 1))), (4, .ref (tad i)), (0, .ref (xa 0)), (1, .ref (qad qi)), (2, .int (nI (cnt (pWq f (nI qi)) i)))]) hx hb d_X_waitingIn_48 hl (k := 4) rfl (nI_1 i) (by decide) rfl (fun ls hl => ?_)
            refine lv_goto (tgt := 4) hx hb d_X_waitingIn_51 (by decide) ?_
            rw [show nI (cnt (pWq f (nI qi)) i) = nI (cnt (pWq f (nI qi)) (i + 1)) from cnt_f (by simp [pWq, *])] at hl
            exact ih (i + 1) ls locs (by omega) (by omega) (lv_sub hl [2, 3, 4, 0] rfl) hS
          · have hq9 : f 1 i = nI qi := by rw [(PX_okq hX i hlt).1, PX_qi hX _ _ (PX_okq hX i hlt).2 hqi (Option.some.inj c_3)]
            refine lv_iinc (v := (nI (cnt (pWq f (nI qi)) i + 1))) (lv' := [(2, .int (nI (cnt (pWq f (nI qi)) i + 1))), (4, .ref (tad i)), (0, .ref (xa 0)), (1, .ref (qad qi)), (3, .int (nI i))]) hx hb d_X_waitingIn_45 hl (k := 3) rfl (nI_1 _) (by decide) rfl (fun ls hl => ?_)
            refine lv_iinc (v := (nI (i + 1))) (lv' := [(3, .int (nI (i + 1))), (2, .int (nI (cnt (pWq f (nI qi)) i + 1))), (4, .ref (tad i)), (0, .ref (xa 0)), (1, .ref (qad qi))]) hx hb d_X_waitingIn_48 hl (k := 4) rfl (nI_1 i) (by decide) rfl (fun ls hl => ?_)
            refine lv_goto (tgt := 4) hx hb d_X_waitingIn_51 (by decide) ?_
            rw [show nI (cnt (pWq f (nI qi)) i + 1) = nI (cnt (pWq f (nI qi)) (i + 1)) from cnt_t2 (by simp [pWq, *])] at hl
            exact ih (i + 1) ls locs (by omega) (by omega) (lv_sub hl [3, 4, 1, 0] rfl) hS
  have hl : lv_has ls 5 [(0, .ref (xa 0)), (1, .ref (qad qi))] := hl
  refine lv_iconst (v := 0) hx hb d_X_waitingIn_0 (by decide) ?_
  refine lv_istore_n (lv' := [(2, .int 0), (0, .ref (xa 0)), (1, .ref (qad qi))]) hx hb d_X_waitingIn_1 rfl hl (by decide) rfl (fun ls hl => ?_)
  refine lv_iconst (v := 0) hx hb d_X_waitingIn_2 (by decide) ?_
  refine lv_istore_n (lv' := [(3, .int 0), (2, .int 0), (0, .ref (xa 0)), (1, .ref (qad qi))]) hx hb d_X_waitingIn_3 rfl hl (by decide) rfl (fun ls hl => ?_)
  exact key (n + 1) 0 ls [] (Nat.zero_le _) (by omega) (lv_sub hl [2, 3, 1, 0] rfl) hS
set_option maxHeartbeats 4000000 in
set_option maxRecDepth 100000 in
theorem c_X_liveTasks (l : Launch) {D : va_G} {ws : va_W} {H : Heap} (hP : va_P D vwCl ws H) {kk : Nat → ClassId} {xa qad gad tad : Nat → Nat} {e0 : Nat} {time tok : Int32} {n : Nat} {f : FF} {ky : Nat → Int64} {h : FF} {qar gar arr : Nat → Option Nat} {ea cap : Nat} {md : Int32} (hX : PX kk xa qad gad tad e0 time tok n f ky h qar gar arr ea cap md ws)  : Met l y_X_liveTasks (Cond.code y_X_liveTasks b_X_liveTasks 1 (some .int) :: TT) ({ frames := 5, cells := 0, slots := 0, locals := 200 }) (zPc [.ref (xa 0)] H D vwCl (TY kk)) (zQi (nI (cnt (pLive f) n)) H) 0 0 (fun _ => False) := by
  refine z_body (by decide) (Nat.le_of_ble_eq_true rfl) ?_
  intro p e s m below meth c ls C0 hH hKN hl
  obtain ⟨hx, hb, hr, hts, hown, hlocks, hml⟩ := C0
  subst hH
  have hK := hKN.1
  have hN := hKN.2
  have hS : va_S (fun _ => False) s.heap s.heap [] := va_S.rf
  have hn := PX_n hX
  have hl : lv_has ls 1 [(0, .ref (xa 0))] := hl
  refine lv_aload_n hx hb d_X_liveTasks_0 rfl (zl hl rfl) ?_
  refine lv_iconst (v := 0) hx hb d_X_liveTasks_1 (by decide) ?_
  refine z_calli (va_runV (As := [.int 0]) (rest := []) ⟨hx, hb, hml, hown, hts⟩ (c_X_tasksThatAre l hP hX 0) (cwV 1 hts (tt_V tw_206 tw_203 tw_205 tw_3 tw_30) rfl rfl rfl (by decide +kernel) ⟨Nat.le_of_ble_eq_true rfl, Nat.le_of_ble_eq_true rfl⟩) (zPc_V hKN hP (ci := 3) (q := (R_X, F_X, 5)) rfl (PX_x hX)) rfl rfl hl.1 rfl (lv_room (Nat.le_of_ble_eq_true rfl)) d_X_liveTasks_2 ⟨Nat.zero_le _, Nat.zero_le _⟩) hS (fun locs hS => ?_)
  refine lv_aload_n hx hb d_X_liveTasks_5 rfl (zl hl rfl) ?_
  refine lv_iconst (v := 1) hx hb d_X_liveTasks_6 (by decide) ?_
  refine z_calli (va_runV (As := [.int 1]) (rest := [.int (nI (cnt (pSt f 0) n))]) ⟨hx, hb, hml, hown, hts⟩ (c_X_tasksThatAre l hP hX 1) (cwV 1 hts (tt_V tw_206 tw_203 tw_205 tw_3 tw_30) rfl rfl rfl (by decide +kernel) ⟨Nat.le_of_ble_eq_true rfl, Nat.le_of_ble_eq_true rfl⟩) (zPc_V hKN hP (ci := 3) (q := (R_X, F_X, 5)) rfl (PX_x hX)) rfl rfl hl.1 rfl (lv_room (Nat.le_of_ble_eq_true rfl)) d_X_liveTasks_7 ⟨Nat.zero_le _, Nat.zero_le _⟩) hS (fun locs hS => ?_)
  refine lv_iadd hx hb d_X_liveTasks_10 ?_
  exact z_iret hx hb hr hlocks hS (live_eq f n) d_X_liveTasks_11
