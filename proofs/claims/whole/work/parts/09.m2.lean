theorem zle_nlt {a b : Int32} (h : a ≤ b) : ¬ b < a := Int32.not_lt.mpr h
theorem znle_lt {a b : Int32} (h : ¬ a ≤ b) : b < a := Int32.not_le.mp h
theorem nI_m1 {b : Nat} (h : b < 2 ^ 31) : ¬ nI b = -1 := fun z => by
  have h1 := nI_pos (n := b) h
  rw [z] at h1
  exact h1 (by decide)
theorem lgc {x y : Int64} : lg_cmp x y = 0 ↔ x = y := by
  unfold lg_cmp
  by_cases h : x > y
  · rw [if_pos h]
    refine ⟨fun z => absurd z (by decide), fun z => ?_⟩
    rw [z] at h
    exact absurd h Int64.lt_irrefl
  · rw [if_neg h]
    by_cases h2 : x = y
    · simp [h2]
    · rw [if_neg h2]
      exact ⟨fun z => absurd z (by decide), fun z => absurd z h2⟩
theorem z_sw (x : Int32) (hi : Nat) (hh : hi < 2 ^ 30) : (x.toInt < 0 ∨ (hi : Int) < x.toInt) ∨ ∃ k : Nat, k ≤ hi ∧ x = nI k := by
  by_cases h : x.toInt < 0 ∨ (hi : Int) < x.toInt
  · exact Or.inl h
  · refine Or.inr ⟨x.toInt.toNat, by omega, Int32.toInt_inj.mp ?_⟩
    rw [nI_toInt (by omega)]
    omega
theorem fnd_at {P : Nat → Bool} : ∀ (r i k : Nat), i ≤ k → k < i + r → (∀ j, i ≤ j → j < k → P j = false) → P k = true → fnd P i r = some k
  | 0, i, k, h1, h2, _, _ => by omega
  | r + 1, i, k, h1, h2, h3, h4 => by
    unfold fnd
    by_cases e : i = k
    · subst e
      rw [if_pos h4]
    · rw [if_neg (by rw [h3 i (Nat.le_refl _) (by omega)]; decide)]
      exact fnd_at r (i + 1) k (by omega) (by omega) (fun j a b => h3 j (by omega) b) h4
theorem fnd_no {P : Nat → Bool} : ∀ (r i : Nat), (∀ j, i ≤ j → j < i + r → P j = false) → fnd P i r = none
  | 0, _, _ => rfl
  | r + 1, i, h => by
    unfold fnd
    rw [if_neg (by rw [h i (Nat.le_refl _) (by omega)]; decide)]
    exact fnd_no r (i + 1) (fun j a b => h j (by omega) (by omega))
theorem fnd_some {P : Nat → Bool} : ∀ {r i k : Nat}, fnd P i r = some k → i ≤ k ∧ k < i + r ∧ P k = true
  | 0, _, _, h => by simp [fnd] at h
  | r + 1, i, k, h => by
    unfold fnd at h
    by_cases e : P i = true
    · rw [if_pos e] at h
      cases h
      exact ⟨Nat.le_refl _, by omega, e⟩
    · rw [if_neg e] at h
      have := fnd_some h
      exact ⟨by omega, by omega, this.2.2⟩
theorem fnd_congr {P Q : Nat → Bool} : ∀ (r i : Nat), (∀ j, i ≤ j → j < i + r → P j = Q j) → fnd P i r = fnd Q i r
  | 0, _, _ => rfl
  | r + 1, i, h => by
    unfold fnd
    rw [h i (Nat.le_refl _) (by omega), fnd_congr r (i + 1) (fun j a b => h j (by omega) (by omega))]
theorem lstD_some {P : Nat → Bool} : ∀ {n k : Nat}, lstD P n = some k → k < n ∧ P k = true
  | 0, _, h => by simp [lstD] at h
  | n + 1, k, h => by
    unfold lstD at h
    by_cases e : P n = true
    · rw [if_pos e] at h
      cases h
      exact ⟨by omega, e⟩
    · rw [if_neg e] at h
      have := lstD_some h
      exact ⟨by omega, this.2⟩
theorem lstD_t {P : Nat → Bool} {n : Nat} (h : P n = true) : lstD P (n + 1) = some n := by
  unfold lstD
  rw [if_pos h]
theorem lstD_f {P : Nat → Bool} {n : Nat} (h : P n = false) : lstD P (n + 1) = lstD P n := by
  show (if P n = true then some n else lstD P n) = _
  rw [if_neg (by rw [h]; decide)]
theorem lstD_congr {P Q : Nat → Bool} : ∀ n, (∀ k, k < n → P k = Q k) → lstD P n = lstD Q n
  | 0, _ => rfl
  | n + 1, h => by
    unfold lstD
    rw [h n (by omega), lstD_congr n (fun k hk => h k (by omega))]
def pr (i : Nat) : Int32 := match i with
  | 0 => -1
  | j + 1 => nI j
theorem pr_sub (n : Nat) : nI n - 1 = pr n := by
  cases n with
  | zero => decide
  | succ n => exact nI_pred n
theorem pr_dec (j : Nat) : nI j + (-1) = pr j := by
  cases j with
  | zero => decide
  | succ n => exact pk_m1 n
def sTask (t : Int32) (n : Nat) : Bool := decide (0 ≤ t) && decide (t < nI n)
theorem sTask_t {t : Int32} {n : Nat} (hn : n < 2 ^ 31) (h : sTask t n = true) : ∃ k : Nat, k < n ∧ t = nI k := by
  simp only [sTask, Bool.and_eq_true, decide_eq_true_eq] at h
  obtain ⟨j, hj, rfl⟩ := nI_of (x := t) (Int32.not_lt.mpr h.1)
  exact ⟨j, (nI_ltI hj hn).mp h.2, rfl⟩
theorem sTask_nI {k n : Nat} (hk : k < n) (hn : n < 2 ^ 31) : sTask (nI k) n = true := by
  simp only [sTask, Bool.and_eq_true, decide_eq_true_eq]
  exact ⟨nI_pos' (by omega), nI_lt hk hn⟩
def sLeast (w : Int32) : Int32 := if 4 ≤ w then 0 else 1
def sGreat (w : Int32) : Int32 := if w = 0 then 200 else if w = 1 then 20 else if w = 2 then 100 else if w = 3 then 1000 else if w = 4 then 100 else if w = 5 then 1000 else 8
def pKey (f : Nat → Nat → Int32) (ky : Nat → Int64) (time : Int32) (qi : Nat) (k : Int64) (t : Nat) : Bool := decide (f 1 t = nI qi) && decide (ky t = k) && !decide (k = 0) && (sLive (f 6 t) || (decide (f 6 t = 2) && decide (time - f 7 t ≤ f 10 (6 * qi + 5))))
def fBetter (f : Nat → Nat → Int32) (time : Int32) (best : Option Nat) (k : Nat) : Bool := match best with
  | none => true
  | some b => decide (wgt f time b < wgt f time k) || (decide (wgt f time k = wgt f time b) && decide (f 7 k < f 7 b))
def fStep (f : Nat → Nat → Int32) (time : Int32) (n : Nat) (q : Int32) (best : Option Nat) (k : Nat) : Option Nat := if (decide (f 1 k = q) && pHad f time n k && fBetter f time best k) = true then some k else best
def fst (f : Nat → Nat → Int32) (time : Int32) (n : Nat) (q : Int32) : Nat → Option Nat
  | 0 => none
  | k + 1 => fStep f time n q (fst f time n q k) k
theorem fst_lt {f : Nat → Nat → Int32} {time : Int32} {n : Nat} {q : Int32} : ∀ {i b : Nat}, fst f time n q i = some b → b < i ∧ f 1 b = q ∧ pHad f time n b = true
  | 0, b, h => by simp [fst] at h
  | i + 1, b, h => by
    unfold fst fStep at h
    split at h
    · rename_i hc
      cases h
      simp only [Bool.and_eq_true, decide_eq_true_eq] at hc
      exact ⟨by omega, hc.1.1, hc.1.2⟩
    · have := fst_lt h
      exact ⟨by omega, this.2⟩
set_option maxHeartbeats 4000000 in
set_option maxRecDepth 100000 in
theorem c_M_thrown (l : Launch) {D : va_G} {ws : va_W} {H : Heap} (hP : va_P D vwCl ws H) {kk : Nat → ClassId} {ad : Nat → Nat} {thr time tok : Int32} {n : Nat} {f : Nat → Nat → Int32} {ky : Nat → Int64} (hM : PM kk ad thr time n tok f ky ws)  : Met l y_M_thrown (Cond.code y_M_thrown b_M_thrown 1 (some .int) :: TT) ({ frames := 1, cells := 0, slots := 0, locals := 40 }) (zPc [.ref (ad 0)] H D vwCl (TY kk)) (zQi thr H) 0 0 (fun _ => False) := by
  refine z_body (by decide) (Nat.le_of_ble_eq_true rfl) ?_
  intro p e s m below meth c ls C0 hH hKN hl
  obtain ⟨hx, hb, hr, hts, hown, hlocks, hml⟩ := C0
  subst hH
  have hK := hKN.1
  have hN := hKN.2
  have hS : va_S (fun _ => False) s.heap s.heap [] := va_S.rf
  have hl : lv_has ls 1 [(0, .ref (ad 0))] := hl
  refine lv_aload_n hx hb d_M_thrown_0 rfl (zl hl rfl) ?_
  refine z_get (C := R_M) (T := F_M) (N := 15) (v := .int thr) hx hb hts inT_M hown hK hP (PM_o hM) rfl 0 (by decide) tw_573 (fun _ h => h) rfl d_M_thrown_1 ?_
  exact z_iret hx hb hr hlocks hS (rfl) d_M_thrown_4
set_option maxHeartbeats 4000000 in
set_option maxRecDepth 100000 in
theorem c_M_isTask (l : Launch) {D : va_G} {ws : va_W} {H : Heap} (hP : va_P D vwCl ws H) {kk : Nat → ClassId} {ad : Nat → Nat} {thr time tok : Int32} {n : Nat} {f : Nat → Nat → Int32} {ky : Nat → Int64} (hM : PM kk ad thr time n tok f ky ws) (t : Int32) : Met l y_M_isTask (Cond.code y_M_isTask b_M_isTask 2 (some .boolean) :: TT) ({ frames := 1, cells := 0, slots := 0, locals := 40 }) (zPc [.ref (ad 0), .int t] H D vwCl (TY kk)) (zQi (zb (sTask t n)) H) 0 0 (fun _ => False) := by
  refine z_body (by decide) (Nat.le_of_ble_eq_true rfl) ?_
  intro p e s m below meth c ls C0 hH hKN hl
  obtain ⟨hx, hb, hr, hts, hown, hlocks, hml⟩ := C0
  subst hH
  have hK := hKN.1
  have hN := hKN.2
  have hS : va_S (fun _ => False) s.heap s.heap [] := va_S.rf
  have hl : lv_has ls 2 [(0, .ref (ad 0)), (1, .int t)] := hl
  refine lv_iload_n hx hb d_M_isTask_0 rfl (zl hl rfl) ?_
  refine lv_if_lt (tgt := 16) hx hb d_M_isTask_1 (by decide) (fun c_1 => ?_) (fun c_1 => ?_)
  · have b1 : ¬ 0 ≤ t := zlt_nle c_1
    refine lv_iconst (v := 0) hx hb d_M_isTask_16 (by decide) ?_
    exact z_zret hx hb hr hlocks hS (by simp [sTask, zb, *]) d_M_isTask_17
  · have b1 : 0 ≤ t := znlt_le c_1
    refine lv_iload_n hx hb d_M_isTask_4 rfl (zl hl rfl) ?_
    refine lv_aload_n hx hb d_M_isTask_5 rfl (zl hl rfl) ?_
    refine z_get (C := R_M) (T := F_M) (N := 15) (v := .int (nI n)) hx hb hts inT_M hown hK hP (PM_o hM) rfl 2 (by decide) tw_575 (fun _ h => h) rfl d_M_isTask_6 ?_
    refine lv_icmp_ge (tgt := 16) hx hb d_M_isTask_9 (by decide) (fun c_2 => ?_) (fun c_2 => ?_)
    · have b2 := zle_nlt c_2
      refine lv_iconst (v := 0) hx hb d_M_isTask_16 (by decide) ?_
      exact z_zret hx hb hr hlocks hS (by simp [sTask, zb, *]) d_M_isTask_17
    · have b2 := znle_lt c_2
      refine lv_iconst (v := 1) hx hb d_M_isTask_12 (by decide) ?_
      refine lv_goto (tgt := 17) hx hb d_M_isTask_13 (by decide) ?_
      exact z_zret hx hb hr hlocks hS (by simp [sTask, zb, *]) d_M_isTask_17
set_option maxHeartbeats 4000000 in
set_option maxRecDepth 100000 in
theorem c_M_least (l : Launch) {D : va_G} {tys : List (ClassId × FieldType)} {ws : va_W} {H : Heap} (hP : va_P D vwCl ws H) (v : Int32) : Met l y_M_least (Cond.code y_M_least b_M_least 1 (some .int) :: TT) ({ frames := 1, cells := 0, slots := 0, locals := 40 }) (zPc [.int v] H D vwCl tys) (zQi (sLeast v) H) 0 0 (fun _ => False) := by
  refine z_body (by decide) (Nat.le_of_ble_eq_true rfl) ?_
  intro p e s m below meth c ls C0 hH hKN hl
  obtain ⟨hx, hb, hr, hts, hown, hlocks, hml⟩ := C0
  subst hH
  have hK := hKN.1
  have hN := hKN.2
  have hS : va_S (fun _ => False) s.heap s.heap [] := va_S.rf
  have hl : lv_has ls 1 [(0, .int v)] := hl
  refine lv_iload_n hx hb d_M_least_0 rfl (zl hl rfl) ?_
  refine lv_iconst (v := 4) hx hb d_M_least_1 (by decide) ?_
  refine lv_icmp_ge (tgt := 9) hx hb d_M_least_2 (by decide) (fun c_1 => ?_) (fun c_1 => ?_)
  · refine lv_iconst (v := 0) hx hb d_M_least_9 (by decide) ?_
    exact z_iret hx hb hr hlocks hS (by simp [sLeast, *]) d_M_least_10
  · refine lv_iconst (v := 1) hx hb d_M_least_5 (by decide) ?_
    refine lv_goto (tgt := 10) hx hb d_M_least_6 (by decide) ?_
    exact z_iret hx hb hr hlocks hS (by simp [sLeast, *]) d_M_least_10
set_option maxHeartbeats 4000000 in
set_option maxRecDepth 100000 in
theorem c_M_greatest (l : Launch) {D : va_G} {tys : List (ClassId × FieldType)} {ws : va_W} {H : Heap} (hP : va_P D vwCl ws H) (v : Int32) : Met l y_M_greatest (Cond.code y_M_greatest b_M_greatest 1 (some .int) :: TT) ({ frames := 1, cells := 0, slots := 0, locals := 40 }) (zPc [.int v] H D vwCl tys) (zQi (sGreat v) H) 0 0 (fun _ => False) := by
  refine z_body (by decide) (Nat.le_of_ble_eq_true rfl) ?_
  intro p e s m below meth c ls C0 hH hKN hl
  obtain ⟨hx, hb, hr, hts, hown, hlocks, hml⟩ := C0
  subst hH
  have hK := hKN.1
  have hN := hKN.2
  have hS : va_S (fun _ => False) s.heap s.heap [] := va_S.rf
  have hl : lv_has ls 1 [(0, .int v)] := hl
  refine lv_iload_n hx hb d_M_greatest_0 rfl (zl hl rfl) ?_
  rcases z_sw v 5 (by decide) with d_1 | ⟨k9, hk9, hkk⟩
  · have n_2 : ¬ v = 0 := fun h => absurd (h ▸ d_1) (by decide)
    have n_3 : ¬ v = 1 := fun h => absurd (h ▸ d_1) (by decide)
    have n_4 : ¬ v = 2 := fun h => absurd (h ▸ d_1) (by decide)
    have n_5 : ¬ v = 3 := fun h => absurd (h ▸ d_1) (by decide)
    have n_6 : ¬ v = 4 := fun h => absurd (h ▸ d_1) (by decide)
    have n_7 : ¬ v = 5 := fun h => absurd (h ▸ d_1) (by decide)
    refine lv_tableOut (tgt := 54) hx hb d_M_greatest_1 d_1 (by decide) ?_
    refine lv_bipush (v := 8) hx hb d_M_greatest_54 (by decide) ?_
    exact z_iret hx hb hr hlocks hS (by first | rfl | simp [sGreat, *]) d_M_greatest_56
  · obtain rfl | rfl | rfl | rfl | rfl | rfl : k9 = 0 ∨ k9 = 1 ∨ k9 = 2 ∨ k9 = 3 ∨ k9 = 4 ∨ k9 = 5 := by omega
    · have e9 : v = 0 := hkk
      clear hkk
      subst e9
      refine lv_tableIn (tgt := 40) hx hb d_M_greatest_1 (by decide) (by decide) rfl (by decide) ?_
      refine lv_sipush (v := 200) hx hb d_M_greatest_40 (by decide) ?_
      exact z_iret hx hb hr hlocks hS (by first | rfl | simp [sGreat, *]) d_M_greatest_43
    · have e9 : v = 1 := hkk
      clear hkk
      subst e9
      refine lv_tableIn (tgt := 44) hx hb d_M_greatest_1 (by decide) (by decide) rfl (by decide) ?_
      refine lv_bipush (v := 20) hx hb d_M_greatest_44 (by decide) ?_
      exact z_iret hx hb hr hlocks hS (by first | rfl | simp [sGreat, *]) d_M_greatest_46
    · have e9 : v = 2 := hkk
      clear hkk
      subst e9
      refine lv_tableIn (tgt := 47) hx hb d_M_greatest_1 (by decide) (by decide) rfl (by decide) ?_
      refine lv_bipush (v := 100) hx hb d_M_greatest_47 (by decide) ?_
      exact z_iret hx hb hr hlocks hS (by first | rfl | simp [sGreat, *]) d_M_greatest_49
    · have e9 : v = 3 := hkk
      clear hkk
      subst e9
      refine lv_tableIn (tgt := 50) hx hb d_M_greatest_1 (by decide) (by decide) rfl (by decide) ?_
      refine lv_sipush (v := 1000) hx hb d_M_greatest_50 (by decide) ?_
      exact z_iret hx hb hr hlocks hS (by first | rfl | simp [sGreat, *]) d_M_greatest_53
    · have e9 : v = 4 := hkk
      clear hkk
      subst e9
      refine lv_tableIn (tgt := 47) hx hb d_M_greatest_1 (by decide) (by decide) rfl (by decide) ?_
      refine lv_bipush (v := 100) hx hb d_M_greatest_47 (by decide) ?_
      exact z_iret hx hb hr hlocks hS (by first | rfl | simp [sGreat, *]) d_M_greatest_49
    · have e9 : v = 5 := hkk
      clear hkk
      subst e9
      refine lv_tableIn (tgt := 50) hx hb d_M_greatest_1 (by decide) (by decide) rfl (by decide) ?_
      refine lv_sipush (v := 1000) hx hb d_M_greatest_50 (by decide) ?_
      exact z_iret hx hb hr hlocks hS (by first | rfl | simp [sGreat, *]) d_M_greatest_53
set_option maxHeartbeats 4000000 in
set_option maxRecDepth 100000 in
theorem c_M_weight (l : Launch) {D : va_G} {ws : va_W} {H : Heap} (hP : va_P D vwCl ws H) {kk : Nat → ClassId} {ad : Nat → Nat} {thr time tok : Int32} {n : Nat} {f : Nat → Nat → Int32} {ky : Nat → Int64} (hM : PM kk ad thr time n tok f ky ws) (t : Nat) (ht : t < 400) (hq : f 1 t = nI (qx f t)) (hq2 : qx f t < 4) : Met l y_M_weight (Cond.code y_M_weight b_M_weight 4 (some .int) :: TT) ({ frames := 1, cells := 0, slots := 0, locals := 40 }) (zPc [.ref (ad 0), .int (nI t)] H D vwCl (TY kk)) (zQi (wgt f time t) H) 0 0 (fun _ => False) := by
  refine z_body (by decide) (Nat.le_of_ble_eq_true rfl) ?_
  intro p e s m below meth c ls C0 hH hKN hl
  obtain ⟨hx, hb, hr, hts, hown, hlocks, hml⟩ := C0
  subst hH
  have hK := hKN.1
  have hN := hKN.2
  have hS : va_S (fun _ => False) s.heap s.heap [] := va_S.rf
  have hl : lv_has ls 4 [(0, .ref (ad 0)), (1, .int (nI t))] := hl
  refine lv_aload_n hx hb d_M_weight_0 rfl (zl hl rfl) ?_
  refine z_get (C := R_M) (T := F_M) (N := 15) (v := .ref (ad 10)) hx hb hts inT_M hown hK hP (PM_o hM) rfl 13 (by decide) tw_586 (fun _ h => h) rfl d_M_weight_1 ?_
  refine lv_bipush (v := 6) hx hb d_M_weight_4 (by decide) ?_
  refine lv_aload_n hx hb d_M_weight_6 rfl (zl hl rfl) ?_
  refine z_get (C := R_M) (T := F_M) (N := 15) (v := .ref (ad 1)) hx hb hts inT_M hown hK hP (PM_o hM) rfl 4 (by decide) tw_577 (fun _ h => h) rfl d_M_weight_7 ?_
  refine lv_iload_n hx hb d_M_weight_10 rfl (zl hl rfl) ?_
  refine z_iald hx hb hK hP 0 (PM_1 hM) rfl t rfl (by omega) (by decide) d_M_weight_11 ?_
  refine lv_imul hx hb d_M_weight_12 ?_
  refine lv_iconst (v := 4) hx hb d_M_weight_13 (by decide) ?_
  refine lv_iadd hx hb d_M_weight_14 ?_
  refine z_iald hx hb hK hP 0 (PM_10 hM) rfl (6 * qx f t + 4) (by rw [hq]; exact z_idx (qx f t) 4) (by omega) (by decide) d_M_weight_15 ?_
  refine lv_istore_n (lv' := [(2, .int (f 10 (6 * qx f t + 4))), (0, .ref (ad 0)), (1, .int (nI t))]) hx hb d_M_weight_16 rfl hl (by decide) rfl (fun ls hl => ?_)
  refine lv_aload_n hx hb d_M_weight_17 rfl (zl hl rfl) ?_
  refine z_get (C := R_M) (T := F_M) (N := 15) (v := .ref (ad 2)) hx hb hts inT_M hown hK hP (PM_o hM) rfl 5 (by decide) tw_578 (fun _ h => h) rfl d_M_weight_18 ?_
  refine lv_iload_n hx hb d_M_weight_21 rfl (zl hl rfl) ?_
  refine z_iald hx hb hK hP 0 (PM_2 hM) rfl t rfl (by omega) (by decide) d_M_weight_22 ?_
  refine lv_iload_n hx hb d_M_weight_23 rfl (zl hl rfl) ?_
  refine lv_if_le (tgt := 43) hx hb d_M_weight_24 (by decide) (fun c_1 => ?_) (fun c_1 => ?_)
  · refine lv_iconst (v := 0) hx hb d_M_weight_43 (by decide) ?_
    refine lv_iadd hx hb d_M_weight_44 ?_
    refine lv_istore_n (lv' := [(3, .int ((f 2 t) + 0)), (2, .int (f 10 (6 * qx f t + 4))), (0, .ref (ad 0)), (1, .int (nI t))]) hx hb d_M_weight_45 rfl hl (by decide) rfl (fun ls hl => ?_)
    refine lv_iload_n hx hb d_M_weight_46 rfl (zl hl rfl) ?_
    refine lv_bipush (v := 9) hx hb d_M_weight_47 (by decide) ?_
    refine lv_icmp_le (tgt := 57) hx hb d_M_weight_49 (by decide) (fun c_2 => ?_) (fun c_2 => ?_)
    · have b2 := zle_nlt c_2
      refine lv_iload_n hx hb d_M_weight_57 rfl (zl hl rfl) ?_
      exact z_iret hx hb hr hlocks hS (by simp only [wgt, sWeight, sGrown, *, reduceIte]) d_M_weight_58
    · have b2 := znle_lt c_2
      refine lv_bipush (v := 9) hx hb d_M_weight_52 (by decide) ?_
      refine lv_goto (tgt := 58) hx hb d_M_weight_54 (by decide) ?_
      exact z_iret hx hb hr hlocks hS (by simp only [wgt, sWeight, sGrown, *, reduceIte]) d_M_weight_58
  · refine lv_aload_n hx hb d_M_weight_27 rfl (zl hl rfl) ?_
    refine z_get (C := R_M) (T := F_M) (N := 15) (v := .int time) hx hb hts inT_M hown hK hP (PM_o hM) rfl 1 (by decide) tw_574 (fun _ h => h) rfl d_M_weight_28 ?_
    refine lv_aload_n hx hb d_M_weight_31 rfl (zl hl rfl) ?_
    refine z_get (C := R_M) (T := F_M) (N := 15) (v := .ref (ad 7)) hx hb hts inT_M hown hK hP (PM_o hM) rfl 10 (by decide) tw_583 (fun _ h => h) rfl d_M_weight_32 ?_
    refine lv_iload_n hx hb d_M_weight_35 rfl (zl hl rfl) ?_
    refine z_iald hx hb hK hP 0 (PM_7 hM) rfl t rfl (by omega) (by decide) d_M_weight_36 ?_
    refine lv_isub hx hb d_M_weight_37 ?_
    refine lv_iload_n hx hb d_M_weight_38 rfl (zl hl rfl) ?_
    refine lv_idiv hx hb d_M_weight_39 (fun h => c_1 (by rw [h]; decide)) ?_
    refine lv_goto (tgt := 44) hx hb d_M_weight_40 (by decide) ?_
    refine lv_iadd hx hb d_M_weight_44 ?_
    refine lv_istore_n (lv' := [(3, .int ((f 2 t) + ((time - (f 7 t)) / (f 10 (6 * qx f t + 4))))), (2, .int (f 10 (6 * qx f t + 4))), (0, .ref (ad 0)), (1, .int (nI t))]) hx hb d_M_weight_45 rfl hl (by decide) rfl (fun ls hl => ?_)
    refine lv_iload_n hx hb d_M_weight_46 rfl (zl hl rfl) ?_
    refine lv_bipush (v := 9) hx hb d_M_weight_47 (by decide) ?_
    refine lv_icmp_le (tgt := 57) hx hb d_M_weight_49 (by decide) (fun c_3 => ?_) (fun c_3 => ?_)
    · have b2 := zle_nlt c_3
      refine lv_iload_n hx hb d_M_weight_57 rfl (zl hl rfl) ?_
      exact z_iret hx hb hr hlocks hS (by simp only [wgt, sWeight, sGrown, *, reduceIte]) d_M_weight_58
    · have b2 := znle_lt c_3
      refine lv_bipush (v := 9) hx hb d_M_weight_52 (by decide) ?_
      refine lv_goto (tgt := 58) hx hb d_M_weight_54 (by decide) ?_
      exact z_iret hx hb hr hlocks hS (by simp only [wgt, sWeight, sGrown, *, reduceIte]) d_M_weight_58
set_option maxHeartbeats 4000000 in
set_option maxRecDepth 100000 in
theorem c_M_mayBeHad (l : Launch) {D : va_G} {ws : va_W} {H : Heap} (hP : va_P D vwCl ws H) {kk : Nat → ClassId} {ad : Nat → Nat} {thr time tok : Int32} {n : Nat} {f : Nat → Nat → Int32} {ky : Nat → Int64} (hM : PM kk ad thr time n tok f ky ws) (t : Nat) (ht : t < n) (hn : n ≤ 400) (hg : okg f n) : Met l y_M_mayBeHad (Cond.code y_M_mayBeHad b_M_mayBeHad 2 (some .boolean) :: TT) ({ frames := 2, cells := 0, slots := 0, locals := 80 }) (zPc [.ref (ad 0), .int (nI t)] H D vwCl (TY kk)) (zQi (zb (pHad f time n t)) H) 0 0 (fun _ => False) := by
  refine z_body (by decide) (Nat.le_of_ble_eq_true rfl) ?_
  intro p e s m below meth c ls C0 hH hKN hl
  obtain ⟨hx, hb, hr, hts, hown, hlocks, hml⟩ := C0
  subst hH
  have hK := hKN.1
  have hN := hKN.2
  have hS : va_S (fun _ => False) s.heap s.heap [] := va_S.rf
  have hl : lv_has ls 2 [(0, .ref (ad 0)), (1, .int (nI t))] := hl
  refine lv_aload_n hx hb d_M_mayBeHad_0 rfl (zl hl rfl) ?_
  refine z_get (C := R_M) (T := F_M) (N := 15) (v := .ref (ad 6)) hx hb hts inT_M hown hK hP (PM_o hM) rfl 9 (by decide) tw_582 (fun _ h => h) rfl d_M_mayBeHad_1 ?_
  refine lv_iload_n hx hb d_M_mayBeHad_4 rfl (zl hl rfl) ?_
  refine z_iald hx hb hK hP 0 (PM_6 hM) rfl t rfl (by omega) (by decide) d_M_mayBeHad_5 ?_
  refine lv_if_ne (tgt := 60) hx hb d_M_mayBeHad_6 (by decide) (fun c_1 => ?_) (fun c_1 => ?_)
  · refine lv_iconst (v := 0) hx hb d_M_mayBeHad_60 (by decide) ?_
    exact z_zret hx hb hr hlocks hS (by simp [pHad, zb, *]) d_M_mayBeHad_61
  · refine lv_aload_n hx hb d_M_mayBeHad_9 rfl (zl hl rfl) ?_
    refine z_get (C := R_M) (T := F_M) (N := 15) (v := .ref (ad 7)) hx hb hts inT_M hown hK hP (PM_o hM) rfl 10 (by decide) tw_583 (fun _ h => h) rfl d_M_mayBeHad_10 ?_
    refine lv_iload_n hx hb d_M_mayBeHad_13 rfl (zl hl rfl) ?_
    refine z_iald hx hb hK hP 0 (PM_7 hM) rfl t rfl (by omega) (by decide) d_M_mayBeHad_14 ?_
    refine lv_aload_n hx hb d_M_mayBeHad_15 rfl (zl hl rfl) ?_
    refine z_get (C := R_M) (T := F_M) (N := 15) (v := .int time) hx hb hts inT_M hown hK hP (PM_o hM) rfl 1 (by decide) tw_574 (fun _ h => h) rfl d_M_mayBeHad_16 ?_
    refine lv_icmp_gt (tgt := 60) hx hb d_M_mayBeHad_19 (by decide) (fun c_2 => ?_) (fun c_2 => ?_)
    · have b2 := zlt_nle c_2
      refine lv_iconst (v := 0) hx hb d_M_mayBeHad_60 (by decide) ?_
      exact z_zret hx hb hr hlocks hS (by simp [pHad, zb, *]) d_M_mayBeHad_61
    · have b2 := znlt_le c_2
      refine lv_aload_n hx hb d_M_mayBeHad_22 rfl (zl hl rfl) ?_
      refine z_get (C := R_M) (T := F_M) (N := 15) (v := .ref (ad 3)) hx hb hts inT_M hown hK hP (PM_o hM) rfl 6 (by decide) tw_579 (fun _ h => h) rfl d_M_mayBeHad_23 ?_
      refine lv_iload_n hx hb d_M_mayBeHad_26 rfl (zl hl rfl) ?_
      refine z_iald hx hb hK hP 0 (PM_3 hM) rfl t rfl (by omega) (by decide) d_M_mayBeHad_27 ?_
      refine lv_iconst (v := (-1)) hx hb d_M_mayBeHad_28 (by decide) ?_
      refine lv_icmp_eq (tgt := 56) hx hb d_M_mayBeHad_29 (by decide) (fun c_3 => ?_) (fun c_3 => ?_)
      · refine lv_iconst (v := 1) hx hb d_M_mayBeHad_56 (by decide) ?_
        refine lv_goto (tgt := 61) hx hb d_M_mayBeHad_57 (by decide) ?_
        exact z_zret hx hb hr hlocks hS (by simp [pHad, zb, *]) d_M_mayBeHad_61
      · obtain ⟨g0, g2⟩ := (hg t ht).resolve_left c_3
        have g1 : nI (gx f t) = f 3 t := g0.symm
        clear g0
        refine lv_aload_n hx hb d_M_mayBeHad_32 rfl (zl hl rfl) ?_
        refine lv_aload_n hx hb d_M_mayBeHad_33 rfl (zl hl rfl) ?_
        refine z_get (C := R_M) (T := F_M) (N := 15) (v := .ref (ad 3)) hx hb hts inT_M hown hK hP (PM_o hM) rfl 6 (by decide) tw_579 (fun _ h => h) rfl d_M_mayBeHad_34 ?_
        refine lv_iload_n hx hb d_M_mayBeHad_37 rfl (zl hl rfl) ?_
        refine z_iald hx hb hK hP 0 (PM_3 hM) rfl t rfl (by omega) (by decide) d_M_mayBeHad_38 ?_
        refine z_calli (va_runV (As := [.int (f 3 t)]) (rest := []) ⟨hx, hb, hml, hown, hts⟩ (c_M_lentOf l hP hM (f 3 t) hn) (cwV 1 hts (tt_V tw_663 tw_660 tw_662 tw_21 tw_36) rfl rfl rfl (by decide +kernel) ⟨Nat.le_of_ble_eq_true rfl, Nat.le_of_ble_eq_true rfl⟩) (zPc_V hKN hP (ci := 4) (q := (R_M, F_M, 15)) rfl (PM_o hM)) rfl rfl hl.1 rfl (lv_room (Nat.le_of_ble_eq_true rfl)) d_M_mayBeHad_39 ⟨Nat.zero_le _, Nat.zero_le _⟩) hS (fun locs hS => ?_)
        refine lv_aload_n hx hb d_M_mayBeHad_42 rfl (zl hl rfl) ?_
        refine z_get (C := R_M) (T := F_M) (N := 15) (v := .ref (ad 11)) hx hb hts inT_M hown hK hP (PM_o hM) rfl 14 (by decide) tw_587 (fun _ h => h) rfl d_M_mayBeHad_43 ?_
        refine lv_aload_n hx hb d_M_mayBeHad_46 rfl (zl hl rfl) ?_
        refine z_get (C := R_M) (T := F_M) (N := 15) (v := .ref (ad 3)) hx hb hts inT_M hown hK hP (PM_o hM) rfl 6 (by decide) tw_579 (fun _ h => h) rfl d_M_mayBeHad_47 ?_
        refine lv_iload_n hx hb d_M_mayBeHad_50 rfl (zl hl rfl) ?_
        refine z_iald hx hb hK hP 0 (PM_3 hM) rfl t rfl (by omega) (by decide) d_M_mayBeHad_51 ?_
        refine z_iald hx hb hK hP 0 (PM_11 hM) rfl (gx f t) g1.symm g2 (by decide) d_M_mayBeHad_52 ?_
        refine lv_icmp_ge (tgt := 60) hx hb d_M_mayBeHad_53 (by decide) (fun c_4 => ?_) (fun c_4 => ?_)
        · have b3 := zle_nlt c_4
          refine lv_iconst (v := 0) hx hb d_M_mayBeHad_60 (by decide) ?_
          exact z_zret hx hb hr hlocks hS (by simp [pHad, zb, *]) d_M_mayBeHad_61
        · have b3 := znle_lt c_4
          refine lv_iconst (v := 1) hx hb d_M_mayBeHad_56 (by decide) ?_
          refine lv_goto (tgt := 61) hx hb d_M_mayBeHad_57 (by decide) ?_
          exact z_zret hx hb hr hlocks hS (by simp [pHad, zb, *]) d_M_mayBeHad_61
set_option maxHeartbeats 4000000 in
set_option maxRecDepth 100000 in
theorem c_M_firstOf (l : Launch) {D : va_G} {ws : va_W} {H : Heap} (hP : va_P D vwCl ws H) {kk : Nat → ClassId} {ad : Nat → Nat} {thr time tok : Int32} {n : Nat} {f : Nat → Nat → Int32} {ky : Nat → Int64} (hM : PM kk ad thr time n tok f ky ws) (q : Int32) (hn : n ≤ 400) (hq : okq f n) (hg : okg f n) : Met l y_M_firstOf (Cond.code y_M_firstOf b_M_firstOf 4 (some .int) :: TT) ({ frames := 3, cells := 0, slots := 0, locals := 120 }) (zPc [.ref (ad 0), .int q] H D vwCl (TY kk)) (zQi (oI (fst f time n q n)) H) 0 0 (fun _ => False) := by
  refine z_body (by decide) (Nat.le_of_ble_eq_true rfl) ?_
  intro p e s m below meth c ls C0 hH hKN hl
  obtain ⟨hx, hb, hr, hts, hown, hlocks, hml⟩ := C0
  subst hH
  have hK := hKN.1
  have hN := hKN.2
  have hS : va_S (fun _ => False) s.heap s.heap [] := va_S.rf
  have key : ∀ (r i : Nat) (best : Option Nat) (ls : Array Slot) (locs : List Loc), i ≤ n → n + 1 ≤ i + r → fst f time n q i = best → lv_has ls 4 [(0, .ref (ad 0)), (1, .int q), (2, .int (oI best)), (3, .int (nI i))] → va_S (fun _ => False) s.heap s.heap locs → W p l e ({ frames := 3, cells := 0, slots := 0, locals := 120 }) s m ([.ref (ad 0), .int q] : List Value).toArray below meth c s.heap locs 0 0 (MQ below (zQi (oI (fst f time n q n)) s.heap) ([.ref (ad 0), .int q] : List Value).toArray s 0 0 (fun _ => False)) (F0 m 4 ls []) := by
    intro r
    induction r with
    | zero => intro i best ls locs h1 h2; omega
    | succ r ih =>
      intro i best ls locs hi hir hbe hl hS
      cases best with
      | none =>
        have hl : lv_has ls 4 [(0, .ref (ad 0)), (1, .int q), (2, .int (-1)), (3, .int (nI i))] := hl
        refine lv_iload_n hx hb d_M_firstOf_4 rfl (zl hl rfl) ?_
        refine lv_aload_n hx hb d_M_firstOf_5 rfl (zl hl rfl) ?_
        refine z_get (C := R_M) (T := F_M) (N := 15) (v := .int (nI n)) hx hb hts inT_M hown hK hP (PM_o hM) rfl 2 (by decide) tw_575 (fun _ h => h) rfl d_M_firstOf_6 ?_
        refine lv_icmp_ge (tgt := 87) hx hb d_M_firstOf_9 (by decide) (fun c_1 => ?_) (fun c_1 => ?_)
        · have hin := z_ge hi (by omega) c_1
          refine lv_iload_n hx hb d_M_firstOf_87 rfl (zl hl rfl) ?_
          exact z_iret hx hb hr hlocks hS (by subst hin; rw [hbe]; rfl) d_M_firstOf_88
        · have hlt := z_lt hi (by omega) c_1
          refine lv_aload_n hx hb d_M_firstOf_12 rfl (zl hl rfl) ?_
          refine z_get (C := R_M) (T := F_M) (N := 15) (v := .ref (ad 1)) hx hb hts inT_M hown hK hP (PM_o hM) rfl 4 (by decide) tw_577 (fun _ h => h) rfl d_M_firstOf_13 ?_
          refine lv_iload_n hx hb d_M_firstOf_16 rfl (zl hl rfl) ?_
          refine z_iald hx hb hK hP 0 (PM_1 hM) rfl i rfl (by omega) (by decide) d_M_firstOf_17 ?_
          refine lv_iload_n hx hb d_M_firstOf_18 rfl (zl hl rfl) ?_
          refine lv_icmp_ne (tgt := 81) hx hb d_M_firstOf_19 (by decide) (fun c_2 => ?_) (fun c_2 => ?_)
          · refine lv_iinc (v := (nI (i + 1))) (lv' := [(3, .int (nI (i + 1))), (0, .ref (ad 0)), (1, .int q), (2, .int (-1))]) hx hb d_M_firstOf_81 hl (k := 3) rfl (nI_1 i) (by decide) rfl (fun ls hl => ?_)
            refine lv_goto (tgt := 4) hx hb d_M_firstOf_84 (by decide) ?_
            have hst : fst f time n q (i + 1) = (none) := by
              show fStep f time n q (fst f time n q i) i = (none)
              rw [hbe]
              simp [fStep, fBetter, *]
            exact ih (i + 1) (none) ls locs (by omega) (by omega) hst (lv_sub hl [1, 2, 3, 0] rfl) hS
          · refine lv_aload_n hx hb d_M_firstOf_22 rfl (zl hl rfl) ?_
            refine lv_iload_n hx hb d_M_firstOf_23 rfl (zl hl rfl) ?_
            refine z_calli (va_runV (As := [.int (nI i)]) (rest := []) ⟨hx, hb, hml, hown, hts⟩ (c_M_mayBeHad l hP hM i hlt hn hg) (cwV 1 hts (tt_V tw_659 tw_656 tw_658 tw_20 tw_36) rfl rfl rfl (by decide +kernel) ⟨Nat.le_of_ble_eq_true rfl, Nat.le_of_ble_eq_true rfl⟩) (zPc_V hKN hP (ci := 4) (q := (R_M, F_M, 15)) rfl (PM_o hM)) rfl rfl hl.1 rfl (lv_room (Nat.le_of_ble_eq_true rfl)) d_M_firstOf_24 ⟨Nat.zero_le _, Nat.zero_le _⟩) hS (fun locs hS => ?_)
            refine lv_if_ne (tgt := 33) hx hb d_M_firstOf_27 (by decide) (fun c_3 => ?_) (fun c_3 => ?_)
            · have b1 := zb_t c_3
              refine lv_iload_n hx hb d_M_firstOf_33 rfl (zl hl rfl) ?_
              refine lv_iconst (v := (-1)) hx hb d_M_firstOf_34 (by decide) ?_
              refine lv_icmp_eq (tgt := 79) hx hb d_M_firstOf_35 (by decide) (fun c_4 => ?_) (fun c_4 => ?_)
              · refine lv_iload_n hx hb d_M_firstOf_79 rfl (zl hl rfl) ?_
                refine lv_istore_n (lv' := [(2, .int (nI i)), (0, .ref (ad 0)), (1, .int q), (3, .int (nI i))]) hx hb d_M_firstOf_80 rfl hl (by decide) rfl (fun ls hl => ?_)
                refine lv_iinc (v := (nI (i + 1))) (lv' := [(3, .int (nI (i + 1))), (2, .int (nI i)), (0, .ref (ad 0)), (1, .int q)]) hx hb d_M_firstOf_81 hl (k := 3) rfl (nI_1 i) (by decide) rfl (fun ls hl => ?_)
                refine lv_goto (tgt := 4) hx hb d_M_firstOf_84 (by decide) ?_
                have hst : fst f time n q (i + 1) = (some i) := by
                  show fStep f time n q (fst f time n q i) i = (some i)
                  rw [hbe]
                  simp [fStep, fBetter, *]
                exact ih (i + 1) (some i) ls locs (by omega) (by omega) hst (lv_sub hl [2, 3, 1, 0] rfl) hS
              · exact absurd rfl c_4
            · have b1 := zb_f c_3
              refine lv_goto (tgt := 81) hx hb d_M_firstOf_30 (by decide) ?_
              refine lv_iinc (v := (nI (i + 1))) (lv' := [(3, .int (nI (i + 1))), (0, .ref (ad 0)), (1, .int q), (2, .int (-1))]) hx hb d_M_firstOf_81 hl (k := 3) rfl (nI_1 i) (by decide) rfl (fun ls hl => ?_)
              refine lv_goto (tgt := 4) hx hb d_M_firstOf_84 (by decide) ?_
              have hst : fst f time n q (i + 1) = (none) := by
                show fStep f time n q (fst f time n q i) i = (none)
                rw [hbe]
                simp [fStep, fBetter, *]
              exact ih (i + 1) (none) ls locs (by omega) (by omega) hst (lv_sub hl [1, 2, 3, 0] rfl) hS
      | some b =>
        have hbi := (fst_lt hbe).1
        have hl : lv_has ls 4 [(0, .ref (ad 0)), (1, .int q), (2, .int (nI b)), (3, .int (nI i))] := hl
        refine lv_iload_n hx hb d_M_firstOf_4 rfl (zl hl rfl) ?_
        refine lv_aload_n hx hb d_M_firstOf_5 rfl (zl hl rfl) ?_
        refine z_get (C := R_M) (T := F_M) (N := 15) (v := .int (nI n)) hx hb hts inT_M hown hK hP (PM_o hM) rfl 2 (by decide) tw_575 (fun _ h => h) rfl d_M_firstOf_6 ?_
        refine lv_icmp_ge (tgt := 87) hx hb d_M_firstOf_9 (by decide) (fun c_1 => ?_) (fun c_1 => ?_)
        · have hin := z_ge hi (by omega) c_1
          refine lv_iload_n hx hb d_M_firstOf_87 rfl (zl hl rfl) ?_
          exact z_iret hx hb hr hlocks hS (by subst hin; rw [hbe]; rfl) d_M_firstOf_88
        · have hlt := z_lt hi (by omega) c_1
          refine lv_aload_n hx hb d_M_firstOf_12 rfl (zl hl rfl) ?_
          refine z_get (C := R_M) (T := F_M) (N := 15) (v := .ref (ad 1)) hx hb hts inT_M hown hK hP (PM_o hM) rfl 4 (by decide) tw_577 (fun _ h => h) rfl d_M_firstOf_13 ?_
          refine lv_iload_n hx hb d_M_firstOf_16 rfl (zl hl rfl) ?_
          refine z_iald hx hb hK hP 0 (PM_1 hM) rfl i rfl (by omega) (by decide) d_M_firstOf_17 ?_
          refine lv_iload_n hx hb d_M_firstOf_18 rfl (zl hl rfl) ?_
          refine lv_icmp_ne (tgt := 81) hx hb d_M_firstOf_19 (by decide) (fun c_2 => ?_) (fun c_2 => ?_)
          · refine lv_iinc (v := (nI (i + 1))) (lv' := [(3, .int (nI (i + 1))), (0, .ref (ad 0)), (1, .int q), (2, .int (nI b))]) hx hb d_M_firstOf_81 hl (k := 3) rfl (nI_1 i) (by decide) rfl (fun ls hl => ?_)
            refine lv_goto (tgt := 4) hx hb d_M_firstOf_84 (by decide) ?_
            have hst : fst f time n q (i + 1) = (some b) := by
              show fStep f time n q (fst f time n q i) i = (some b)
              rw [hbe]
              simp [fStep, fBetter, *]
            exact ih (i + 1) (some b) ls locs (by omega) (by omega) hst (lv_sub hl [1, 2, 3, 0] rfl) hS
          · refine lv_aload_n hx hb d_M_firstOf_22 rfl (zl hl rfl) ?_
            refine lv_iload_n hx hb d_M_firstOf_23 rfl (zl hl rfl) ?_
            refine z_calli (va_runV (As := [.int (nI i)]) (rest := []) ⟨hx, hb, hml, hown, hts⟩ (c_M_mayBeHad l hP hM i hlt hn hg) (cwV 1 hts (tt_V tw_659 tw_656 tw_658 tw_20 tw_36) rfl rfl rfl (by decide +kernel) ⟨Nat.le_of_ble_eq_true rfl, Nat.le_of_ble_eq_true rfl⟩) (zPc_V hKN hP (ci := 4) (q := (R_M, F_M, 15)) rfl (PM_o hM)) rfl rfl hl.1 rfl (lv_room (Nat.le_of_ble_eq_true rfl)) d_M_firstOf_24 ⟨Nat.zero_le _, Nat.zero_le _⟩) hS (fun locs hS => ?_)
            refine lv_if_ne (tgt := 33) hx hb d_M_firstOf_27 (by decide) (fun c_3 => ?_) (fun c_3 => ?_)
            · have b1 := zb_t c_3
              refine lv_iload_n hx hb d_M_firstOf_33 rfl (zl hl rfl) ?_
              refine lv_iconst (v := (-1)) hx hb d_M_firstOf_34 (by decide) ?_
              refine lv_icmp_eq (tgt := 79) hx hb d_M_firstOf_35 (by decide) (fun c_4 => ?_) (fun c_4 => ?_)
              · exact absurd c_4 (nI_m1 (by omega))
              · refine lv_aload_n hx hb d_M_firstOf_38 rfl (zl hl rfl) ?_
                refine lv_iload_n hx hb d_M_firstOf_39 rfl (zl hl rfl) ?_
                refine z_calli (va_runV (As := [.int (nI i)]) (rest := []) ⟨hx, hb, hml, hown, hts⟩ (c_M_weight l hP hM i (by omega) (hq i (by omega)).1 (hq i (by omega)).2) (cwV 1 hts (tt_V tw_667 tw_664 tw_666 tw_22 tw_36) rfl rfl rfl (by decide +kernel) ⟨Nat.le_of_ble_eq_true rfl, Nat.le_of_ble_eq_true rfl⟩) (zPc_V hKN hP (ci := 4) (q := (R_M, F_M, 15)) rfl (PM_o hM)) rfl rfl hl.1 rfl (lv_room (Nat.le_of_ble_eq_true rfl)) d_M_firstOf_40 ⟨Nat.zero_le _, Nat.zero_le _⟩) hS (fun locs hS => ?_)
                refine lv_aload_n hx hb d_M_firstOf_43 rfl (zl hl rfl) ?_
                refine lv_iload_n hx hb d_M_firstOf_44 rfl (zl hl rfl) ?_
                refine z_calli (va_runV (As := [.int (nI b)]) (rest := [.int (wgt f time i)]) ⟨hx, hb, hml, hown, hts⟩ (c_M_weight l hP hM b (by omega) (hq b (by omega)).1 (hq b (by omega)).2) (cwV 1 hts (tt_V tw_667 tw_664 tw_666 tw_22 tw_36) rfl rfl rfl (by decide +kernel) ⟨Nat.le_of_ble_eq_true rfl, Nat.le_of_ble_eq_true rfl⟩) (zPc_V hKN hP (ci := 4) (q := (R_M, F_M, 15)) rfl (PM_o hM)) rfl rfl hl.1 rfl (lv_room (Nat.le_of_ble_eq_true rfl)) d_M_firstOf_45 ⟨Nat.zero_le _, Nat.zero_le _⟩) hS (fun locs hS => ?_)
                refine lv_icmp_gt (tgt := 79) hx hb d_M_firstOf_48 (by decide) (fun c_5 => ?_) (fun c_5 => ?_)
                · refine lv_iload_n hx hb d_M_firstOf_79 rfl (zl hl rfl) ?_
                  refine lv_istore_n (lv' := [(2, .int (nI i)), (0, .ref (ad 0)), (1, .int q), (3, .int (nI i))]) hx hb d_M_firstOf_80 rfl hl (by decide) rfl (fun ls hl => ?_)
                  refine lv_iinc (v := (nI (i + 1))) (lv' := [(3, .int (nI (i + 1))), (2, .int (nI i)), (0, .ref (ad 0)), (1, .int q)]) hx hb d_M_firstOf_81 hl (k := 3) rfl (nI_1 i) (by decide) rfl (fun ls hl => ?_)
                  refine lv_goto (tgt := 4) hx hb d_M_firstOf_84 (by decide) ?_
                  have hst : fst f time n q (i + 1) = (some i) := by
                    show fStep f time n q (fst f time n q i) i = (some i)
                    rw [hbe]
                    simp [fStep, fBetter, *]
                  exact ih (i + 1) (some i) ls locs (by omega) (by omega) hst (lv_sub hl [2, 3, 1, 0] rfl) hS
                · refine lv_aload_n hx hb d_M_firstOf_51 rfl (zl hl rfl) ?_
                  refine lv_iload_n hx hb d_M_firstOf_52 rfl (zl hl rfl) ?_
                  refine z_calli (va_runV (As := [.int (nI i)]) (rest := []) ⟨hx, hb, hml, hown, hts⟩ (c_M_weight l hP hM i (by omega) (hq i (by omega)).1 (hq i (by omega)).2) (cwV 1 hts (tt_V tw_667 tw_664 tw_666 tw_22 tw_36) rfl rfl rfl (by decide +kernel) ⟨Nat.le_of_ble_eq_true rfl, Nat.le_of_ble_eq_true rfl⟩) (zPc_V hKN hP (ci := 4) (q := (R_M, F_M, 15)) rfl (PM_o hM)) rfl rfl hl.1 rfl (lv_room (Nat.le_of_ble_eq_true rfl)) d_M_firstOf_53 ⟨Nat.zero_le _, Nat.zero_le _⟩) hS (fun locs hS => ?_)
                  refine lv_aload_n hx hb d_M_firstOf_56 rfl (zl hl rfl) ?_
                  refine lv_iload_n hx hb d_M_firstOf_57 rfl (zl hl rfl) ?_
                  refine z_calli (va_runV (As := [.int (nI b)]) (rest := [.int (wgt f time i)]) ⟨hx, hb, hml, hown, hts⟩ (c_M_weight l hP hM b (by omega) (hq b (by omega)).1 (hq b (by omega)).2) (cwV 1 hts (tt_V tw_667 tw_664 tw_666 tw_22 tw_36) rfl rfl rfl (by decide +kernel) ⟨Nat.le_of_ble_eq_true rfl, Nat.le_of_ble_eq_true rfl⟩) (zPc_V hKN hP (ci := 4) (q := (R_M, F_M, 15)) rfl (PM_o hM)) rfl rfl hl.1 rfl (lv_room (Nat.le_of_ble_eq_true rfl)) d_M_firstOf_58 ⟨Nat.zero_le _, Nat.zero_le _⟩) hS (fun locs hS => ?_)
                  refine lv_icmp_ne (tgt := 81) hx hb d_M_firstOf_61 (by decide) (fun c_6 => ?_) (fun c_6 => ?_)
                  · refine lv_iinc (v := (nI (i + 1))) (lv' := [(3, .int (nI (i + 1))), (0, .ref (ad 0)), (1, .int q), (2, .int (nI b))]) hx hb d_M_firstOf_81 hl (k := 3) rfl (nI_1 i) (by decide) rfl (fun ls hl => ?_)
                    refine lv_goto (tgt := 4) hx hb d_M_firstOf_84 (by decide) ?_
                    have hst : fst f time n q (i + 1) = (some b) := by
                      show fStep f time n q (fst f time n q i) i = (some b)
                      rw [hbe]
                      simp [fStep, fBetter, *]
                    exact ih (i + 1) (some b) ls locs (by omega) (by omega) hst (lv_sub hl [1, 2, 3, 0] rfl) hS
                  · refine lv_aload_n hx hb d_M_firstOf_64 rfl (zl hl rfl) ?_
                    refine z_get (C := R_M) (T := F_M) (N := 15) (v := .ref (ad 7)) hx hb hts inT_M hown hK hP (PM_o hM) rfl 10 (by decide) tw_583 (fun _ h => h) rfl d_M_firstOf_65 ?_
                    refine lv_iload_n hx hb d_M_firstOf_68 rfl (zl hl rfl) ?_
                    refine z_iald hx hb hK hP 0 (PM_7 hM) rfl i rfl (by omega) (by decide) d_M_firstOf_69 ?_
                    refine lv_aload_n hx hb d_M_firstOf_70 rfl (zl hl rfl) ?_
                    refine z_get (C := R_M) (T := F_M) (N := 15) (v := .ref (ad 7)) hx hb hts inT_M hown hK hP (PM_o hM) rfl 10 (by decide) tw_583 (fun _ h => h) rfl d_M_firstOf_71 ?_
                    refine lv_iload_n hx hb d_M_firstOf_74 rfl (zl hl rfl) ?_
                    refine z_iald hx hb hK hP 0 (PM_7 hM) rfl b rfl (by omega) (by decide) d_M_firstOf_75 ?_
                    refine lv_icmp_ge (tgt := 81) hx hb d_M_firstOf_76 (by decide) (fun c_7 => ?_) (fun c_7 => ?_)
                    · have b4 := zle_nlt c_7
                      refine lv_iinc (v := (nI (i + 1))) (lv' := [(3, .int (nI (i + 1))), (0, .ref (ad 0)), (1, .int q), (2, .int (nI b))]) hx hb d_M_firstOf_81 hl (k := 3) rfl (nI_1 i) (by decide) rfl (fun ls hl => ?_)
                      refine lv_goto (tgt := 4) hx hb d_M_firstOf_84 (by decide) ?_
                      have hst : fst f time n q (i + 1) = (some b) := by
                        show fStep f time n q (fst f time n q i) i = (some b)
                        rw [hbe]
                        simp [fStep, fBetter, *]
                      exact ih (i + 1) (some b) ls locs (by omega) (by omega) hst (lv_sub hl [1, 2, 3, 0] rfl) hS
                    · have b4 := znle_lt c_7
                      refine lv_iload_n hx hb d_M_firstOf_79 rfl (zl hl rfl) ?_
                      refine lv_istore_n (lv' := [(2, .int (nI i)), (0, .ref (ad 0)), (1, .int q), (3, .int (nI i))]) hx hb d_M_firstOf_80 rfl hl (by decide) rfl (fun ls hl => ?_)
                      refine lv_iinc (v := (nI (i + 1))) (lv' := [(3, .int (nI (i + 1))), (2, .int (nI i)), (0, .ref (ad 0)), (1, .int q)]) hx hb d_M_firstOf_81 hl (k := 3) rfl (nI_1 i) (by decide) rfl (fun ls hl => ?_)
                      refine lv_goto (tgt := 4) hx hb d_M_firstOf_84 (by decide) ?_
                      have hst : fst f time n q (i + 1) = (some i) := by
                        show fStep f time n q (fst f time n q i) i = (some i)
                        rw [hbe]
                        simp [fStep, fBetter, *]
                      exact ih (i + 1) (some i) ls locs (by omega) (by omega) hst (lv_sub hl [2, 3, 1, 0] rfl) hS
            · have b1 := zb_f c_3
              refine lv_goto (tgt := 81) hx hb d_M_firstOf_30 (by decide) ?_
              refine lv_iinc (v := (nI (i + 1))) (lv' := [(3, .int (nI (i + 1))), (0, .ref (ad 0)), (1, .int q), (2, .int (nI b))]) hx hb d_M_firstOf_81 hl (k := 3) rfl (nI_1 i) (by decide) rfl (fun ls hl => ?_)
              refine lv_goto (tgt := 4) hx hb d_M_firstOf_84 (by decide) ?_
              have hst : fst f time n q (i + 1) = (some b) := by
                show fStep f time n q (fst f time n q i) i = (some b)
                rw [hbe]
                simp [fStep, fBetter, *]
              exact ih (i + 1) (some b) ls locs (by omega) (by omega) hst (lv_sub hl [1, 2, 3, 0] rfl) hS
  have hl : lv_has ls 4 [(0, .ref (ad 0)), (1, .int q)] := hl
  refine lv_iconst (v := (-1)) hx hb d_M_firstOf_0 (by decide) ?_
  refine lv_istore_n (lv' := [(2, .int (-1)), (0, .ref (ad 0)), (1, .int q)]) hx hb d_M_firstOf_1 rfl hl (by decide) rfl (fun ls hl => ?_)
  refine lv_iconst (v := 0) hx hb d_M_firstOf_2 (by decide) ?_
  refine lv_istore_n (lv' := [(3, .int 0), (2, .int (-1)), (0, .ref (ad 0)), (1, .int q)]) hx hb d_M_firstOf_3 rfl hl (by decide) rfl (fun ls hl => ?_)
  exact key (n + 1) 0 none ls [] (Nat.zero_le _) (by omega) rfl (lv_sub hl [2, 3, 1, 0] rfl) hS
set_option maxHeartbeats 4000000 in
set_option maxRecDepth 100000 in
theorem c_M_lentWith (l : Launch) {D : va_G} {ws : va_W} {H : Heap} (hP : va_P D vwCl ws H) {kk : Nat → ClassId} {ad : Nat → Nat} {thr time tok : Int32} {n : Nat} {f : Nat → Nat → Int32} {ky : Nat → Int64} (hM : PM kk ad thr time n tok f ky ws) (v : Int32) (hn : n ≤ 400) : Met l y_M_lentWith (Cond.code y_M_lentWith b_M_lentWith 3 (some .int) :: TT) ({ frames := 1, cells := 0, slots := 0, locals := 40 }) (zPc [.ref (ad 0), .int v] H D vwCl (TY kk)) (zQi (oI (fnd (pTok f v) 0 n)) H) 0 0 (fun _ => False) := by
  refine z_body (by decide) (Nat.le_of_ble_eq_true rfl) ?_
  intro p e s m below meth c ls C0 hH hKN hl
  obtain ⟨hx, hb, hr, hts, hown, hlocks, hml⟩ := C0
  subst hH
  have hK := hKN.1
  have hN := hKN.2
  have hS : va_S (fun _ => False) s.heap s.heap [] := va_S.rf
  have key : ∀ (r i : Nat) (ls : Array Slot) (locs : List Loc), i ≤ n → n + 1 ≤ i + r → (∀ k, k < i → pTok f v k = false) → lv_has ls 3 [(0, .ref (ad 0)), (1, .int v), (2, .int (nI i))] → va_S (fun _ => False) s.heap s.heap locs → W p l e ({ frames := 1, cells := 0, slots := 0, locals := 40 }) s m ([.ref (ad 0), .int v] : List Value).toArray below meth c s.heap locs 0 0 (MQ below (zQi (oI (fnd (pTok f v) 0 n)) s.heap) ([.ref (ad 0), .int v] : List Value).toArray s 0 0 (fun _ => False)) (F0 m 2 ls []) := by
    intro r
    induction r with
    | zero => intro i ls locs h1 h2; omega
    | succ r ih =>
      intro i ls locs hi hir hno hl hS
      refine lv_iload_n hx hb d_M_lentWith_2 rfl (zl hl rfl) ?_
      refine lv_aload_n hx hb d_M_lentWith_3 rfl (zl hl rfl) ?_
      refine z_get (C := R_M) (T := F_M) (N := 15) (v := .int (nI n)) hx hb hts inT_M hown hK hP (PM_o hM) rfl 2 (by decide) tw_575 (fun _ h => h) rfl d_M_lentWith_4 ?_
      refine lv_icmp_ge (tgt := 38) hx hb d_M_lentWith_7 (by decide) (fun c_1 => ?_) (fun c_1 => ?_)
      · have hin := z_ge hi (by omega) c_1
        refine lv_iconst (v := (-1)) hx hb d_M_lentWith_38 (by decide) ?_
        exact z_iret hx hb hr hlocks hS (by rw [fnd_no n 0 (fun j _ hj => hno j (by omega))]; rfl) d_M_lentWith_39
      · have hlt := z_lt hi (by omega) c_1
        refine lv_aload_n hx hb d_M_lentWith_10 rfl (zl hl rfl) ?_
        refine z_get (C := R_M) (T := F_M) (N := 15) (v := .ref (ad 6)) hx hb hts inT_M hown hK hP (PM_o hM) rfl 9 (by decide) tw_582 (fun _ h => h) rfl d_M_lentWith_11 ?_
        refine lv_iload_n hx hb d_M_lentWith_14 rfl (zl hl rfl) ?_
        refine z_iald hx hb hK hP 0 (PM_6 hM) rfl i rfl (by omega) (by decide) d_M_lentWith_15 ?_
        refine lv_iconst (v := 1) hx hb d_M_lentWith_16 (by decide) ?_
        refine lv_icmp_ne (tgt := 32) hx hb d_M_lentWith_17 (by decide) (fun c_2 => ?_) (fun c_2 => ?_)
        · refine lv_iinc (v := (nI (i + 1))) (lv' := [(2, .int (nI (i + 1))), (0, .ref (ad 0)), (1, .int v)]) hx hb d_M_lentWith_32 hl (k := 2) rfl (nI_1 i) (by decide) rfl (fun ls hl => ?_)
          refine lv_goto (tgt := 2) hx hb d_M_lentWith_35 (by decide) ?_
          exact ih (i + 1) ls locs (by omega) (by omega) (lt_s hno (by simp [pTok, *])) (lv_sub hl [1, 2, 0] rfl) hS
        · refine lv_aload_n hx hb d_M_lentWith_20 rfl (zl hl rfl) ?_
          refine z_get (C := R_M) (T := F_M) (N := 15) (v := .ref (ad 9)) hx hb hts inT_M hown hK hP (PM_o hM) rfl 12 (by decide) tw_585 (fun _ h => h) rfl d_M_lentWith_21 ?_
          refine lv_iload_n hx hb d_M_lentWith_24 rfl (zl hl rfl) ?_
          refine z_iald hx hb hK hP 0 (PM_9 hM) rfl i rfl (by omega) (by decide) d_M_lentWith_25 ?_
          refine lv_iload_n hx hb d_M_lentWith_26 rfl (zl hl rfl) ?_
          refine lv_icmp_ne (tgt := 32) hx hb d_M_lentWith_27 (by decide) (fun c_3 => ?_) (fun c_3 => ?_)
          · refine lv_iinc (v := (nI (i + 1))) (lv' := [(2, .int (nI (i + 1))), (0, .ref (ad 0)), (1, .int v)]) hx hb d_M_lentWith_32 hl (k := 2) rfl (nI_1 i) (by decide) rfl (fun ls hl => ?_)
            refine lv_goto (tgt := 2) hx hb d_M_lentWith_35 (by decide) ?_
            exact ih (i + 1) ls locs (by omega) (by omega) (lt_s hno (by simp [pTok, *])) (lv_sub hl [1, 2, 0] rfl) hS
          · refine lv_iload_n hx hb d_M_lentWith_30 rfl (zl hl rfl) ?_
            exact z_iret hx hb hr hlocks hS (by rw [fnd_at n 0 i (Nat.zero_le _) (by omega) (fun j _ hj => hno j hj) (by simp [pTok, *])]; rfl) d_M_lentWith_31
  have hl : lv_has ls 3 [(0, .ref (ad 0)), (1, .int v)] := hl
  refine lv_iconst (v := 0) hx hb d_M_lentWith_0 (by decide) ?_
  refine lv_istore_n (lv' := [(2, .int 0), (0, .ref (ad 0)), (1, .int v)]) hx hb d_M_lentWith_1 rfl hl (by decide) rfl (fun ls hl => ?_)
  exact key (n + 1) 0 ls [] (Nat.zero_le _) (by omega) lt_0 (lv_sub hl [1, 2, 0] rfl) hS
set_option maxHeartbeats 4000000 in
set_option maxRecDepth 100000 in
theorem c_M_found (l : Launch) {D : va_G} {ws : va_W} {H : Heap} (hP : va_P D vwCl ws H) {kk : Nat → ClassId} {ad : Nat → Nat} {thr time tok : Int32} {n : Nat} {f : Nat → Nat → Int32} {ky : Nat → Int64} (hM : PM kk ad thr time n tok f ky ws) (qi : Nat) (hqi : qi < 4) (k : Int64) (hn : n ≤ 400) : Met l y_M_found (Cond.code y_M_found b_M_found 5 (some .int) :: TT) ({ frames := 2, cells := 0, slots := 0, locals := 80 }) (zPc [.ref (ad 0), .int (nI qi), .long k] H D vwCl (TY kk)) (zQi (oI (lstD (pKey f ky time qi k) n)) H) 0 0 (fun _ => False) := by
  refine z_body (by decide) (Nat.le_of_ble_eq_true rfl) ?_
  intro p e s m below meth c ls C0 hH hKN hl
  obtain ⟨hx, hb, hr, hts, hown, hlocks, hml⟩ := C0
  subst hH
  have hK := hKN.1
  have hN := hKN.2
  have hS : va_S (fun _ => False) s.heap s.heap [] := va_S.rf
  have key : ∀ (i : Nat) (ls : Array Slot) (locs : List Loc), i ≤ n → lstD (pKey f ky time qi k) n = lstD (pKey f ky time qi k) i → lv_has ls 5 [(0, .ref (ad 0)), (1, .int (nI qi)), (2, .long k), (4, .int (pr i))] → va_S (fun _ => False) s.heap s.heap locs → W p l e ({ frames := 2, cells := 0, slots := 0, locals := 80 }) s m ([.ref (ad 0), .int (nI qi), .long k] : List Value).toArray below meth c s.heap locs 0 0 (MQ below (zQi (oI (lstD (pKey f ky time qi k) n)) s.heap) ([.ref (ad 0), .int (nI qi), .long k] : List Value).toArray s 0 0 (fun _ => False)) (F0 m 8 ls []) := by
    intro i
    induction i with
    | zero =>
      intro ls locs hi hst hl hS
      have hl : lv_has ls 5 [(0, .ref (ad 0)), (1, .int (nI qi)), (2, .long k), (4, .int (-1))] := hl
      refine lv_iload hx hb d_M_found_8 (zl hl rfl) ?_
      refine lv_if_lt (tgt := 100) hx hb d_M_found_10 (by decide) (fun c_1 => ?_) (fun c_1 => ?_)
      · refine lv_iconst (v := (-1)) hx hb d_M_found_100 (by decide) ?_
        exact z_iret hx hb hr hlocks hS (by rw [hst]; rfl) d_M_found_101
      · exact absurd (by decide) c_1
    | succ j ih =>
      intro ls locs hi hst hl hS
      have hl : lv_has ls 5 [(0, .ref (ad 0)), (1, .int (nI qi)), (2, .long k), (4, .int (nI j))] := hl
      refine lv_iload hx hb d_M_found_8 (zl hl rfl) ?_
      refine lv_if_lt (tgt := 100) hx hb d_M_found_10 (by decide) (fun c_1 => ?_) (fun c_1 => ?_)
      · exact absurd c_1 (nI_pos (by omega))
      · refine lv_aload_n hx hb d_M_found_13 rfl (zl hl rfl) ?_
        refine z_get (C := R_M) (T := F_M) (N := 15) (v := .ref (ad 1)) hx hb hts inT_M hown hK hP (PM_o hM) rfl 4 (by decide) tw_577 (fun _ h => h) rfl d_M_found_14 ?_
        refine lv_iload hx hb d_M_found_17 (zl hl rfl) ?_
        refine z_iald hx hb hK hP 0 (PM_1 hM) rfl j rfl (by omega) (by decide) d_M_found_19 ?_
        refine lv_iload_n hx hb d_M_found_20 rfl (zl hl rfl) ?_
        refine lv_icmp_ne (tgt := 94) hx hb d_M_found_21 (by decide) (fun c_2 => ?_) (fun c_2 => ?_)
        · refine lv_iinc (v := (pr j)) (lv' := [(4, .int (pr j)), (0, .ref (ad 0)), (1, .int (nI qi)), (2, .long k)]) hx hb d_M_found_94 hl (k := 3) rfl (pr_dec j) (by decide) rfl (fun ls hl => ?_)
          refine lv_goto (tgt := 8) hx hb d_M_found_97 (by decide) ?_
          exact ih ls locs (by omega) (by rw [hst]; exact lstD_f (by first | (simp [pKey, *]; done) | (simp [pKey, sLive, *]; done))) (lv_sub hl [1, 2, 3, 0] rfl) hS
        · refine lv_aload_n hx hb d_M_found_24 rfl (zl hl rfl) ?_
          refine z_get (C := R_M) (T := F_M) (N := 15) (v := .ref (ad 4)) hx hb hts inT_M hown hK hP (PM_o hM) rfl 7 (by decide) tw_580 (fun _ h => h) rfl d_M_found_25 ?_
          refine lv_iload hx hb d_M_found_28 (zl hl rfl) ?_
          refine z_lald hx hb hK hP 1 (PM_4 hM) rfl j rfl (by omega) (by decide) d_M_found_30 ?_
          refine lv_lload_n hx hb d_M_found_31 rfl (zl hl rfl) ?_
          refine W.lcmp hx hb d_M_found_32 ?_
          refine lv_if_ne (tgt := 94) hx hb d_M_found_33 (by decide) (fun c_3 => ?_) (fun c_3 => ?_)
          · have b2 : ¬ ky j = k := fun z => c_3 (lgc.mpr z)
            refine lv_iinc (v := (pr j)) (lv' := [(4, .int (pr j)), (0, .ref (ad 0)), (1, .int (nI qi)), (2, .long k)]) hx hb d_M_found_94 hl (k := 3) rfl (pr_dec j) (by decide) rfl (fun ls hl => ?_)
            refine lv_goto (tgt := 8) hx hb d_M_found_97 (by decide) ?_
            exact ih ls locs (by omega) (by rw [hst]; exact lstD_f (by first | (simp [pKey, *]; done) | (simp [pKey, sLive, *]; done))) (lv_sub hl [1, 2, 3, 0] rfl) hS
          · have b2 : ky j = k := lgc.mp c_3
            refine lv_lload_n hx hb d_M_found_36 rfl (zl hl rfl) ?_
            refine lv_lconst (v := 0) hx hb d_M_found_37 (by decide) ?_
            refine W.lcmp hx hb d_M_found_38 ?_
            refine lv_if_ne (tgt := 45) hx hb d_M_found_39 (by decide) (fun c_4 => ?_) (fun c_4 => ?_)
            · have b3 : ¬ k = 0 := fun z => c_4 (lgc.mpr z)
              refine lv_aload_n hx hb d_M_found_45 rfl (zl hl rfl) ?_
              refine lv_iload hx hb d_M_found_46 (zl hl rfl) ?_
              refine z_calli (va_runV (As := [.int (nI j)]) (rest := []) ⟨hx, hb, hml, hown, hts⟩ (c_M_isLive l hP hM j (by omega)) (cwV 1 hts (tt_V tw_643 tw_640 tw_642 tw_17 tw_36) rfl rfl rfl (by decide +kernel) ⟨Nat.le_of_ble_eq_true rfl, Nat.le_of_ble_eq_true rfl⟩) (zPc_V hKN hP (ci := 4) (q := (R_M, F_M, 15)) rfl (PM_o hM)) rfl rfl hl.1 rfl (lv_room (Nat.le_of_ble_eq_true rfl)) d_M_found_48 ⟨Nat.zero_le _, Nat.zero_le _⟩) hS (fun locs hS => ?_)
              refine lv_if_ne (tgt := 91) hx hb d_M_found_51 (by decide) (fun c_5 => ?_) (fun c_5 => ?_)
              · have b4 := zb_t c_5
                refine lv_iload hx hb d_M_found_91 (zl hl rfl) ?_
                exact z_iret hx hb hr hlocks hS (by rw [hst, lstD_t (by first | (simp [pKey, *]; done) | (simp [pKey, sLive, *]; done))]; rfl) d_M_found_93
              · have b4 := zb_f c_5
                refine lv_aload_n hx hb d_M_found_54 rfl (zl hl rfl) ?_
                refine z_get (C := R_M) (T := F_M) (N := 15) (v := .ref (ad 6)) hx hb hts inT_M hown hK hP (PM_o hM) rfl 9 (by decide) tw_582 (fun _ h => h) rfl d_M_found_55 ?_
                refine lv_iload hx hb d_M_found_58 (zl hl rfl) ?_
                refine z_iald hx hb hK hP 0 (PM_6 hM) rfl j rfl (by omega) (by decide) d_M_found_60 ?_
                refine lv_iconst (v := 2) hx hb d_M_found_61 (by decide) ?_
                refine lv_icmp_ne (tgt := 94) hx hb d_M_found_62 (by decide) (fun c_6 => ?_) (fun c_6 => ?_)
                · refine lv_iinc (v := (pr j)) (lv' := [(4, .int (pr j)), (0, .ref (ad 0)), (1, .int (nI qi)), (2, .long k)]) hx hb d_M_found_94 hl (k := 3) rfl (pr_dec j) (by decide) rfl (fun ls hl => ?_)
                  refine lv_goto (tgt := 8) hx hb d_M_found_97 (by decide) ?_
                  exact ih ls locs (by omega) (by rw [hst]; exact lstD_f (by first | (simp [pKey, *]; done) | (simp [pKey, sLive, *]; done))) (lv_sub hl [1, 2, 3, 0] rfl) hS
                · refine lv_aload_n hx hb d_M_found_65 rfl (zl hl rfl) ?_
                  refine z_get (C := R_M) (T := F_M) (N := 15) (v := .int time) hx hb hts inT_M hown hK hP (PM_o hM) rfl 1 (by decide) tw_574 (fun _ h => h) rfl d_M_found_66 ?_
                  refine lv_aload_n hx hb d_M_found_69 rfl (zl hl rfl) ?_
                  refine z_get (C := R_M) (T := F_M) (N := 15) (v := .ref (ad 7)) hx hb hts inT_M hown hK hP (PM_o hM) rfl 10 (by decide) tw_583 (fun _ h => h) rfl d_M_found_70 ?_
                  refine lv_iload hx hb d_M_found_73 (zl hl rfl) ?_
                  refine z_iald hx hb hK hP 0 (PM_7 hM) rfl j rfl (by omega) (by decide) d_M_found_75 ?_
                  refine lv_isub hx hb d_M_found_76 ?_
                  refine lv_aload_n hx hb d_M_found_77 rfl (zl hl rfl) ?_
                  refine z_get (C := R_M) (T := F_M) (N := 15) (v := .ref (ad 10)) hx hb hts inT_M hown hK hP (PM_o hM) rfl 13 (by decide) tw_586 (fun _ h => h) rfl d_M_found_78 ?_
                  refine lv_bipush (v := 6) hx hb d_M_found_81 (by decide) ?_
                  refine lv_iload_n hx hb d_M_found_83 rfl (zl hl rfl) ?_
                  refine lv_imul hx hb d_M_found_84 ?_
                  refine lv_iconst (v := 5) hx hb d_M_found_85 (by decide) ?_
                  refine lv_iadd hx hb d_M_found_86 ?_
                  refine z_iald hx hb hK hP 0 (PM_10 hM) rfl (6 * qi + 5) (z_idx qi 5) (by omega) (by decide) d_M_found_87 ?_
                  refine lv_icmp_gt (tgt := 94) hx hb d_M_found_88 (by decide) (fun c_7 => ?_) (fun c_7 => ?_)
                  · have b5 := zlt_nle c_7
                    refine lv_iinc (v := (pr j)) (lv' := [(4, .int (pr j)), (0, .ref (ad 0)), (1, .int (nI qi)), (2, .long k)]) hx hb d_M_found_94 hl (k := 3) rfl (pr_dec j) (by decide) rfl (fun ls hl => ?_)
                    refine lv_goto (tgt := 8) hx hb d_M_found_97 (by decide) ?_
                    exact ih ls locs (by omega) (by rw [hst]; exact lstD_f (by first | (simp [pKey, *]; done) | (simp [pKey, sLive, *]; done))) (lv_sub hl [1, 2, 3, 0] rfl) hS
                  · have b5 := znlt_le c_7
                    refine lv_iload hx hb d_M_found_91 (zl hl rfl) ?_
                    exact z_iret hx hb hr hlocks hS (by rw [hst, lstD_t (by first | (simp [pKey, *]; done) | (simp [pKey, sLive, *]; done))]; rfl) d_M_found_93
            · have b3 : k = 0 := lgc.mp c_4
              refine lv_goto (tgt := 94) hx hb d_M_found_42 (by decide) ?_
              refine lv_iinc (v := (pr j)) (lv' := [(4, .int (pr j)), (0, .ref (ad 0)), (1, .int (nI qi)), (2, .long k)]) hx hb d_M_found_94 hl (k := 3) rfl (pr_dec j) (by decide) rfl (fun ls hl => ?_)
              refine lv_goto (tgt := 8) hx hb d_M_found_97 (by decide) ?_
              exact ih ls locs (by omega) (by rw [hst]; exact lstD_f (by first | (simp [pKey, *]; done) | (simp [pKey, sLive, *]; done))) (lv_sub hl [1, 2, 3, 0] rfl) hS
  have hl : lv_has ls 5 [(0, .ref (ad 0)), (1, .int (nI qi)), (2, .long k)] := hl
  refine lv_aload_n hx hb d_M_found_0 rfl (zl hl rfl) ?_
  refine z_get (C := R_M) (T := F_M) (N := 15) (v := .int (nI n)) hx hb hts inT_M hown hK hP (PM_o hM) rfl 2 (by decide) tw_575 (fun _ h => h) rfl d_M_found_1 ?_
  refine lv_iconst (v := 1) hx hb d_M_found_4 (by decide) ?_
  refine lv_isub hx hb d_M_found_5 ?_
  refine z_top (y := pr n) (pr_sub n) ?_
  refine lv_istore (lv' := [(4, .int (pr n)), (0, .ref (ad 0)), (1, .int (nI qi)), (2, .long k)]) hx hb d_M_found_6 hl (by decide) rfl (fun ls hl => ?_)
  exact key n ls [] (Nat.le_refl _) rfl (lv_sub hl [1, 2, 3, 0] rfl) hS
