theorem cnt_mono {P Q : Nat → Bool} : ∀ n, (∀ k, k < n → P k = true → Q k = true) → cnt P n ≤ cnt Q n
  | 0, _ => Nat.le_refl _
  | n + 1, h => by
    have ih := cnt_mono n (fun k hk => h k (by omega))
    show cnt P n + (if P n = true then 1 else 0) ≤ cnt Q n + (if Q n = true then 1 else 0)
    by_cases hp : P n = true
    · rw [if_pos hp, if_pos (h n (by omega) hp)]
      omega
    · rw [if_neg hp]
      omega
theorem cnt_one {P Q : Nat → Bool} {t n : Nat} (ht : t < n) (h : ∀ i, i ≠ t → P i = Q i) : cnt P n ≤ cnt Q n + 1 := by
  have := cnt_off h ht
  split at this <;> split at this <;> omega
def Inv (c tm n : Nat) (f : FF) : Prop := okT f ∧ okE f tm n ∧ (∀ t, t < n → ∃ tr, tr ≤ c ∧ f 5 t = nI tr ∧ (f 6 t = 1 → 1 ≤ tr)) ∧ cnt (pLive f) n ≤ 64 ∧ (∀ w, cnt (pTo f w) n ≤ 4) ∧ tm ≤ 1000 * c
theorem Inv_okA {c tm n : Nat} {f : FF} (h : Inv c tm n f) (hc : c ≤ 512) (hq : okq f n) : okA f n := ⟨hq, fun t ht h6 => by
  obtain ⟨tr, h1, h2, h3⟩ := h.2.2.1 t ht
  exact ⟨tr, h3 h6, by omega, h2⟩⟩
theorem Inv_step {c tm n : Nat} {f : FF} (h : Inv c tm n f) : Inv (c + 1) tm n f := ⟨h.1, h.2.1, fun t ht => by
  obtain ⟨tr, h1, h2⟩ := h.2.2.1 t ht
  exact ⟨tr, by omega, h2⟩, h.2.2.2.1, h.2.2.2.2.1, by have := h.2.2.2.2.2; omega⟩
theorem Inv_0 : Inv 0 0 0 f0 := by
  refine ⟨fun i hi => ?_, fun k hk => absurd hk (Nat.not_lt_zero _), fun k hk => absurd hk (Nat.not_lt_zero _), Nat.zero_le _, fun w => Nat.zero_le _, Nat.le_refl _⟩
  obtain ⟨e1, e2, e3, e4, e5, e6⟩ := f0_10 i hi
  exact ⟨10, 5, 1, 60, 0, 0, ⟨e1, by decide, by decide⟩, ⟨e2, by decide, by decide⟩, ⟨e3, by decide, by decide⟩, ⟨e4, by decide, by decide⟩, ⟨e5, by decide⟩, e6, by decide⟩
theorem okT_10 {f f' : FF} (h : okT f) (e : f' 10 = f 10) : okT f' := by
  unfold okT
  rw [e]
  exact h
theorem Inv_task {c tm n t : Nat} {f f' : FF} (h : Inv c tm n f) (ht : t < n) (ho : ∀ i, i ≠ t → ∀ j, f' j i = f j i) (h10 : f' 10 = f 10) (h5 : ∃ tr, tr ≤ c + 1 ∧ f' 5 t = nI tr ∧ (f' 6 t = 1 → 1 ≤ tr)) (hE : f' 6 t = 1 → ∃ e : Nat, f' 7 t = nI e ∧ tm < e ∧ e ≤ tm + 200) (hL : cnt (pLive f') n ≤ 64) (hW : ∀ w, cnt (pTo f' w) n ≤ 4) : Inv (c + 1) tm n f' := by
  refine ⟨okT_10 h.1 h10, fun k hk h6 => ?_, fun k hk => ?_, hL, hW, by have := h.2.2.2.2.2; omega⟩
  · by_cases e : k = t
    · subst e
      exact hE h6
    · rw [ho k e 7]
      rw [ho k e 6] at h6
      exact h.2.1 k hk h6
  · by_cases e : k = t
    · subst e
      exact h5
    · rw [ho k e 5, ho k e 6]
      obtain ⟨tr, h1, h2⟩ := h.2.2.1 k hk
      exact ⟨tr, by omega, h2⟩
theorem live_mono {n t : Nat} {f f' : FF} (ho : ∀ i, i ≠ t → ∀ j, f' j i = f j i) (hl : pLive f' t = true → pLive f t = true) : cnt (pLive f') n ≤ cnt (pLive f) n := cnt_mono n (fun k _ hp => by
  by_cases e : k = t
  · subst e
    exact hl hp
  · unfold pLive at *
    rw [ho k e 6] at hp
    exact hp)
theorem to_mono {n t : Nat} {f f' : FF} {w : Int32} (ho : ∀ i, i ≠ t → ∀ j, f' j i = f j i) (hl : pTo f' w t = true → pTo f w t = true) : cnt (pTo f' w) n ≤ cnt (pTo f w) n := cnt_mono n (fun k _ hp => by
  by_cases e : k = t
  · subst e
    exact hl hp
  · unfold pTo at *
    rw [ho k e 6, ho k e 8] at hp
    exact hp)
theorem pTo_f {f : FF} {w : Int32} {t : Nat} (h : ¬ f 6 t = 1) : ¬ pTo f w t = true := by simp [pTo, h]
theorem Inv_lend {c tm n : Nat} {f : FF} (hq : okq f n) (h : Inv c tm n f) (hc : c ≤ 512) (v q tok : Int32) : Inv (c + 1) tm n (mLend f (nI tm) n v q tok) := by
  unfold mLend
  by_cases hl : cLend v q = true
  · rw [if_pos hl]
    cases ho : oLend f (nI tm) n v q with
    | none => exact Inv_step h
    | some t =>
      show Inv (c + 1) tm n (mLent f (nI tm) (tx q) t v tok)
      unfold oLend at ho
      by_cases h4 : nI (cnt (pTo f v) n) = 4
      · rw [if_pos h4] at ho
        cases ho
      · rw [if_neg h4] at ho
        obtain ⟨ht, hq1, hh⟩ := fst_lt ho
        have h60 : f 6 t = 0 := by simp only [pHad, Bool.and_eq_true, decide_eq_true_eq] at hh; exact hh.1.1
        have htx : tx q = qx f t := by unfold qx tx; rw [hq1]
        have hqx := (hq t ht).2
        obtain ⟨lo, mo, ba, tp, gr, me, ⟨e1, l1, l2⟩, -⟩ := h.1 _ hqx
        obtain ⟨tr, r1, r2, -⟩ := h.2.2.1 t ht
        have hn4 : cnt (pTo f v) n < 4 := by
          have h5 := h.2.2.2.2.1 v
          have h6 : cnt (pTo f v) n ≠ 4 := fun z => h4 (by rw [z]; decide)
          omega
        refine Inv_task h ht (fun i hi j => mLent_o hi j) (mLent_c 10 (by decide) (by decide) (by decide) (by decide) (by decide)) ⟨tr + 1, by omega, by rw [mLent_5, r2]; exact nI_1 tr, fun _ => by omega⟩ (fun _ => ⟨tm + lo, by rw [mLent_7, htx, e1]; exact nI_add tm lo, by omega, by omega⟩) (Nat.le_trans (live_mono (fun i hi j => mLent_o hi j) (fun _ => by simp [pLive, sLive, h60])) h.2.2.2.1) (fun w => ?_)
        by_cases hw : w = v
        · subst hw
          have := cnt_one (P := pTo (mLent f (nI tm) (tx q) t w tok) w) (Q := pTo f w) ht (fun i hi => by unfold pTo; rw [mLent_o hi, mLent_o hi])
          omega
        · exact Nat.le_trans (to_mono (fun i hi j => mLent_o hi j) (fun z => by simp only [pTo, Bool.and_eq_true, decide_eq_true_eq, mLent_8] at z; exact absurd z.2.symm hw)) (h.2.2.2.2.1 w)
  · rw [if_neg hl]
    exact Inv_step h
theorem Inv_beat {c tm n : Nat} {f : FF} (hq : okq f n) (h : Inv c tm n f) (v : Int32) : Inv (c + 1) tm n (mBeat f (nI tm) (fnd (pTok f v) 0 n)) := by
  cases ho : fnd (pTok f v) 0 n with
  | none => exact Inv_step h
  | some t =>
    show Inv (c + 1) tm n (w1 f 7 t (nI tm + f 10 (6 * qx f t)))
    obtain ⟨-, ht, hp⟩ := fnd_some ho
    have ht : t < n := by omega
    have h61 : f 6 t = 1 := by simp only [pTok, Bool.and_eq_true, decide_eq_true_eq] at hp; exact hp.1
    obtain ⟨lo, mo, ba, tp, gr, me, ⟨e1, l1, l2⟩, -⟩ := h.1 _ (hq t ht).2
    obtain ⟨tr, r1, r2, r3⟩ := h.2.2.1 t ht
    refine Inv_task h ht (fun i hi j => w1_o hi j) (w1_c (by decide)) ⟨tr, by omega, by rw [w1_c (by decide)]; exact r2, fun _ => r3 h61⟩ (fun _ => ⟨tm + lo, by rw [w1_s, e1]; exact nI_add tm lo, by omega, by omega⟩) (Nat.le_trans (live_mono (t := t) (fun i hi j => w1_o hi j) (fun _ => by simp [pLive, sLive, h61])) h.2.2.2.1) (fun w => Nat.le_trans (to_mono (t := t) (fun i hi j => w1_o hi j) (fun z => by unfold pTo at *; rw [w1_c (by decide), w1_c (by decide)] at z; exact z)) (h.2.2.2.2.1 w))
theorem Inv_off {c tm n t : Nat} {f f' : FF} (h : Inv c tm n f) (ht : t < n) (ho : ∀ i, i ≠ t → ∀ j, f' j i = f j i) (h10 : f' 10 = f 10) (h5 : ∃ tr, tr ≤ c + 1 ∧ f' 5 t = nI tr) (h6 : ¬ f' 6 t = 1) (hl : pLive f t = true) : Inv (c + 1) tm n f' := by
  obtain ⟨tr, r1, r2⟩ := h5
  exact Inv_task h ht ho h10 ⟨tr, r1, r2, fun z => absurd z h6⟩ (fun z => absurd z h6) (Nat.le_trans (live_mono ho (fun _ => hl)) h.2.2.2.1) (fun w => Nat.le_trans (to_mono ho (fun z => absurd z (pTo_f h6))) (h.2.2.2.2.1 w))
theorem Inv_can {c tm n : Nat} {f : FF} (h : Inv c tm n f) (hn : n ≤ 400) (v : Int32) : Inv (c + 1) tm n (mCan f n v) := by
  unfold mCan
  by_cases hc : cCan f n v = true
  · rw [if_pos hc]
    unfold cCan at hc
    simp only [Bool.and_eq_true] at hc
    obtain ⟨k, hk, rfl⟩ := sTask_t (by omega) hc.1
    rw [tx_nI (by omega)] at *
    obtain ⟨tr, r1, r2, r3⟩ := h.2.2.1 k hk
    exact Inv_off h hk (fun i hi j => w1_o hi j) (w1_c (by decide)) ⟨tr, by omega, by rw [w1_c (by decide)]; exact r2⟩ (by rw [w1_s]; decide) hc.2
  · rw [if_neg hc]
    exact Inv_step h
theorem Inv_rev {c tm n : Nat} {f : FF} (h : Inv c tm n f) (hn : n ≤ 400) (v : Int32) : Inv (c + 1) tm n (mRev f n (nI tm) v) := by
  unfold mRev
  by_cases hc : cRev f n v = true
  · rw [if_pos hc]
    unfold cRev at hc
    simp only [Bool.and_eq_true, Bool.not_eq_true', decide_eq_false_iff_not, decide_eq_true_eq] at hc
    obtain ⟨⟨h1, h2⟩, h3⟩ := hc
    obtain ⟨k, hk, rfl⟩ := sTask_t (by omega) h1
    rw [tx_nI (by omega)] at *
    have ho : ∀ i, i ≠ k → ∀ j, w1 (w1 (w1 f 6 k 0) 7 k (nI tm)) 5 k 0 j i = f j i := fun i hi j => by rw [w1_o hi, w1_o hi, w1_o hi]
    have e6 : w1 (w1 (w1 f 6 k 0) 7 k (nI tm)) 5 k 0 6 k = 0 := by rw [w1_c (by decide), w1_c (by decide), w1_s]
    have n6 : ¬ w1 (w1 (w1 f 6 k 0) 7 k (nI tm)) 5 k 0 6 k = 1 := by rw [e6]; decide
    refine Inv_task h hk ho (by rw [w1_c (by decide), w1_c (by decide), w1_c (by decide)]) ⟨0, by omega, by rw [w1_s]; rfl, fun z => absurd z n6⟩ (fun z => absurd z n6) ?_ (fun w => Nat.le_trans (to_mono ho (fun z => absurd z (pTo_f n6))) (h.2.2.2.2.1 w))
    have h64 : cnt (pLive f) n ≠ 64 := fun z => h3 (by rw [z]; decide)
    have := cnt_one (P := pLive (w1 (w1 (w1 f 6 k 0) 7 k (nI tm)) 5 k 0)) (Q := pLive f) hk (fun i hi => by unfold pLive; rw [ho i hi])
    have := h.2.2.2.1
    omega
  · rw [if_neg hc]
    exact Inv_step h
theorem Inv_end {c tm n : Nat} {f : FF} (hq : okq f n) (h : Inv c tm n f) (v how : Int32) : Inv (c + 1) tm n (mEnd f (nI tm) n v how) := by
  by_cases hx : xEnd f n v how = 0
  · unfold xEnd at hx
    unfold mEnd
    cases ho : fnd (pTok f v) 0 n with
    | none => exact Inv_step h
    | some t =>
      obtain ⟨-, ht, hp⟩ := fnd_some ho
      have ht : t < n := by omega
      have h61 : f 6 t = 1 := by simp only [pTok, Bool.and_eq_true, decide_eq_true_eq] at hp; exact hp.1
      have hl : pLive f t = true := by simp [pLive, sLive, h61]
      obtain ⟨tr, r1, r2, r3⟩ := h.2.2.1 t ht
      show Inv (c + 1) tm n (if sWithin how 0 2 = true then mEnd1 f (nI tm) how t else f)
      by_cases hs : sWithin how 0 2 = true
      · rw [if_pos hs]
        obtain ⟨k, hk, rfl⟩ := sWithin_nI (h := 2) (by decide) hs
        rcases (show k = 0 ∨ k = 1 ∨ k = 2 by omega) with rfl | rfl | rfl
        · exact Inv_off h ht (fun i hi j => me0_o hi j) (me0_c 10 (by decide) (by decide) (by decide) (by decide) (by decide)) ⟨tr, by omega, me0_5.trans r2⟩ (by show ¬ mEnd1 f (nI tm) 0 t 6 t = 1; rw [me0_6]; decide) hl
        · show Inv (c + 1) tm n (mAgain f (nI tm) t)
          exact Inv_off h ht (fun i hi j => mAgain_o hi j) (mAgain_c 10 (by decide) (by decide)) ⟨tr, by omega, by rw [mAgain_c 5 (by decide) (by decide)]; exact r2⟩ mAgain_st hl
        · exact Inv_off h ht (fun i hi j => me2_o hi j) (me2_c 10 (by decide) (by decide) (by decide) (by decide) (by decide)) ⟨tr - 1, by omega, by show mEnd1 f (nI tm) 2 t 5 t = _; rw [me2_5, r2]; have := r3 h61; exact nI_sub1 (by omega)⟩ (by show ¬ mEnd1 f (nI tm) 2 t 6 t = 1; rw [me2_6]; decide) hl
      · rw [if_neg hs]
        exact Inv_step h
  · rw [mEnd_no hx]
    exact Inv_step h
theorem Inv_add {c tm n : Nat} {f : FF} (h : Inv c tm n f) (hn : n ≤ 400) (q r g delay : Int32) (hf : fullA f n = false) : Inv (c + 1) tm (n + 1) (mAdd f n q r g (nI tm) delay) := by
  have h64 : cnt (pLive f) n ≠ 64 := fun z => by simp [fullA, z, show nI 64 = 64 by decide] at hf
  have hL := h.2.2.2.1
  have o : ∀ (k j : Nat), k < n → mAdd f n q r g (nI tm) delay j k = f j k := fun k j hk => mAdd_o (by omega) j
  refine ⟨okT_10 h.1 (mAdd_c (by decide) (by decide) (by decide) (by decide) (by decide) (by decide)), fun k hk h6 => ?_, fun k hk => ?_, ?_, fun w => ?_, by have := h.2.2.2.2.2; omega⟩
  · by_cases e : k = n
    · subst e
      rw [mAdd_6] at h6
      exact absurd h6 (by decide)
    · rw [o k 7 (by omega)]
      rw [o k 6 (by omega)] at h6
      exact h.2.1 k (by omega) h6
  · by_cases e : k = n
    · subst e
      exact ⟨0, by omega, by rw [mAdd_5]; rfl, fun z => by rw [mAdd_6] at z; exact absurd z (by decide)⟩
    · rw [o k 5 (by omega), o k 6 (by omega)]
      obtain ⟨tr, h1, h2⟩ := h.2.2.1 k (by omega)
      exact ⟨tr, by omega, h2⟩
  · show cnt _ n + (if _ then 1 else 0) ≤ 64
    rw [cnt_congr (Q := pLive f) n (fun k hk => by unfold pLive; rw [o k 6 hk])]
    split <;> omega
  · show cnt _ n + (if _ then 1 else 0) ≤ 4
    rw [cnt_congr (Q := pTo f w) n (fun k hk => by unfold pTo; rw [o k 6 hk, o k 8 hk]), if_neg (pTo_f (by rw [mAdd_6]; decide))]
    exact h.2.2.2.2.1 w
theorem Inv_cols {c tm n : Nat} {f f' : FF} (h : Inv c tm n f) (hT : okT f') (h5 : f' 5 = f 5) (h6 : f' 6 = f 6) (h7 : f' 7 = f 7) (h8 : f' 8 = f 8) : Inv (c + 1) tm n f' := by
  have h1 := Inv_step h
  refine ⟨hT, fun k hk z => ?_, fun k hk => ?_, ?_, fun w => ?_, h1.2.2.2.2.2⟩
  · rw [h7]
    rw [h6] at z
    exact h1.2.1 k hk z
  · rw [h5, h6]
    exact h1.2.2.1 k hk
  · rw [show pLive f' = pLive f by funext k; unfold pLive; rw [h6]]
    exact h1.2.2.2.1
  · rw [show pTo f' w = pTo f w by funext k; unfold pTo; rw [h6, h8]]
    exact h1.2.2.2.2.1 w
theorem Inv_set {c tm n : Nat} {f : FF} (h : Inv c tm n f) (what which v : Int32) : Inv (c + 1) tm n (mSet f what which v) := by
  unfold mSet
  by_cases hc : cSet what which v = true
  · rw [if_pos hc]
    unfold cSet at hc
    simp only [Bool.and_eq_true] at hc
    obtain ⟨⟨h1, h2⟩, h3⟩ := hc
    by_cases h6 : (6 : Int32) ≤ what
    · rw [if_pos h6]
      exact Inv_cols h (okT_10 h.1 (w1_c (by decide))) (w1_c (by decide)) (w1_c (by decide)) (w1_c (by decide)) (w1_c (by decide))
    · rw [if_neg h6] at h2 ⊢
      obtain ⟨a, ha, rfl⟩ := sWithin_nI (h := 3) (by decide) h2
      obtain ⟨b, hb, rfl⟩ := sWithin_nI (h := 6) (by decide) h1
      have hb6 : b < 6 := by
        rcases Nat.lt_or_ge b 6 with z | z
        · exact z
        · rw [show b = 6 by omega] at h6
          exact absurd (by decide) h6
      rw [tx_nI (by omega), tx_nI (by omega)]
      refine Inv_cols h ?_ (w1_c (by decide)) (w1_c (by decide)) (w1_c (by decide)) (w1_c (by decide))
      intro i hi
      have hu : ∀ d, d < 6 → w1 f 10 (6 * a + b) v 10 (6 * i + d) = if i = a ∧ d = b then v else f 10 (6 * i + d) := fun d hd => by
        show (if 6 * i + d = 6 * a + b then v else f 10 (6 * i + d)) = _
        by_cases e : i = a ∧ d = b
        · rw [if_pos e, if_pos (by omega)]
        · rw [if_neg e, if_neg (by omega)]
      obtain ⟨lo, mo, ba, tp, gr, me, p1, p2, p3, p4, p5, p6⟩ := h.1 i hi
      have h0 : w1 f 10 (6 * a + b) v 10 (6 * i) = _ := hu 0 (by decide)
      rw [h0, hu 1 (by decide), hu 2 (by decide), hu 3 (by decide), hu 4 (by decide), hu 5 (by decide)]
      by_cases e : i = a
      · rcases (show b = 0 ∨ b = 1 ∨ b = 2 ∨ b = 3 ∨ b = 4 ∨ b = 5 by omega) with rfl | rfl | rfl | rfl | rfl | rfl
        · obtain ⟨k, k1, k2, rfl⟩ := sWithin_2 (a := 1) (b := 200) (by decide) (by decide) h3
          exact ⟨k, mo, ba, tp, gr, me, by simp [e, k1, k2], by simpa using p2, by simpa using p3, by simpa using p4, by simpa using p5, by simpa using p6⟩
        · obtain ⟨k, k1, k2, rfl⟩ := sWithin_2 (a := 1) (b := 20) (by decide) (by decide) h3
          exact ⟨lo, k, ba, tp, gr, me, by simpa using p1, by simp [e, k1, k2], by simpa using p3, by simpa using p4, by simpa using p5, by simpa using p6⟩
        · obtain ⟨k, k1, k2, rfl⟩ := sWithin_2 (a := 1) (b := 100) (by decide) (by decide) h3
          exact ⟨lo, mo, k, tp, gr, me, by simpa using p1, by simpa using p2, by simp [e, k1, k2], by simpa using p4, by simpa using p5, by simpa using p6⟩
        · obtain ⟨k, k1, k2, rfl⟩ := sWithin_2 (a := 1) (b := 1000) (by decide) (by decide) h3
          exact ⟨lo, mo, ba, k, gr, me, by simpa using p1, by simpa using p2, by simpa using p3, by simp [e, k1, k2], by simpa using p5, by simpa using p6⟩
        · obtain ⟨k, k1, k2, rfl⟩ := sWithin_2 (a := 0) (b := 100) (by decide) (by decide) h3
          exact ⟨lo, mo, ba, tp, k, me, by simpa using p1, by simpa using p2, by simpa using p3, by simpa using p4, by simp [e, k2], by simpa using p6⟩
        · obtain ⟨k, k1, k2, rfl⟩ := sWithin_2 (a := 0) (b := 1000) (by decide) (by decide) h3
          exact ⟨lo, mo, ba, tp, gr, k, by simpa using p1, by simpa using p2, by simpa using p3, by simpa using p4, by simpa using p5, by simp [e, k2]⟩
      · exact ⟨lo, mo, ba, tp, gr, me, by simpa [e] using p1, by simpa [e] using p2, by simpa [e] using p3, by simpa [e] using p4, by simpa [e] using p5, by simpa [e] using p6⟩
  · rw [if_neg hc]
    exact Inv_step h
theorem Inv_tick {c tm n : Nat} {f : FF} (h : Inv c tm n f) (hc : c ≤ 512) {N : Nat} (hN : N ≤ 1000) : Inv (c + 1) (tm + N) n (outF f (nI tm) n N) := by
  have ht := h.2.2.2.2.2
  have htm : tm < 2 ^ 29 := by omega
  have hk : ∀ (j k : Nat), k < n → outF f (nI tm) n N j k = tkF f (nI (tm + N)) n j k := fun j k hk => tkF_out h.2.1 htm hN hk
  have hst : ∀ k, k < n → outF f (nI tm) n N 6 k = 1 → f 6 k = 1 ∧ aC f (nI (tm + N)) k = false := fun k hkn z => by
    rw [hk 6 k hkn] at z
    unfold tkF at z
    by_cases ha : aC f (nI (tm + N)) k = true
    · rw [if_pos ⟨Or.inl rfl, hkn, ha⟩] at z
      exact absurd z mAgain_st
    · rw [if_neg (fun q => ha q.2.2)] at z
      exact ⟨z, by simpa using ha⟩
  refine ⟨okT_10 h.1 (outF_c (by decide) (by decide) N), fun k hkn z => ?_, fun k hkn => ?_, ?_, fun w => ?_, by omega⟩
  · obtain ⟨z1, z2⟩ := hst k hkn z
    obtain ⟨e, e1, e2, e3⟩ := h.2.1 k hkn z1
    have e7 : outF f (nI tm) n N 7 k = nI e := by
      rw [hk 7 k hkn]
      unfold tkF
      rw [if_neg (fun q => by rw [z2] at q; cases q.2.2)]
      exact e1
    refine ⟨e, e7, ?_, by omega⟩
    rcases Nat.lt_or_ge (tm + N) e with q | q
    · exact q
    · have hle : nI e ≤ nI (tm + N) := nI_le q (by omega)
      have : aC f (nI (tm + N)) k = true := by unfold aC; rw [z1, e1]; simp [hle]
      rw [this] at z2
      cases z2
  · rw [outF_c (c := 5) (by decide) (by decide) N]
    obtain ⟨tr, h1, h2, h3⟩ := h.2.2.1 k hkn
    exact ⟨tr, by omega, h2, fun z => h3 (hst k hkn z).1⟩
  · refine Nat.le_trans (cnt_mono n (fun k hkn hp => ?_)) h.2.2.2.1
    unfold pLive sLive at *
    rw [hk 6 k hkn] at hp
    unfold tkF at hp
    by_cases ha : aC f (nI (tm + N)) k = true
    · have : f 6 k = 1 := by unfold aC at ha; simp only [Bool.and_eq_true, decide_eq_true_eq] at ha; exact ha.1
      simp [this]
    · rw [if_neg (fun q => ha q.2.2)] at hp
      exact hp
  · refine Nat.le_trans (cnt_mono n (fun k hkn hp => ?_)) (h.2.2.2.2.1 w)
    unfold pTo at *
    simp only [Bool.and_eq_true, decide_eq_true_eq] at *
    rw [outF_c (c := 8) (by decide) (by decide) N] at hp
    exact ⟨(hst k hkn hp.1).1, hp.2⟩
