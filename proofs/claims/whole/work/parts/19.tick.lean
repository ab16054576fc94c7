theorem dwl_eq {tp : Nat} (htp : tp < 2 ^ 30) : ∀ (r b : Nat), b * 2 ^ r < 2 ^ 30 → (b * 2 ^ r < tp → dwl (nI tp) r (nI b) = nI (b * 2 ^ r)) ∧ (tp ≤ b * 2 ^ r → ¬ dwl (nI tp) r (nI b) < nI tp)
  | 0, b, hb => by
    simp only [Nat.pow_zero, Nat.mul_one] at hb ⊢
    exact ⟨fun _ => rfl, fun h => nI_nlt h (by omega)⟩
  | r + 1, b, hb => by
    have h1 : b ≤ b * 2 ^ (r + 1) := Nat.le_mul_of_pos_right b (Nat.two_pow_pos _)
    have h2 : b * 2 ^ (r + 1) = (b * 2) * 2 ^ r := by rw [Nat.pow_succ, Nat.mul_assoc, Nat.mul_comm (2 ^ r) 2]
    have e2 : nI b * 2 = nI (b * 2) := by rw [show (2 : Int32) = nI 2 by decide, pk_mul]
    by_cases hlt : b < tp
    · have ih := dwl_eq htp r (b * 2) (by rw [← h2]; exact hb)
      have e : dwl (nI tp) (r + 1) (nI b) = dwl (nI tp) r (nI (b * 2)) := by
        show (if nI b < nI tp then dwl (nI tp) r (nI b * 2) else nI b) = _
        rw [if_pos (nI_lt hlt (by omega)), e2]
      rw [e, h2]
      exact ih
    · have e : dwl (nI tp) (r + 1) (nI b) = nI b := by
        show (if nI b < nI tp then dwl (nI tp) r (nI b * 2) else nI b) = _
        rw [if_neg (nI_nlt (by omega) (by omega))]
      rw [e]
      exact ⟨fun h => absurd h (by omega), fun _ => nI_nlt (by omega) (by omega)⟩
theorem sh_k : ∀ k, k < 32 → (((nI k) &&& 31 : Int32).toBitVec.smod 32).toNat = k := by decide +kernel
theorem pause_eq {b tp tr : Nat} (hb : b ≤ 100) (htp : tp ≤ 1000) (h1 : 1 ≤ tr) (h2 : tr ≤ 20) : sPause (nI b) (nI tp) (nI tr) = (if dwl (nI tp) (tr - 1) (nI b) < nI tp then dwl (nI tp) (tr - 1) (nI b) else nI tp) := by
  obtain ⟨k, rfl⟩ : ∃ k, tr = k + 1 := ⟨tr - 1, by omega⟩
  have hk : 2 ^ k ≤ 2 ^ 19 := Nat.pow_le_pow_right (by decide) (by omega)
  have hbk : b * 2 ^ k < 2 ^ 30 := by
    have : b * 2 ^ k ≤ 100 * 2 ^ 19 := Nat.mul_le_mul hb hk
    omega
  have e1 : nI b <<< ((nI (k + 1) - 1) &&& 31) = nI (b * 2 ^ k) := by
    rw [nI_pred]
    exact pk_shlN _ k (sh_k k (by omega)) (by omega)
  unfold sPause
  rw [e1, Nat.add_sub_cancel]
  obtain ⟨d1, d2⟩ := dwl_eq (tp := tp) (by omega) k b hbk
  by_cases h : b * 2 ^ k < tp
  · rw [d1 h, if_neg (nI_nlt (by omega) (by omega)), if_pos (nI_lt h (by omega))]
  · rw [if_neg (d2 (by omega))]
    by_cases h3 : tp < b * 2 ^ k
    · rw [if_pos (nI_lt h3 (by omega))]
    · rw [if_neg (nI_nlt (by omega) (by omega)), show b * 2 ^ k = tp by omega]
theorem mAgain_o {f : FF} {time : Int32} {t i : Nat} (h : i ≠ t) (c : Nat) : mAgain f time t c i = f c i := by
  unfold mAgain
  split
  · rw [w1_o h, w1_o h]
  · rw [w1_o h]
theorem mAgain_congr {f g : FF} {tm : Int32} {t : Nat} (hc : ∀ c, f c t = g c t) (h10 : f 10 = g 10) (c : Nat) (hcn : c ≠ 10) : mAgain f tm t c t = mAgain g tm t c t := by
  have eq : qx f t = qx g t := by unfold qx; rw [hc 1]
  have ew : mWait f t = mWait g t := by unfold mWait; rw [eq, h10, hc 5]
  unfold mAgain
  rw [eq, ew, h10, hc 5]
  split
  · by_cases h7 : c = 7
    · rw [h7, w1_s, w1_s]
    · rw [w1_c h7, w1_c h7]
      by_cases h6 : c = 6
      · rw [h6, w1_s, w1_s]
      · rw [w1_c h6, w1_c h6]
        exact hc c
  · by_cases h6 : c = 6
    · rw [h6, w1_s, w1_s]
    · rw [w1_c h6, w1_c h6]
      exact hc c
theorem inn_10 {f : FF} {T : Int32} : ∀ k, inn f T k 10 = f 10
  | 0 => rfl
  | k + 1 => by
    show aStep _ _ _ 10 = _
    unfold aStep
    split
    · rw [mAgain_j 10 (by decide) (by decide)]
      exact inn_10 k
    · exact inn_10 k
theorem inn_at {f : FF} {T : Int32} : ∀ (k i c : Nat), c ≠ 10 → inn f T k c i = if i < k ∧ aC f T i = true then mAgain f T i c i else f c i
  | 0, i, c, hc => by
    rw [if_neg (by omega)]
    rfl
  | k + 1, i, c, hc => by
    have ihk : ∀ c, c ≠ 10 → inn f T k c k = f c k := fun c hc => by rw [inn_at k k c hc, if_neg (by omega)]
    have hall : ∀ c, inn f T k c k = f c k := fun c => by
      by_cases h : c = 10
      · rw [h, inn_10]
      · exact ihk c h
    have hac : aC (inn f T k) T k = aC f T k := by unfold aC; rw [hall 6, hall 7]
    by_cases hi : i = k
    · subst hi
      by_cases ha : aC f T i = true
      · rw [inn_t (by rw [hac]; exact ha), if_pos ⟨by omega, ha⟩]
        exact mAgain_congr hall (inn_10 i) c hc
      · have hf : aC (inn f T i) T i = false := by rw [hac]; simpa using ha
        rw [inn_f hf, if_neg (fun z => ha z.2)]
        exact hall c
    · have h1 : inn f T (k + 1) c i = inn f T k c i := by
        show aStep _ _ _ c i = _
        unfold aStep
        split
        · exact mAgain_o hi c
        · rfl
      rw [h1, inn_at k i c hc]
      by_cases ha : aC f T i = true
      · by_cases hk : i < k
        · rw [if_pos ⟨hk, ha⟩, if_pos ⟨by omega, ha⟩]
        · rw [if_neg (fun z => hk z.1), if_neg (fun z => hk (by omega))]
      · rw [if_neg (fun z => ha z.2), if_neg (fun z => ha z.2)]
theorem innC_eq {f : FF} {T : Int32} : ∀ k, innC f T k = cnt (aC f T) k
  | 0 => rfl
  | k + 1 => by
    have hac : aC (inn f T k) T k = aC f T k := by
      unfold aC
      rw [inn_at k k 6 (by decide), if_neg (by omega), inn_at k k 7 (by decide), if_neg (by omega)]
    show innC f T k + _ = cnt (aC f T) k + _
    rw [innC_eq k, hac]
theorem mAgain_st {f : FF} {tm : Int32} {t : Nat} : ¬ mAgain f tm t 6 t = 1 := by
  rw [mAgain_6, if_pos rfl]
  split <;> decide
theorem nI_tm {tm a b : Nat} (h : tm + a < 2 ^ 31) : nI tm + nI a = nI (tm + a) := nI_add tm a
def okE (f : FF) (tm n : Nat) : Prop := ∀ k, k < n → f 6 k = 1 → ∃ e : Nat, f 7 k = nI e ∧ tm < e ∧ e ≤ tm + 200
theorem outF_10 {f : FF} {T : Int32} {n : Nat} : ∀ j, outF f T n j 10 = f 10
  | 0 => rfl
  | j + 1 => by
    show inn _ _ _ 10 = _
    rw [inn_10]
    exact outF_10 j
theorem outF_at {f : FF} {tm n : Nat} (hE : okE f tm n) (htm : tm < 2 ^ 29) : ∀ (j : Nat), j ≤ 1000 → ∀ (k c : Nat), k < n → c ≠ 10 → outF f (nI tm) n j c k = if aC f (nI (tm + j)) k = true then mAgain f (f 7 k) k c k else f c k
  | 0, _, k, c, hk, hc => by
    have ha : aC f (nI (tm + 0)) k = false := by
      unfold aC
      by_cases h6 : f 6 k = 1
      · obtain ⟨e, h7, h1, h2⟩ := hE k hk h6
        rw [h7]
        have : ¬ nI e ≤ nI (tm + 0) := fun z => by have := (nI_leI (by omega) (by omega)).mp z; omega
        rw [decide_eq_false this, Bool.and_false]
      · simp [h6]
    rw [if_neg (by rw [ha]; decide)]
    rfl
  | j + 1, hj, k, c, hk, hc => by
    have ih := outF_at hE htm j (by omega)
    have hT : nI tm + nI (j + 1) = nI (tm + (j + 1)) := nI_add _ _
    show inn (outF f (nI tm) n j) (nI tm + nI (j + 1)) n c k = _
    rw [hT, inn_at n k c hc]
    by_cases h6 : f 6 k = 1
    · obtain ⟨e, h7, h1, h2⟩ := hE k hk h6
      have a1 : aC f (nI (tm + j)) k = decide (e ≤ tm + j) := by
        unfold aC
        rw [h6, h7, Bool.eq_iff_iff]
        simp [nI_leI (a := e) (b := tm + j) (by omega) (by omega)]
      have a2 : aC f (nI (tm + (j + 1))) k = decide (e ≤ tm + (j + 1)) := by
        unfold aC
        rw [h6, h7, Bool.eq_iff_iff]
        simp [nI_leI (a := e) (b := tm + (j + 1)) (by omega) (by omega)]
      by_cases hle : e ≤ tm + j
      · have hb : ¬ aC (outF f (nI tm) n j) (nI (tm + (j + 1))) k = true := by
          unfold aC
          rw [ih k 6 hk (by decide), if_pos (by rw [a1]; simp [hle])]
          simp [mAgain_st]
        rw [if_neg (fun z => hb z.2), ih k c hk hc, if_pos (by rw [a1]; simp [hle]), if_pos (by rw [a2]; simp; omega)]
      · have hall : ∀ c, outF f (nI tm) n j c k = f c k := fun c => by
          by_cases h : c = 10
          · rw [h, outF_10]
          · rw [ih k c hk h, if_neg (by rw [a1]; simp [hle])]
        have hac : aC (outF f (nI tm) n j) (nI (tm + (j + 1))) k = aC f (nI (tm + (j + 1))) k := by unfold aC; rw [hall 6, hall 7]
        rw [hac, a2]
        by_cases h3 : e ≤ tm + (j + 1)
        · have he : e = tm + (j + 1) := by omega
          rw [if_pos ⟨hk, by simp [h3]⟩, if_pos (by simp [h3]), h7, ← he]
          exact mAgain_congr hall (outF_10 j) c hc
        · rw [if_neg (fun z => h3 (by simpa using z.2)), if_neg (by simp [h3])]
          exact hall c
    · have hn : ∀ T, aC f T k = false := fun T => by unfold aC; simp [h6]
      have hall : outF f (nI tm) n j 6 k = f 6 k := by rw [ih k 6 hk (by decide), if_neg (by rw [hn]; decide)]
      have hac : aC (outF f (nI tm) n j) (nI (tm + (j + 1))) k = false := by unfold aC; rw [hall]; simp [h6]
      rw [if_neg (fun z => by rw [hac] at z; cases z.2), if_neg (by rw [hn]; decide), ih k c hk hc, if_neg (by rw [hn]; decide)]
theorem cnt_add {P Q R : Nat → Bool} : ∀ n, (∀ k, k < n → (if R k = true then 1 else 0) = (if P k = true then 1 else 0) + (if Q k = true then (1 : Nat) else 0)) → cnt R n = cnt P n + cnt Q n
  | 0, _ => rfl
  | n + 1, h => by
    show cnt R n + _ = (cnt P n + _) + (cnt Q n + _)
    rw [cnt_add n (fun k hk => h k (by omega)), h n (by omega)]
    omega
theorem outC_eq {f : FF} {tm n : Nat} (hE : okE f tm n) (htm : tm < 2 ^ 29) : ∀ (j : Nat), j ≤ 1000 → outC f (nI tm) n j = cnt (aC f (nI (tm + j))) n
  | 0, _ => by
    have : ∀ k, k < n → aC f (nI (tm + 0)) k = false := fun k hk => by
      unfold aC
      by_cases h6 : f 6 k = 1
      · obtain ⟨e, h7, h1, h2⟩ := hE k hk h6
        rw [h7]
        have : ¬ nI e ≤ nI (tm + 0) := fun z => by have := (nI_leI (by omega) (by omega)).mp z; omega
        rw [decide_eq_false this, Bool.and_false]
      · simp [h6]
    rw [cnt_congr n this]
    show 0 = _
    clear this hE
    induction n with
    | zero => rfl
    | succ n ih => show 0 = cnt _ n + _; rw [← ih]; rfl
  | j + 1, hj => by
    have ih := outC_eq hE htm j (by omega)
    have hT : nI tm + nI (j + 1) = nI (tm + (j + 1)) := nI_add _ _
    show outC f (nI tm) n j + innC (outF f (nI tm) n j) (nI tm + nI (j + 1)) n = _
    rw [ih, innC_eq, hT]
    refine (cnt_add n (fun k hk => ?_)).symm
    have oa := outF_at hE htm j (by omega) k
    by_cases h6 : f 6 k = 1
    · obtain ⟨e, h7, h1, h2⟩ := hE k hk h6
      have a1 : aC f (nI (tm + j)) k = decide (e ≤ tm + j) := by
        unfold aC
        rw [h6, h7, Bool.eq_iff_iff]
        simp [nI_leI (a := e) (b := tm + j) (by omega) (by omega)]
      have a2 : aC f (nI (tm + (j + 1))) k = decide (e ≤ tm + (j + 1)) := by
        unfold aC
        rw [h6, h7, Bool.eq_iff_iff]
        simp [nI_leI (a := e) (b := tm + (j + 1)) (by omega) (by omega)]
      by_cases hle : e ≤ tm + j
      · have hb : aC (outF f (nI tm) n j) (nI (tm + (j + 1))) k = false := by
          unfold aC
          rw [oa 6 hk (by decide), if_pos (by rw [a1]; simp [hle])]
          simp [mAgain_st]
        rw [a1, a2, hb]
        simp [hle, show e ≤ tm + (j + 1) by omega]
      · have hb : aC (outF f (nI tm) n j) (nI (tm + (j + 1))) k = decide (e ≤ tm + (j + 1)) := by
          rw [← a2]
          unfold aC
          rw [oa 6 hk (by decide), if_neg (by rw [a1]; simp [hle]), oa 7 hk (by decide), if_neg (by rw [a1]; simp [hle])]
        rw [a1, a2, hb]
        simp [hle]
    · have hn : ∀ T, aC f T k = false := fun T => by unfold aC; simp [h6]
      have hb : aC (outF f (nI tm) n j) (nI (tm + (j + 1))) k = false := by
        unfold aC
        rw [oa 6 hk (by decide), if_neg (by rw [hn]; decide)]
        simp [h6]
      rw [hn, hn, hb]
      simp
