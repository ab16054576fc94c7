theorem cnt_off {P Q : Nat → Bool} {k : Nat} (h : ∀ i, i ≠ k → P i = Q i) : ∀ {n : Nat}, k < n → cnt P n + (if Q k = true then 1 else 0) = cnt Q n + (if P k = true then 1 else 0)
  | 0, hk => by omega
  | n + 1, hk => by
    show cnt P n + (if P n = true then 1 else 0) + _ = cnt Q n + (if Q n = true then 1 else 0) + _
    by_cases e : k = n
    · subst e
      rw [cnt_congr k (fun i hi => h i (by omega))]
      omega
    · have ih := cnt_off h (n := n) (by omega)
      rw [h n (fun z => e z.symm)]
      omega
theorem nI_sub1 {a b : Nat} (h : a = b + 1) : nI a - 1 = nI b := by rw [h]; exact nI_pred b
theorem gNew_eq {f f' : FF} {k n : Nat} {v6 : Int32} (hk : k < n) (e6 : f' 6 k = v6) (e3 : f' 3 = f 3) (ho : ∀ i, i ≠ k → f' 6 i = f 6 i) : gNew (f 6 k) v6 (nI (cnt (pLent f (f 3 k)) n)) = nI (cnt (pLent f' (f 3 k)) n) := by
  have hc := cnt_off (P := pLent f (f 3 k)) (Q := pLent f' (f 3 k)) (k := k) (n := n) (fun i hi => by unfold pLent; rw [ho i hi, e3]) hk
  have p1 : pLent f (f 3 k) k = decide (f 6 k = 1) := by simp [pLent]
  have p2 : pLent f' (f 3 k) k = decide (v6 = 1) := by simp [pLent, e6, e3]
  rw [p1, p2] at hc
  unfold gNew
  by_cases a : f 6 k = 1
  · by_cases b : v6 = 1
    · simp only [a, b, decide_true, reduceIte] at hc ⊢
      rw [show cnt (pLent f' (f 3 k)) n = cnt (pLent f (f 3 k)) n by omega]
      exact Int32.sub_add_cancel _ _
    · simp only [a, b, decide_true, decide_false, reduceIte, Bool.false_eq_true] at hc ⊢
      exact nI_sub1 (by omega)
  · by_cases b : v6 = 1
    · simp only [a, b, decide_true, decide_false, reduceIte, Bool.false_eq_true] at hc ⊢
      rw [nI_1]
      congr 1
    · simp only [a, b, decide_false, reduceIte, Bool.false_eq_true] at hc ⊢
      rw [show cnt (pLent f (f 3 k)) n = cnt (pLent f' (f 3 k)) n by omega]
def kX (e : va_E) : Bool := match e with
  | .inl (_, _, .inr (.inr (.inr (.inr _)))) => true
  | .inr (c, _) => !(c == 4)
  | _ => false
def zfrX (ws ws' : va_W) : Prop := ∀ (b : Nat) (e : va_E), kX e = false → zin ws b e → zin ws' b e
theorem zfrX_rf {ws : va_W} : zfrX ws ws := fun _ _ _ h => h
theorem zfrX_tr {ws w1 w2 : va_W} (h1 : zfrX ws w1) (h2 : zfrX w1 w2) : zfrX ws w2 := fun b e hk hz => h2 b e hk (h1 b e hk hz)
theorem zfrX_up {A : Nat → Prop} {ws ws' : va_W} {a : Nat} {e0 e1 : va_E} (hD : va_D A ws) (hz : zin ws a e0) (hk : kX e0 = true) (u : zupd ws a e1 ws') : zfrX ws ws' := fun b e he hb => u.2 b e (zin_ne hD hb hz (fun z => by rw [z, hk] at he; cases he)) hb
theorem zfrX_T {A : Nat → Prop} {ws ws' : va_W} {a : Nat} {ga : Option Nat} {x : List Value} (hD : va_D A ws) (hz : zin ws a (.inr (2, x))) (hg : ∀ g, ga = some g → ∃ y, zin ws g (.inr (0, y))) (h : zfrT a ga ws ws') : zfrX ws ws' := fun b e he hb =>
  h b e (zin_ne hD hb hz (fun z => by rw [z] at he; cases he)) (fun z => by obtain ⟨y, hy⟩ := hg b z; rw [zin_fn hD hb hy] at he; cases he) hb
section PXT
variable {A : Nat → Prop} {kk : Nat → ClassId} {xa qad gad tad : Nat → Nat} {e0 : Nat} {time tok : Int32} {n : Nat} {f : FF} {ky : Nat → Int64} {h : FF} {qar gar arr : Nat → Option Nat} {ea cap : Nat} {md : Int32} {ws ws' : va_W}
def XR (kk : Nat → ClassId) (xa qad gad tad : Nat → Nat) (e0 : Nat) (time tok : Int32) (n : Nat) (f : FF) (ky : Nat → Int64) (qar gar arr : Nat → Option Nat) (ea cap : Nat) (md : Int32) (ws ws' : va_W) : Prop := (∃ h, PX kk xa qad gad tad e0 time tok n f ky h qar gar arr ea cap md ws') ∧ zfrX ws ws'
theorem PX_task {f' : FF} {k : Nat} (hD : va_D A ws) (hX : PX kk xa qad gad tad e0 time tok n f ky h qar gar arr ea cap md ws) (hk : k < n) {v6 v5 u0 u1 u2 u3 u4 : Int32}
    (hz : zin ws' (tad k) (.inr (2, [.int (nI k), .ref (qad (qx f k)), .int (f 2 k), va_rf (gref f gad k), .long (ky k), .int v6, .int v5, .int u0, .int u1, .int u2, .int u3, .int u4])))
    (hg : ∀ g, gref f gad k = some g → zin ws' g (.inr (0, [.int (f 11 (gx f k)), .int (gNew (f 6 k) v6 (nI (cnt (pLent f (f 3 k)) n)))]))) (hfr : zfrT (tad k) (gref f gad k) ws ws')
    (e6 : f' 6 k = v6) (e5 : f' 5 k = v5) (hcol : ∀ j, j ≠ 5 → j ≠ 6 → j ≠ 7 → j ≠ 8 → j ≠ 9 → f' j = f j) (hoth : ∀ i, i ≠ k → ∀ j, f' j i = f j i)
    (hrel : (v6 = 0 → u0 = f' 7 k) ∧ (v6 = 1 → u1 = f' 7 k ∧ u2 = f' 8 k ∧ u3 = f' 9 k) ∧ (v6 = 2 → u4 = f' 7 k)) : XR kk xa qad gad tad e0 time tok n f' ky qar gar arr ea cap md ws ws' := by
  have c1 : f' 1 = f 1 := hcol 1 (by decide) (by decide) (by decide) (by decide) (by decide)
  have c2 : f' 2 = f 2 := hcol 2 (by decide) (by decide) (by decide) (by decide) (by decide)
  have c3 : f' 3 = f 3 := hcol 3 (by decide) (by decide) (by decide) (by decide) (by decide)
  have c10 : f' 10 = f 10 := hcol 10 (by decide) (by decide) (by decide) (by decide) (by decide)
  have c11 : f' 11 = f 11 := hcol 11 (by decide) (by decide) (by decide) (by decide) (by decide)
  have eq : ∀ i, qx f' i = qx f i := fun i => by unfold qx; rw [c1]
  have eg : ∀ i, gx f' i = gx f i := fun i => by unfold gx; rw [c3]
  have er : ∀ i, gref f' gad i = gref f gad i := fun i => by unfold gref; rw [c3, eg]
  have hgg : ∀ g, gref f gad k = some g → ∃ y, zin ws g (.inr (0, y)) := fun g hg9 => ⟨_, PX_tg hX hk g hg9⟩
  have hzk := PX_t hX hk
  have keep : ∀ (b : Nat) (e : va_E), zin ws b e → (∀ x, e ≠ .inr (2, x)) → (∀ x, e ≠ .inr (0, x)) → zin ws' b e := fun b e hb h1 h2 =>
    hfr b e (zin_ne hD hb hzk (h1 _)) (fun z => by obtain ⟨y, hy⟩ := hgg b z; exact h2 y (zin_fn hD hb hy)) hb
  have h' : FF := fun j i => if i = k then (if j = 0 then u0 else if j = 1 then u1 else if j = 2 then u2 else if j = 3 then u3 else u4) else h j i
  refine ⟨⟨fun j i => if i = k then (if j = 0 then u0 else if j = 1 then u1 else if j = 2 then u2 else if j = 3 then u3 else u4) else h j i, keep _ _ (PX_x hX) (by intro x z; cases z) (by intro x z; cases z), keep _ _ (PX_qa hX) (by intro x z; cases z) (by intro x z; cases z), keep _ _ (PX_ga hX) (by intro x z; cases z) (by intro x z; cases z), keep _ _ (PX_l hX) (by intro x z; cases z) (by intro x z; cases z), ?_, ?_, ?_, ?_, ?_, ?_, ?_, PX_qi hX, PX_gi hX, PX_n hX⟩, zfrX_T hD hzk hgg hfr⟩
  · rcases hX.2.2.2.2.1 with z | z
    · exact Or.inl z
    · exact Or.inr ⟨keep _ _ z.1 (by intro x z; cases z) (by intro x z; cases z), z.2⟩
  · intro i hi
    refine ⟨PX_qr hX hi, ?_⟩
    have := keep _ _ (PX_q hX hi) (by intro x z; cases z) (by intro x z; cases z)
    unfold qcl
    rw [c10]
    exact this
  · intro i hi
    refine ⟨PX_gr hX hi, ?_⟩
    unfold gcl
    rw [c11]
    by_cases hgi : f 3 k = nI i
    · have hgx : gx f k = i := by unfold gx; rw [hgi]; exact nI_clamp (by omega)
      have hgr : gref f gad k = some (gad i) := by
        unfold gref
        rw [if_neg (by rw [hgi]; exact nI_m1 (by omega)), hgx]
      have h1 := hg _ hgr
      rw [gNew_eq hk e6 c3 (fun i hi => hoth i hi 6), hgx, hgi] at h1
      exact h1
    · have hc : cnt (pLent f' (nI i)) n = cnt (pLent f (nI i)) n := cnt_congr n (fun j hj => by
        unfold pLent
        rw [c3]
        by_cases e : j = k
        · subst e
          simp [hgi]
        · rw [hoth j e 6])
      rw [hc]
      refine hfr _ _ (zin_ne hD (PX_g hX hi) hzk (by intro z; cases z)) (fun z => ?_) (PX_g hX hi)
      unfold gref at z
      by_cases h3 : f 3 k = -1
      · rw [if_pos h3] at z
        cases z
      · rw [if_neg h3] at z
        obtain ⟨e1, e2⟩ := (PX_okg hX k hk).resolve_left h3
        have e4 := PX_gi hX _ _ e2 hi (Option.some.inj z)
        rw [e4] at e1
        exact hgi e1
  · intro i hi
    refine ⟨PX_tr hX hi, ?_⟩
    unfold tcl
    rw [eq, er, c2]
    by_cases e : i = k
    · subst e
      simp only [if_true]
      rw [e6, e5]
      exact hz
    · simp only [if_neg e]
      rw [hoth i e 6, hoth i e 5]
      have hzi := PX_t hX hi
      refine hfr _ _ (zin_ne hD hzi hzk (fun z => ?_)) (fun z => ?_) hzi
      · have z1 := (List.cons.inj (Prod.mk.inj (Sum.inr.inj z)).2).1
        exact e ((nI_eq (by have := PX_n hX; omega) (by have := PX_n hX; omega)).mp (Value.int.inj z1))
      · obtain ⟨y, hy⟩ := hgg _ z
        have := zin_fn hD hzi hy
        cases this
  · intro i hi
    rw [c1, eq]
    exact PX_okq hX i hi
  · intro i hi
    rw [c3, eg]
    exact PX_okg hX i hi
  · intro i hi
    by_cases e : i = k
    · subst e
      simp only [if_true]
      rw [e6]
      exact hrel
    · simp only [if_neg e]
      rw [hoth i e 6, hoth i e 7, hoth i e 8, hoth i e 9]
      exact PX_rel hX i hi
theorem PX_wx {time' tok' : Int32} (hD : va_D A ws) (hX : PX kk xa qad gad tad e0 time tok n f ky h qar gar arr ea cap md ws) (u : zupd ws (xa 0) (.inr (3, [.ref (xa 1), .ref (xa 2), .ref (xa 3), .int time', .int tok'])) ws') : PX kk xa qad gad tad e0 time' tok' n f ky h qar gar arr ea cap md ws' := by
  have keep : ∀ (b : Nat) (e : va_E), zin ws b e → (∀ x, e ≠ .inr (3, x)) → zin ws' b e := fun b e hb h1 => u.2 b e (zin_ne hD hb (PX_x hX) (h1 _)) hb
  refine ⟨u.1, keep _ _ (PX_qa hX) (by intro x z; cases z), keep _ _ (PX_ga hX) (by intro x z; cases z), keep _ _ (PX_l hX) (by intro x z; cases z), ?_, fun i hi => ⟨PX_qr hX hi, keep _ _ (PX_q hX hi) (by intro x z; cases z)⟩, fun i hi => ⟨PX_gr hX hi, keep _ _ (PX_g hX hi) (by intro x z; cases z)⟩, fun i hi => ⟨PX_tr hX hi, keep _ _ (PX_t hX hi) (by intro x z; cases z)⟩, PX_okq hX, PX_okg hX, PX_rel hX, PX_qi hX, PX_gi hX, PX_n hX⟩
  rcases hX.2.2.2.2.1 with z | z
  · exact Or.inl z
  · exact Or.inr ⟨keep _ _ z.1 (by intro x z; cases z), z.2⟩
theorem PX_wg {f' : FF} {i : Nat} {v : Int32} (hD : va_D A ws) (hX : PX kk xa qad gad tad e0 time tok n f ky h qar gar arr ea cap md ws) (hi : i < 8) (hf : f' = w1 f 11 i v) (u : zupd ws (gad i) (.inr (0, [.int v, .int (nI (cnt (pLent f (nI i)) n))])) ws') : XR kk xa qad gad tad e0 time tok n f' ky qar gar arr ea cap md ws ws' := by
  subst hf
  have a1 : okq f n := PX_okq hX
  have a2 : okg f n := PX_okg hX
  have a3 : rel f h n := PX_rel hX
  have keep : ∀ (b : Nat) (e : va_E), zin ws b e → (∀ x, e ≠ .inr (0, x)) → zin ws' b e := fun b e hb h1 => u.2 b e (zin_ne hD hb (PX_g hX hi) (h1 _)) hb
  refine ⟨⟨h, keep _ _ (PX_x hX) (by intro x z; cases z), keep _ _ (PX_qa hX) (by intro x z; cases z), keep _ _ (PX_ga hX) (by intro x z; cases z), keep _ _ (PX_l hX) (by intro x z; cases z), ?_, fun j hj => ⟨PX_qr hX hj, keep _ _ (PX_q hX hj) (by intro x z; cases z)⟩, fun j hj => ⟨PX_gr hX hj, ?_⟩, fun j hj => ⟨PX_tr hX hj, keep _ _ (PX_t hX hj) (by intro x z; cases z)⟩, a1, a2, a3, PX_qi hX, PX_gi hX, PX_n hX⟩, zfrX_up hD (PX_g hX hi) rfl u⟩
  · rcases hX.2.2.2.2.1 with z | z
    · exact Or.inl z
    · exact Or.inr ⟨keep _ _ z.1 (by intro x z; cases z), z.2⟩
  · unfold gcl
    show zin ws' (gad j) (.inr (0, [.int (upd (f 11) i v j), .int (nI (cnt (pLent f (nI j)) n))]))
    by_cases e : j = i
    · subst e
      rw [show upd (f 11) j v j = v from if_pos rfl]
      exact u.1
    · rw [show upd (f 11) i v j = f 11 j from if_neg e]
      exact u.2 _ _ (fun z => e (PX_gi hX _ _ hj hi z)) (PX_g hX hj)
theorem PX_wq {f' : FF} {i c : Nat} {v : Int32} (hD : va_D A ws) (hX : PX kk xa qad gad tad e0 time tok n f ky h qar gar arr ea cap md ws) (hi : i < 4) (hc : c < 6) (hf : f' = w1 f 10 (6 * i + c) v) (u : zupd ws (qad i) (qcl f' i) ws') : XR kk xa qad gad tad e0 time tok n f' ky qar gar arr ea cap md ws ws' := by
  subst hf
  have a1 : okq f n := PX_okq hX
  have a2 : okg f n := PX_okg hX
  have a3 : rel f h n := PX_rel hX
  have keep : ∀ (b : Nat) (e : va_E), zin ws b e → (∀ x, e ≠ .inr (1, x)) → zin ws' b e := fun b e hb h1 => u.2 b e (zin_ne hD hb (PX_q hX hi) (h1 _)) hb
  refine ⟨⟨h, keep _ _ (PX_x hX) (by intro x z; cases z), keep _ _ (PX_qa hX) (by intro x z; cases z), keep _ _ (PX_ga hX) (by intro x z; cases z), keep _ _ (PX_l hX) (by intro x z; cases z), ?_, fun j hj => ⟨PX_qr hX hj, ?_⟩, fun j hj => ⟨PX_gr hX hj, keep _ _ (PX_g hX hj) (by intro x z; cases z)⟩, fun j hj => ⟨PX_tr hX hj, keep _ _ (PX_t hX hj) (by intro x z; cases z)⟩, a1, a2, a3, PX_qi hX, PX_gi hX, PX_n hX⟩, zfrX_up hD (PX_q hX hi) rfl u⟩
  · rcases hX.2.2.2.2.1 with z | z
    · exact Or.inl z
    · exact Or.inr ⟨keep _ _ z.1 (by intro x z; cases z), z.2⟩
  · by_cases e : j = i
    · subst e
      exact u.1
    · have hu : ∀ d, d < 6 → (w1 f 10 (6 * i + c) v) 10 (6 * j + d) = f 10 (6 * j + d) := fun d hd => if_neg (by omega)
      have h9 := u.2 _ _ (fun z => e (PX_qi hX _ _ hj hi z)) (PX_q hX hj)
      unfold qcl
      rw [show 6 * j = 6 * j + 0 from rfl, hu 0 (by decide), hu 1 (by decide), hu 2 (by decide), hu 3 (by decide), hu 4 (by decide), hu 5 (by decide)]
      exact h9
end PXT
