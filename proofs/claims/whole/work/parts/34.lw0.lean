theorem kXM {fe : va_E} (h : kX fe = true) : kM fe = false := by
  rcases fe with ⟨c, n, a | a | a | a | a⟩ | ⟨c, fs⟩
  · cases h
  · cases h
  · cases h
  · cases h
  · rfl
  · unfold kX at h
    unfold kM
    simpa using h
section LFR
variable {A : Nat → Prop} {kk : Nat → ClassId} {ad xa qad gad : Nat → Nat} {e0 : Nat} {qar gar : Nat → Option Nat} {thr time tok : Int32} {n : Nat} {f : FF} {ky : Nat → Int64} {ws ws' : va_W} {oa : Nat} {go : Nat → Int64}
theorem XS_fM (h : XS kk xa qad gad e0 qar gar time tok n f ky ws) (hF : zfrM ws ws') : XS kk xa qad gad e0 qar gar time tok n f ky ws' := by
  obtain ⟨tad, arr, ea, cap, md, h9, hX⟩ := h
  exact ⟨tad, arr, ea, cap, md, h9, PX_keep hX (fun b fe hk hz => hF b fe (kXM hk) hz)⟩
theorem PM_keep (h : PM kk ad thr time n tok f ky ws) (hu : ∀ (b : Nat) (fe : va_E), kX fe = false → (∀ (g : Nat → Int64), fe ≠ .inl (kk 1, 1, .inr (.inl g))) → zin ws b fe → zin ws' b fe) : PM kk ad thr time n tok f ky ws' := by
  refine ⟨hu _ _ rfl (fun g z => nomatch z) h.1, fun j h1 h2 h3 => hu _ _ rfl (fun g z => ?_) (h.2.1 j h1 h2 h3), hu _ _ rfl (fun g z => ?_) h.2.2.1, h.2.2.2⟩
  · have := (Prod.mk.inj (Prod.mk.inj (Sum.inl.inj z)).2).2
    cases this
  · exact absurd (Prod.mk.inj (Prod.mk.inj (Sum.inl.inj z)).2).1 (by decide)
theorem PM_fx (h : PM kk ad thr time n tok f ky ws) (hF : zfrX ws ws') : PM kk ad thr time n tok f ky ws' := PM_keep h (fun b fe hk _ hz => hF b fe hk hz)
theorem PM_fo (hD : va_D A ws) (h : PM kk ad thr time n tok f ky ws) (ho : zin ws oa (.inl (kk 1, 1, .inr (.inl go)))) (hF : zfrO oa ws ws') : PM kk ad thr time n tok f ky ws' := PM_keep h (fun b fe hk hne hz => hF b fe hk (zin_ne hD hz ho (hne go)) hz)
end LFR
theorem zlim {k L : Nat} (hk : k ≤ 512) (hL : L ≤ 3584) : (nI L - 7 < nI (7 * k)) ↔ L < 7 * k + 7 := by
  rw [Int32.lt_iff_toInt_lt, Int32.toInt_sub, nI_toInt (by omega), nI_toInt (by omega), show (7 : Int32).toInt = 7 by decide, Int.bmod_def]
  omega
theorem if01 {x : Bool} (h : (if x = true then (0 : Int32) else 1) = 0) : x = true := by
  cases x
  · exact absurd h (by decide)
  · rfl
def kvS (a b : Int32) : Int64 := (a.toInt64 <<< ((32 : Int32).toInt64 &&& 63)) ||| (b.toInt64 &&& 4294967295)
section LSL
variable {p : Program} {l : Launch} {e : Env} {R : Room} {s : State} {m : MethodId} {args : Array Value} {below : List Frame} {meth : Method} {c : Code} {H H0 : Heap} {locs : List Loc} {cells slots : Nat} {Q : State → Prop} {cc : ByteArray} {pc : Nat} {ls : Array Slot} {rest : List Value} {A : Nat → Prop}
theorem z_sld (hx : p.tables.exec = Jvm.exec) (hb : c.code = cc) {b L : Nat} {xs : Nat → Int32} (hX : va_X b L xs s H0) (hbl : b < H0.size) (hbA : ¬ A b) (hS : va_S A H0 H locs) {i v : Int32} (j : Nat) (hj : i = nI j) (hn : j < L) (hN : L < 2 ^ 31) (hv : xs j = v) (hdg : decode cc pc = .ok (.iaload, 1))
    (kk : W p l e R s m args below meth c H locs cells slots Q (F0 m (pc + 1) ls (.int v :: rest))) : W p l e R s m args below meth c H locs cells slots Q (F0 m pc ls (.int i :: .ref b :: rest)) := by
  subst hj
  refine va_sld hx hb hX hbl hbA hS (vp_in_nI hn hN) hdg ?_
  rw [nI_clamp (by omega), hv]
  exact kk
theorem z_newl1 {D : va_G} {cl : List vw_C} {tys : List (ClassId × FieldType)} {ws : va_W} (hx : p.tables.exec = Jvm.exec) (hb : c.code = cc) (hts : ∀ w ∈ TT, w.before args s = true) (hK : va_K D cl tys s) (hP : va_P D cl ws H) (hD : va_D A ws) (hS : va_S A H0 H locs) (hA : ∀ q, H0.size ≤ q → A q) {cA : ClassId} (ht : tys[1]? = some (cA, .long)) (hcells : cells + 1 ≤ R.cells) (hslots : slots + 1 ≤ R.slots) (hdg : decode cc pc = .ok (.newarray .long, 2))
    (kk : ∀ (q : Nat) (ws' : va_W) (H1 : Heap), va_P D cl ws' H1 → va_D A ws' → va_S A H0 H1 locs → znew ws q (.inl (cA, 1, .inr (.inl (fun _ => 0)))) ws' → W p l e R s m args below meth c H1 locs (cells + 1) (slots + 1) Q (F0 m (pc + 2) ls (.ref q :: rest))) : W p l e R s m args below meth c H locs cells slots Q (F0 m pc ls (.int 1 :: rest)) :=
  z_newl hx hb hts tw_620 hK hP hD hS hA 1 ht 1 rfl (by decide) hcells hslots hdg (fun q ws' H1 h1 h2 h3 h4 _ _ => kk q ws' H1 h1 h2 h3 h4)
end LSL
def R_law : String := "LoanRoundsLaw"
def lw_P (b : Addr) (xs : List Int32) (args : Array Value) (s : State) : Prop := args = #[.ref b] ∧ s.IntsAt b xs ∧ xs.length ≤ 3584 ∧ (Jvm.Cond.and given_1 narrow_1).before args s = true
def lw_Q (_ : Array Value) (s : State) (o : Outcome) (t : State) : Prop := o = .returned (some (.int 1)) ∧ Framed s o t [] 601024 7293034
def lw_Z (below : List Frame) (a : Array Value) (s : State) : State → Prop := fun t => ∃ o, t.status = .running ∧ Ended t below o ∧ lw_Q a s o t
theorem lw_ret {p : Program} {l : Launch} {e : Env} {s : State} {m : MethodId} {below : List Frame} {meth : Method} {c : Code} {b : Nat} (hx : p.tables.exec = Jvm.exec) (hb : c.code = code) (hr : meth.sig.returnType = ret) (hlocks : meth.locks = false) {pc : Nat} {H : Heap} {ls : Array Slot} (hdg : decode code pc = .ok (.ireturn, 1)) : W p l e room_1 s m #[Value.ref b] below meth c H [] 601024 7293034 (lw_Z below #[Value.ref b] s) (F0 m pc ls [.int 1]) := by
  intro T hT X
  obtain ⟨fs, hret, hrun, hended, hW, hframe⟩ := X.leave (v := some (.int 1)) (hlocks := hlocks) (fun h => by rw [hr] at h; cases h)
  have hmeth' : T.vm.method? m = some meth := X.method'
  refine ⟨T.setFrames fs, ?_, .returned (some (.int 1)), hrun, hended, rfl, ⟨_, rfl⟩, hW, hframe⟩
  jvm_step X.here [X.here.top, hx, hb, hdg, hmeth', hr, ret, narrow_b1]
  (try refine ⟨rfl, ?_⟩); (try refine ⟨rfl, ?_⟩)
  first | (intro acts; rw [hret _ acts rfl rfl rfl]) | rw [hret _ _ rfl rfl rfl]
  exact Steps.refl _
def lw_At (p : Program) (s : State) (m : MethodId) (meth : Method) (c : Code) (b L : Nat) (xs : Nat → Int32) : Prop :=
  p.tables.exec = Jvm.exec ∧ c.code = code ∧ meth.sig.returnType = ret ∧ c.maxLocals = 7 ∧ s.vm.findClass R_law = some m.cls ∧ (∀ w ∈ lw_tbl, w.before #[Value.ref b] s = true) ∧ va_X b L xs s s.heap ∧ b < s.heap.size ∧ meth.locks = false ∧ (Jvm.Cond.and given_1 narrow_1).before #[Value.ref b] s = true
