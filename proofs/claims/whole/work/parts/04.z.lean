def zin (ws : va_W) (a : Nat) (e : va_E) : Prop := ∃ k : Nat, ws[k]? = some (a, e)
theorem zin_fn {A : Nat → Prop} {ws : va_W} (hD : va_D A ws) {a : Nat} {e e' : va_E} (h : zin ws a e) (h' : zin ws a e') : e = e' := by
  obtain ⟨i, hi⟩ := h
  obtain ⟨j, hj⟩ := h'
  have hij := hD.1 i j _ _ hi hj rfl
  subst hij
  rw [hi] at hj
  exact (Prod.mk.inj (Option.some.inj hj)).2
theorem zin_ne {A : Nat → Prop} {ws : va_W} (hD : va_D A ws) {a b : Nat} {e e' : va_E} (h : zin ws a e) (h' : zin ws b e') (hne : e ≠ e') : a ≠ b := by
  intro hab
  subst hab
  exact hne (zin_fn hD h h')
theorem zin_A {A : Nat → Prop} {ws : va_W} (hD : va_D A ws) {a : Nat} {e : va_E} (h : zin ws a e) : A a := by
  obtain ⟨k, hk⟩ := h
  exact hD.2 k _ hk
theorem zin_lt {D : va_G} {cl : List vw_C} {ws : va_W} {H : Heap} (hP : va_P D cl ws H) {a : Nat} {e : va_E} (h : zin ws a e) : a < H.size := by
  obtain ⟨k, hk⟩ := h
  exact (hP k _ hk).lt
theorem z_P {D : va_G} {cl : List vw_C} {ws : va_W} {H : Heap} (hP : va_P D cl ws H) {a : Nat} {e : va_E} (h : zin ws a e) : va_P D cl [(a, e)] H := by
  obtain ⟨i, hi⟩ := h
  intro k q hk
  cases k with
  | zero =>
    cases hk
    exact hP i _ hi
  | succ k => simp at hk
def zupd (ws : va_W) (a : Nat) (e : va_E) (ws' : va_W) : Prop := zin ws' a e ∧ ∀ (b : Nat) (f : va_E), b ≠ a → zin ws b f → zin ws' b f
theorem zupd_set {ws : va_W} {q a : Nat} {e0 e : va_E} (h : ws[q]? = some (a, e0)) : zupd ws a e (ws.set q (a, e)) := by
  have hl := (List.getElem?_eq_some_iff.mp h).1
  refine ⟨⟨q, List.getElem?_set_self hl⟩, fun b f hb hz => ?_⟩
  obtain ⟨k, hk⟩ := hz
  refine ⟨k, ?_⟩
  have hkq : q ≠ k := by
    intro z
    subst z
    rw [h] at hk
    exact hb (Prod.mk.inj (Option.some.inj hk)).1.symm
  rw [List.getElem?_set_ne hkq]
  exact hk
def znew (ws : va_W) (a : Nat) (e : va_E) (ws' : va_W) : Prop := zin ws' a e ∧ ∀ (b : Nat) (f : va_E), zin ws b f → zin ws' b f
theorem znew_app {ws : va_W} {a : Nat} {e : va_E} : znew ws a e (ws ++ [(a, e)]) := by
  refine ⟨⟨ws.length, by simp⟩, fun b f hz => ?_⟩
  obtain ⟨k, hk⟩ := hz
  exact ⟨k, by rw [List.getElem?_append_left (List.getElem?_eq_some_iff.mp hk).1]; exact hk⟩
theorem zl_mem {l : List (Nat × Value)} {i : Nat} {v : Value} (h : l.lookup i = some v) : (i, v) ∈ l := by
  induction l with
  | nil => simp at h
  | cons q l ih =>
    obtain ⟨j, w⟩ := q
    rw [List.lookup_cons] at h
    by_cases hj : (i == j) = true
    · rw [hj] at h
      have e1 : i = j := by simpa using hj
      have e2 : w = v := by simpa using h
      subst e1 e2
      exact List.mem_cons_self
    · have hj' : (i == j) = false := by simpa using hj
      rw [hj'] at h
      exact List.mem_cons_of_mem _ (ih h)
theorem zl {ls : Array Slot} {nL : Nat} {l : List (Nat × Value)} (h : lv_has ls nL l) {i : Nat} {v : Value} (hk : l.lookup i = some v) : ls[i]? = some (.val v) := h.2.2 (i, v) (zl_mem hk)
def zb (b : Bool) : Int32 := if b = true then 1 else 0
theorem zb_t {b : Bool} (h : ¬ zb b = 0) : b = true := by
  cases b
  · exact absurd rfl h
  · rfl
theorem zb_f {b : Bool} (h : zb b = 0) : b = false := by
  cases b
  · rfl
  · exact absurd h (by decide)
section ZC
variable {p : Program} {l : Launch} {e : Env} {R : Room} {s : State} {m : MethodId} {args : Array Value} {below : List Frame} {meth : Method} {c : Code} {H : Heap} {locs : List Loc} {cells slots : Nat} {Q : State → Prop}
variable {cc : ByteArray} {pc : Nat} {ls : Array Slot} {rest st0 : List Value} {D : va_G} {cl : List vw_C} {A : Nat → Prop} {a : Nat} {tys : List (ClassId × FieldType)} {ws : va_W} {H0 : Heap}
def zN (U : State) : Prop := va_Nw (.methodLinkNest "LoanRounds" 35 y_Q_init "LoanRounds") U ∧ va_Nw (.methodLinkNest "LoanRounds" 36 y_G_init "LoanRounds") U ∧ va_Nw (.methodLinkNest "LoanRounds$Queue" 34 y_X_within "LoanRounds") U
def ZK (D : va_G) (cl : List vw_C) (tys : List (ClassId × FieldType)) (U : State) : Prop := va_K D cl tys U ∧ zN U
theorem ZK.moved {U : State} (hW : s.WarmedH U.vm) (h : ZK D cl tys s) : ZK D cl tys U := ⟨va_K.moved hW.alike h.1, va_Nw.warmM hW h.2.1, va_Nw.warmM hW h.2.2.1, va_Nw.warmM hW h.2.2.2⟩
def zPc (av : List Value) (H : Heap) (D : va_G) (cl : List vw_C) (tys : List (ClassId × FieldType)) : Array Value → State → Prop := va_Pc av (fun U => U.heap = H ∧ ZK D cl tys U)
def zQi (v : Int32) (H : Heap) : Array Value → State → Outcome → State → Prop := va_Qi (fun r (_ : Unit) => r = v) (fun _ t => t.heap = H) (fun _ => False)
def zQl (v : Int64) (H : Heap) : Array Value → State → Outcome → State → Prop := va_Ql (fun r (_ : Unit) => r = v) (fun _ t => t.heap = H) (fun _ => False)
def zQq (v : Option Nat) (H : Heap) : Array Value → State → Outcome → State → Prop := va_Qq (fun r (_ : Unit) => r = v) (fun _ t => t.heap = H) (fun _ => False)
def zQv (H : Heap) : Array Value → State → Outcome → State → Prop := va_Qv (fun (_ : Unit) => True) (fun _ t => t.heap = H) (fun _ => False)
theorem zPc_blind {av : List Value} : FrameBlind (zPc av H D cl tys) := fun a U g mk q => ⟨q.1, q.2.1, va_K.moved (u := U) (U := U.calling g mk a) (Vm.Alike.refl U.vm) q.2.2.1, va_Nw.same (U := U.calling g mk a) rfl rfl q.2.2.2.1, va_Nw.same (U := U.calling g mk a) rfl rfl q.2.2.2.2.1, va_Nw.same (U := U.calling g mk a) rfl rfl q.2.2.2.2.2⟩
theorem zPc_S {As : List Value} (hK : ZK D cl tys s) : PreS s H (zPc As H D cl tys) As := ⟨zPc_blind, fun U hU hW => ⟨rfl, hU, ZK.moved hW hK⟩⟩
theorem zPc_V {As : List Value} {b ci : Nat} {q : vw_C} {fs : List Value} (hK : ZK D cl tys s) (hP : va_P D cl ws H) (hc : cl[ci]? = some q) (hz : zin ws b (.inr (ci, fs))) : PreV s H q.1 b (zPc (.ref b :: As) H D cl tys) As :=
  ⟨zPc_blind, va_recv hK.1 (z_P hP hz) hc (q0 := 0) rfl, fun U hU hW => ⟨rfl, hU, ZK.moved hW hK⟩⟩
theorem z_calli {v : Int32} {av : Array Value} (hr : va_Run p l e R s m args below meth c H locs cells slots 0 0 (F0 m pc ls st0) rest (zQi v H av) (fun _ => False)) (hS : va_S A H0 H locs)
    (kk : ∀ locs1 : List Loc, va_S A H0 H locs1 → W p l e R s m args below meth c H locs1 cells slots Q (F0 m (pc + 3) ls (.int v :: rest))) : W p l e R s m args below meth c H locs cells slots Q (F0 m pc ls st0) := by
  refine va_calli hr hS (fun q _ h => h.elim) (fun q h => h.elim) (fun r u t H1 locs1 ht hvm hw hB _ _ hS1 => ?_)
  have e1 : H1 = H := ht.symm.trans hB
  subst e1
  have e2 : r = v := hw
  subst e2
  exact kk locs1 hS1
theorem z_calll {v : Int64} {av : Array Value} (hr : va_Run p l e R s m args below meth c H locs cells slots 0 0 (F0 m pc ls st0) rest (zQl v H av) (fun _ => False)) (hS : va_S A H0 H locs)
    (kk : ∀ locs1 : List Loc, va_S A H0 H locs1 → W p l e R s m args below meth c H locs1 cells slots Q (F0 m (pc + 3) ls (.long v :: rest))) : W p l e R s m args below meth c H locs cells slots Q (F0 m pc ls st0) := by
  refine va_calll hr hS (fun q _ h => h.elim) (fun q h => h.elim) (fun r u t H1 locs1 ht hvm hw hB _ _ hS1 => ?_)
  have e1 : H1 = H := ht.symm.trans hB
  subst e1
  have e2 : r = v := hw
  subst e2
  exact kk locs1 hS1
theorem z_callq {v : Option Nat} {av : Array Value} (hr : va_Run p l e R s m args below meth c H locs cells slots 0 0 (F0 m pc ls st0) rest (zQq v H av) (fun _ => False)) (hS : va_S A H0 H locs)
    (kk : ∀ locs1 : List Loc, va_S A H0 H locs1 → W p l e R s m args below meth c H locs1 cells slots Q (F0 m (pc + 3) ls (va_rf v :: rest))) : W p l e R s m args below meth c H locs cells slots Q (F0 m pc ls st0) := by
  refine va_callq hr hS (fun q _ h => h.elim) (fun q h => h.elim) (fun r u t H1 locs1 ht hvm hw hB _ _ hS1 => ?_)
  have e1 : H1 = H := ht.symm.trans hB
  subst e1
  have e2 : r = v := hw
  subst e2
  exact kk locs1 hS1
end ZC
def TT : List Cond := lw_tbl.filter goodWord
theorem tt_of {w : Cond} {i : Nat} (h : lw_tbl[i]? = some w) (hg : goodWord w = true) : w ∈ TT := List.mem_filter.mpr ⟨List.mem_of_getElem? h, hg⟩
theorem tt_good {w : Cond} (h : w ∈ TT) : (w.onTables && w.keeps) = true ∨ ∃ ty, w = .arrayClass ty := good_of_word (List.mem_filter.mp h).2
theorem tt_in {c1 : Cond} (h1 : c1 ∈ TT) : GoodIn TT (c1 :: TT) := by
  intro w hw
  have hw' : w ∈ TT := by
    rcases List.mem_cons.mp hw with rfl | h
    · exact h1
    · exact h
  exact ⟨hw', tt_good hw'⟩
theorem tt_V {c1 : Cond} {own C : String} {idx : Nat} {y : MethodName} (h1 : c1 ∈ TT) (hl : Cond.methodLink own idx y ∈ TT) (hi : Cond.instanceMethod y ∈ TT) (hs : Cond.selects C y y ∈ TT) (hn : Cond.initialized C ∈ TT) : GoodIn TT (wsV own idx C y (c1 :: TT)) := by
  intro w hw
  have hw' : w ∈ TT := by
    unfold wsV at hw
    rcases List.mem_append.mp hw with h | h
    · simp only [List.mem_cons, List.not_mem_nil, or_false] at h
      rcases h with rfl | rfl | rfl | rfl <;> assumption
    · rcases List.mem_cons.mp h with rfl | h
      · exact h1
      · exact h
  exact ⟨hw', tt_good hw'⟩
theorem tt_S {c1 : Cond} {own : String} {idx : Nat} {y : MethodName} (h1 : c1 ∈ TT) (hl : Cond.methodLink own idx y ∈ TT) (hs : Cond.static y ∈ TT) (hn : Cond.initialized y.cls ∈ TT) : GoodIn TT (va_wsS own idx y (c1 :: TT)) := by
  intro w hw
  have hw' : w ∈ TT := by
    unfold va_wsS at hw
    rcases List.mem_append.mp hw with h | h
    · simp only [List.mem_cons, List.not_mem_nil, or_false] at h
      rcases h with rfl | rfl | rfl <;> assumption
    · rcases List.mem_cons.mp h with rfl | h
      · exact h1
      · exact h
  exact ⟨hw', tt_good hw'⟩
def ZX (p : Program) (s : State) (m : MethodId) (args : Array Value) (meth : Method) (c : Code) (own : String) (cc : ByteArray) (maxL : Nat) (ret : Option FieldType) : Prop :=
  p.tables.exec = Jvm.exec ∧ c.code = cc ∧ meth.sig.returnType = ret ∧ (∀ w ∈ TT, w.before args s = true) ∧ s.vm.findClass own = some m.cls ∧ meth.locks = false ∧ c.maxLocals = maxL
theorem z_body {l : Launch} {y : MethodName} {cc : ByteArray} {maxL : Nat} {ret : Option FieldType} {rm : Room} {av : List Value} {H : Heap} {D : va_G} {cl : List vw_C} {tys : List (ClassId × FieldType)} {Qc : Array Value → State → Outcome → State → Prop} {mc ms : Nat} {free : Addr → Prop}
    (hy : plainName y.cls = true) (hn : (lg_sl av).length ≤ maxL)
    (body : ∀ (p : Program) (e : Env) (s : State) (m : MethodId) (below : List Frame) (meth : Method) (c : Code) (ls : Array Slot), ZX p s m av.toArray meth c y.cls cc maxL ret → s.heap = H → ZK D cl tys s → lv_has ls maxL (lv_args 0 av) →
      W p l e rm s m av.toArray below meth c s.heap [] 0 0 (MQ below Qc av.toArray s mc ms free) (F0 m 0 ls [])) :
    Met l y (Cond.code y cc maxL ret :: TT) rm (zPc av H D cl tys) Qc mc ms free := by
  refine Met.ofW (cc := cc) (maxL := maxL) (ret := ret) hy rfl ?_
  intro p e s m args below meth c s₁ B hml hv
  obtain ⟨rfl, hH, hK⟩ := hv
  have hts := atoms_spec (ws := Cond.code y cc maxL ret :: TT) B.pre
  have hl := lv_entry av (n := maxL) hn
  rw [lg_entry_eq]
  exact body p e s m below meth c _ ⟨B.exec, B.bytes, B.returns, fun w h => hts w (List.mem_cons_of_mem _ h), findClass_of_methodNamed B.named, B.notSynchronized, hml⟩ hH hK hl
section ZE
variable {p : Program} {l : Launch} {e : Env} {R : Room} {s : State} {m : MethodId} {args : Array Value} {below : List Frame} {meth : Method} {c : Code} {H : Heap} {locs : List Loc} {cells slots : Nat} {Q : State → Prop}
variable {cc : ByteArray} {pc : Nat} {ls : Array Slot} {rest st0 : List Value} {D : va_G} {cl : List vw_C} {A : Nat → Prop} {a : Nat} {tys : List (ClassId × FieldType)} {ws : va_W} {H0 : Heap}
theorem z_iret {v v' : Int32} (hx : p.tables.exec = Jvm.exec) (hb : c.code = cc) (hr : meth.sig.returnType = some .int) (hlocks : meth.locks = false) (hS : va_S (fun _ => False) s.heap s.heap locs) (hv : v' = v) (hdg : decode cc pc = .ok (.ireturn, 1)) :
    W p l e R s m args below meth c s.heap locs cells slots (MQ below (zQi v s.heap) args s cells slots (fun _ => False)) (F0 m pc ls [.int v']) := by
  subst hv
  exact W.iret hx hb hr (fun t ht hW => ⟨⟨_, (), rfl, rfl, ht⟩, hS.F ht⟩) hS.2.2 hdg hlocks
theorem z_zret {v : Int32} {b : Bool} (hx : p.tables.exec = Jvm.exec) (hb : c.code = cc) (hr : meth.sig.returnType = some .boolean) (hlocks : meth.locks = false) (hS : va_S (fun _ => False) s.heap s.heap locs) (hv : v = zb b) (hdg : decode cc pc = .ok (.ireturn, 1)) :
    W p l e R s m args below meth c s.heap locs cells slots (MQ below (zQi (zb b) s.heap) args s cells slots (fun _ => False)) (F0 m pc ls [.int v]) := by
  subst hv
  exact W.zret hx hb hr (by cases b <;> rfl) (fun t ht hW => ⟨⟨_, (), rfl, rfl, ht⟩, hS.F ht⟩) hS.2.2 hdg hlocks
theorem z_qret {v o : Option Nat} {rt : FieldType} (hx : p.tables.exec = Jvm.exec) (hb : c.code = cc) (hr : meth.sig.returnType = some rt) (hrt : (∃ n, rt = .object n) ∨ ∃ t, rt = .array t) (hlocks : meth.locks = false) (hS : va_S (fun _ => False) s.heap s.heap locs) (hv : v = o) (hdg : decode cc pc = .ok (.areturn, 1)) :
    W p l e R s m args below meth c s.heap locs cells slots (MQ below (zQq o s.heap) args s cells slots (fun _ => False)) (F0 m pc ls [va_rf v]) := by
  subst hv
  exact W.aret hx hb hr hrt (va_rf_or v) (fun t ht hW => ⟨⟨_, (), rfl, rfl, ht⟩, hS.F ht⟩) hS.2.2 hdg hlocks
def zR (D : va_G) (cl : List vw_C) (B : Nat) (vo : Option Value) (Rl : va_W → Prop) : Array Value → State → Outcome → State → Prop := fun _ st o t =>
  (∃ ws' : va_W, o = .returned vo ∧ Rl ws' ∧ va_P D cl ws' t.heap ∧ va_D (fun q => B ≤ q) ws') ∧ va_F (fun q => B ≤ q) st t
theorem z_call {vo : Option Value} {Rl : va_W → Prop} {B mc ms : Nat} {av : Array Value} (hr : va_Run p l e R s m args below meth c H locs cells slots mc ms (F0 m pc ls st0) rest (zR D cl B vo Rl av) (fun q => B ≤ q)) (hS : va_S (fun q => B ≤ q) H0 H locs)
    (kk : ∀ (ws' : va_W) (H1 : Heap) (locs1 : List Loc), Rl ws' → va_P D cl ws' H1 → va_D (fun q => B ≤ q) ws' → H.size ≤ H1.size → va_S (fun q => B ≤ q) H0 H1 locs1 → W p l e R s m args below meth c H1 locs1 (cells + mc) (slots + ms) Q (F0 m (pc + 3) ls (vo.toList ++ rest))) :
    W p l e R s m args below meth c H locs cells slots Q (F0 m pc ls st0) := by
  intro T hT X
  obtain ⟨v, st₀, t, T', L, h0, X', hL, e1, e2, ⟨⟨ws', hv, hR, hP, hD⟩, hz, hk⟩, st⟩ := hr T hT X
  cases hv
  rw [h0] at hz hk
  obtain ⟨t2, a1, b1⟩ := kk ws' T'.heap (locs ++ L) hR (by rw [e1]; exact hP) hD (by rw [e1]; exact hz)
    ⟨Nat.le_trans hS.1 (by rw [e1]; exact hz), fun q h1 h2 => by rw [e1, hk q (Nat.lt_of_lt_of_le h1 hS.1) h2]; exact hS.2.1 q h1 h2, fun q hq => by
      rcases List.mem_append.mp hq with h | h
      · exact hS.2.2 q h
      · exact hL q h⟩ T' rfl X'
  exact ⟨t2, st t2 a1, b1⟩
theorem z_vretR {Rl : va_W → Prop} {B : Nat} (hx : p.tables.exec = Jvm.exec) (hb : c.code = cc) (hr : meth.sig.returnType = none) (hlocks : meth.locks = false) (hP : va_P D cl ws H) (hD : va_D (fun q => B ≤ q) ws) (hS : va_S (fun q => B ≤ q) s.heap H locs) (hR : Rl ws) (hdg : decode cc pc = .ok (.return_, 1)) :
    W p l e R s m args below meth c H locs cells slots (MQ below (zR D cl B none Rl) args s cells slots (fun q => B ≤ q)) (F0 m pc ls []) :=
  W.vret hx hb hr (fun t ht hW => ⟨⟨ws, rfl, hR, by rw [ht]; exact hP, hD⟩, hS.F ht⟩) hS.2.2 hdg hlocks
theorem z_iretR {Rl : va_W → Prop} {B : Nat} {v v' : Int32} (hx : p.tables.exec = Jvm.exec) (hb : c.code = cc) (hr : meth.sig.returnType = some .int) (hlocks : meth.locks = false) (hP : va_P D cl ws H) (hD : va_D (fun q => B ≤ q) ws) (hS : va_S (fun q => B ≤ q) s.heap H locs) (hv : v' = v) (hR : Rl ws) (hdg : decode cc pc = .ok (.ireturn, 1)) :
    W p l e R s m args below meth c H locs cells slots (MQ below (zR D cl B (some (.int v)) Rl) args s cells slots (fun q => B ≤ q)) (F0 m pc ls [.int v']) := by
  subst hv
  exact W.iret hx hb hr (fun t ht hW => ⟨⟨ws, rfl, hR, by rw [ht]; exact hP, hD⟩, hS.F ht⟩) hS.2.2 hdg hlocks
theorem z_zretR {Rl : va_W → Prop} {B : Nat} {v : Int32} {b : Bool} (hx : p.tables.exec = Jvm.exec) (hb : c.code = cc) (hr : meth.sig.returnType = some .boolean) (hlocks : meth.locks = false) (hP : va_P D cl ws H) (hD : va_D (fun q => B ≤ q) ws) (hS : va_S (fun q => B ≤ q) s.heap H locs) (hv : v = zb b) (hR : Rl ws) (hdg : decode cc pc = .ok (.ireturn, 1)) :
    W p l e R s m args below meth c H locs cells slots (MQ below (zR D cl B (some (.int (zb b))) Rl) args s cells slots (fun q => B ≤ q)) (F0 m pc ls [.int v]) := by
  subst hv
  exact W.zret hx hb hr (by cases b <;> rfl) (fun t ht hW => ⟨⟨ws, rfl, hR, by rw [ht]; exact hP, hD⟩, hS.F ht⟩) hS.2.2 hdg hlocks
theorem z_get (hx : p.tables.exec = Jvm.exec) (hb : c.code = cc) {own ref C : String} {T : u_T} {N ci index : Nat} (hts : ∀ w ∈ TT, w.before args s = true) (hin : ∀ w ∈ u_ws C T N, w ∈ TT) (hown : s.vm.findClass own = some m.cls) (hK : va_K D cl tys s) (hP : va_P D cl ws H) {fs : List Value} (hz : zin ws a (.inr (ci, fs))) (hc : cl[ci]? = some (C, T, N)) (k : Nat) (hk : k < N) (hlink : Cond.fieldLink own index ref (T k).2.1 (T k).2.2.1 ∈ TT) (hsame : ∀ x, s.fieldFound? (T k).1 (T k).2.1 (T k).2.2.1 = some x → s.fieldFound? ref (T k).2.1 (T k).2.2.1 = some x) {v : Value} (hv : fs[k]? = some v) (hdg : decode cc pc = .ok (.getfield index, 3))
    (kk : W p l e R s m args below meth c H locs cells slots Q (F0 m (pc + 3) ls (v :: rest))) : W p l e R s m args below meth c H locs cells slots Q (F0 m pc ls (.ref a :: rest)) :=
  va_get hx hb hts hin hown hK (z_P hP hz) 0 rfl hc k hk (hts _ hlink) hsame hv hdg kk
theorem z_put (hx : p.tables.exec = Jvm.exec) (hb : c.code = cc) {own ref C : String} {T : u_T} {N ci index : Nat} (hts : ∀ w ∈ TT, w.before args s = true) (hin : ∀ w ∈ u_ws C T N, w ∈ TT) (ty0 : Nat → FieldType) (hty : ∀ k, k < N → parseFieldDescriptor (T k).2.2.1 = some (ty0 k)) (hnm : ∀ a, a < N → ∀ b, b < N → a ≠ b → (T a).2.1 ≠ (T b).2.1) (hown : s.vm.findClass own = some m.cls) (hK : va_K D cl tys s) (hP : va_P D cl ws H) (hD : va_D A ws) (hS : va_S A H0 H locs) {fs : List Value} (hz : zin ws a (.inr (ci, fs))) (hc : cl[ci]? = some (C, T, N)) (k : Nat) (hk : k < N) (hlink : Cond.fieldLink own index ref (T k).2.1 (T k).2.2.1 ∈ TT) (hsame : ∀ x, s.fieldFound? (T k).1 (T k).2.1 (T k).2.2.1 = some x → s.fieldFound? ref (T k).2.1 (T k).2.2.1 = some x) (hfin : (T k).2.2.2 = false) {v : Value} (hn : narrow (ty0 k) v = v) (hfit : fits (ty0 k) v = true) (hl : k < fs.length)
    (hdg : decode cc pc = .ok (.putfield index, 3)) (kk : ∀ (ws' : va_W) (H1 : Heap) (locs1 : List Loc), va_P D cl ws' H1 → va_D A ws' → va_S A H0 H1 locs1 → zupd ws a (.inr (ci, fs.set k v)) ws' → W p l e R s m args below meth c H1 locs1 cells slots Q (F0 m (pc + 3) ls rest)) : W p l e R s m args below meth c H locs cells slots Q (F0 m pc ls (v :: .ref a :: rest)) := by
  obtain ⟨q0, he⟩ := hz
  exact va_put hx hb hts hin ty0 hty hnm hown hK hP hD hS q0 he hc k hk (hts _ hlink) hsame hfin (hty k hk) hn hfit hl hdg (fun H1 locs1 h1 h2 h3 => kk _ H1 locs1 h1 h2 h3 (zupd_set he))
theorem z_putF (hx : p.tables.exec = Jvm.exec) (hb : c.code = cc) {own ref C : String} {T : u_T} {N ci index : Nat} (hts : ∀ w ∈ TT, w.before args s = true) (hin : ∀ w ∈ u_ws C T N, w ∈ TT) (ty0 : Nat → FieldType) (hty : ∀ k, k < N → parseFieldDescriptor (T k).2.2.1 = some (ty0 k)) (hnm : ∀ a, a < N → ∀ b, b < N → a ≠ b → (T a).2.1 ≠ (T b).2.1) (hown : s.vm.findClass own = some m.cls) (hK : va_K D cl tys s) (hP : va_P D cl ws H) (hD : va_D A ws) (hS : va_S A H0 H locs) {fs : List Value} (hz : zin ws a (.inr (ci, fs))) (hc : cl[ci]? = some (C, T, N)) (k : Nat) (hk : k < N) (hlink : Cond.fieldLink own index ref (T k).2.1 (T k).2.2.1 ∈ TT) (hsame : ∀ x, s.fieldFound? (T k).1 (T k).2.1 (T k).2.2.1 = some x → s.fieldFound? ref (T k).2.1 (T k).2.2.1 = some x) (hfin : (T k).2.2.2 = true) (hinit : meth.name = "<init>") (hdecl : (T k).1 = own) {v : Value} (hn : narrow (ty0 k) v = v) (hfit : fits (ty0 k) v = true) (hl : k < fs.length)
    (hdg : decode cc pc = .ok (.putfield index, 3)) (kk : ∀ (ws' : va_W) (H1 : Heap) (locs1 : List Loc), va_P D cl ws' H1 → va_D A ws' → va_S A H0 H1 locs1 → zupd ws a (.inr (ci, fs.set k v)) ws' → W p l e R s m args below meth c H1 locs1 cells slots Q (F0 m (pc + 3) ls rest)) : W p l e R s m args below meth c H locs cells slots Q (F0 m pc ls (v :: .ref a :: rest)) := by
  obtain ⟨q0, he⟩ := hz
  exact va_putF hx hb hts hin ty0 hty hnm hown hK hP hD hS q0 he hc k hk (hts _ hlink) hsame hfin hinit hdecl (hty k hk) hn hfit hl hdg (fun H1 locs1 h1 h2 h3 => kk _ H1 locs1 h1 h2 h3 (zupd_set he))
end ZE
section ZA
variable {p : Program} {l : Launch} {e : Env} {R : Room} {s : State} {m : MethodId} {args : Array Value} {below : List Frame} {meth : Method} {c : Code} {H : Heap} {locs : List Loc} {cells slots : Nat} {Q : State → Prop}
variable {cc : ByteArray} {pc : Nat} {ls : Array Slot} {rest st0 : List Value} {D : va_G} {cl : List vw_C} {A : Nat → Prop} {a : Nat} {tys : List (ClassId × FieldType)} {ws : va_W} {H0 : Heap}
theorem z_iald (hx : p.tables.exec = Jvm.exec) (hb : c.code = cc) (hK : va_K D cl tys s) (hP : va_P D cl ws H) (t0 : Nat) {cA : ClassId} {n : Nat} {f : Nat → Int32} (hz : zin ws a (.inl (cA, n, .inl f))) (ht : tys[t0]? = some (cA, .int)) {i : Int32} (j : Nat) (hj : i = nI j) (hn : j < n) (hN : n < 2 ^ 31) (hdg : decode cc pc = .ok (.iaload, 1))
    (kk : W p l e R s m args below meth c H locs cells slots Q (F0 m (pc + 1) ls (.int (f j) :: rest))) : W p l e R s m args below meth c H locs cells slots Q (F0 m pc ls (.int i :: .ref a :: rest)) := by
  subst hj
  refine va_iald hx hb hK (z_P hP hz) 0 t0 rfl ht (vp_in_nI hn hN) hdg ?_
  rw [nI_clamp (by omega)]
  exact kk
theorem z_lald (hx : p.tables.exec = Jvm.exec) (hb : c.code = cc) (hK : va_K D cl tys s) (hP : va_P D cl ws H) (t0 : Nat) {cA : ClassId} {n : Nat} {f : Nat → Int64} (hz : zin ws a (.inl (cA, n, .inr (.inl f)))) (ht : tys[t0]? = some (cA, .long)) {i : Int32} (j : Nat) (hj : i = nI j) (hn : j < n) (hN : n < 2 ^ 31) (hdg : decode cc pc = .ok (.laload, 1))
    (kk : W p l e R s m args below meth c H locs cells slots Q (F0 m (pc + 1) ls (.long (f j) :: rest))) : W p l e R s m args below meth c H locs cells slots Q (F0 m pc ls (.int i :: .ref a :: rest)) := by
  subst hj
  refine va_lald hx hb hK (z_P hP hz) 0 t0 rfl ht (vp_in_nI hn hN) hdg ?_
  rw [nI_clamp (by omega)]
  exact kk
theorem z_aald (hx : p.tables.exec = Jvm.exec) (hb : c.code = cc) (hK : va_K D cl tys s) (hP : va_P D cl ws H) (t0 : Nat) {cA : ClassId} {C : String} {n : Nat} {f : Nat → Option Nat} (hz : zin ws a (.inl (cA, n, .inr (.inr (.inr (.inr f)))))) (ht : tys[t0]? = some (cA, .object C)) {i : Int32} (j : Nat) (hj : i = nI j) (hn : j < n) (hN : n < 2 ^ 31) (hdg : decode cc pc = .ok (.aaload, 1))
    (kk : W p l e R s m args below meth c H locs cells slots Q (F0 m (pc + 1) ls (va_rf (f j) :: rest))) : W p l e R s m args below meth c H locs cells slots Q (F0 m pc ls (.int i :: .ref a :: rest)) := by
  subst hj
  refine va_aldq hx hb hK (z_P hP hz) 0 t0 rfl ht (vp_in_nI hn hN) hdg ?_
  rw [nI_clamp (by omega)]
  exact kk
theorem z_alen (hx : p.tables.exec = Jvm.exec) (hb : c.code = cc) (hK : va_K D cl tys s) (hP : va_P D cl ws H) (t0 : Nat) {cA : ClassId} {x : vp_A} (hz : zin ws a (.inl (cA, x))) {ty : FieldType} (ht : tys[t0]? = some (cA, ty)) (hdg : decode cc pc = .ok (.arraylength, 1))
    (kk : W p l e R s m args below meth c H locs cells slots Q (F0 m (pc + 1) ls (.int (nI x.1) :: rest))) : W p l e R s m args below meth c H locs cells slots Q (F0 m pc ls (.ref a :: rest)) :=
  va_alen hx hb hK (z_P hP hz) 0 t0 rfl ht rfl hdg kk
theorem z_iast (hx : p.tables.exec = Jvm.exec) (hb : c.code = cc) (hK : va_K D cl tys s) (hP : va_P D cl ws H) (hD : va_D A ws) (hS : va_S A H0 H locs) (t0 : Nat) {cA : ClassId} {n : Nat} {f : Nat → Int32} (hz : zin ws a (.inl (cA, n, .inl f))) (ht : tys[t0]? = some (cA, .int)) {i x : Int32} (j : Nat) (hj : i = nI j) (hn : j < n) (hN : n < 2 ^ 31) (hdg : decode cc pc = .ok (.iastore, 1))
    (kk : ∀ (ws' : va_W) (H1 : Heap) (locs1 : List Loc), va_P D cl ws' H1 → va_D A ws' → va_S A H0 H1 locs1 → zupd ws a (.inl (cA, n, .inl (upd f j x))) ws' → W p l e R s m args below meth c H1 locs1 cells slots Q (F0 m (pc + 1) ls rest)) : W p l e R s m args below meth c H locs cells slots Q (F0 m pc ls (.int x :: .int i :: .ref a :: rest)) := by
  subst hj
  obtain ⟨q0, he⟩ := hz
  refine va_iast hx hb hK hP hD hS q0 t0 he ht (vp_in_nI hn hN) hdg (fun H1 locs1 h1 h2 h3 => ?_)
  rw [nI_clamp (by omega)] at h1 h2
  exact kk _ H1 locs1 h1 h2 h3 (zupd_set he)
theorem z_last (hx : p.tables.exec = Jvm.exec) (hb : c.code = cc) (hK : va_K D cl tys s) (hP : va_P D cl ws H) (hD : va_D A ws) (hS : va_S A H0 H locs) (t0 : Nat) {cA : ClassId} {n : Nat} {f : Nat → Int64} (hz : zin ws a (.inl (cA, n, .inr (.inl f)))) (ht : tys[t0]? = some (cA, .long)) {i : Int32} {x : Int64} (j : Nat) (hj : i = nI j) (hn : j < n) (hN : n < 2 ^ 31) (hdg : decode cc pc = .ok (.lastore, 1))
    (kk : ∀ (ws' : va_W) (H1 : Heap) (locs1 : List Loc), va_P D cl ws' H1 → va_D A ws' → va_S A H0 H1 locs1 → zupd ws a (.inl (cA, n, .inr (.inl (vp_updL f j x)))) ws' → W p l e R s m args below meth c H1 locs1 cells slots Q (F0 m (pc + 1) ls rest)) : W p l e R s m args below meth c H locs cells slots Q (F0 m pc ls (.long x :: .int i :: .ref a :: rest)) := by
  subst hj
  obtain ⟨q0, he⟩ := hz
  refine va_last hx hb hK hP hD hS q0 t0 he ht (vp_in_nI hn hN) hdg (fun H1 locs1 h1 h2 h3 => ?_)
  rw [nI_clamp (by omega)] at h1 h2
  exact kk _ H1 locs1 h1 h2 h3 (zupd_set he)
theorem z_aast (hx : p.tables.exec = Jvm.exec) (hb : c.code = cc) (hK : va_K D cl tys s) (hP : va_P D cl ws H) (hD : va_D A ws) (hS : va_S A H0 H locs) (t0 ci : Nat) {cA : ClassId} {r : vw_C} {n v : Nat} {vs : List Value} {f : Nat → Option Nat} (hz : zin ws a (.inl (cA, n, .inr (.inr (.inr (.inr f)))))) (ht : tys[t0]? = some (cA, .object r.1)) (hv : zin ws v (.inr (ci, vs))) (hc : cl[ci]? = some r) {i : Int32} (j : Nat) (hj : i = nI j) (hn : j < n) (hN : n < 2 ^ 31) (hdg : decode cc pc = .ok (.aastore, 1))
    (kk : ∀ (ws' : va_W) (H1 : Heap) (locs1 : List Loc), va_P D cl ws' H1 → va_D A ws' → va_S A H0 H1 locs1 → zupd ws a (.inl (cA, n, .inr (.inr (.inr (.inr (va_up f j (some v))))))) ws' → W p l e R s m args below meth c H1 locs1 cells slots Q (F0 m (pc + 1) ls rest)) : W p l e R s m args below meth c H locs cells slots Q (F0 m pc ls (.ref v :: .int i :: .ref a :: rest)) := by
  subst hj
  obtain ⟨q0, he⟩ := hz
  obtain ⟨qk, hk⟩ := hv
  refine va_astq hx hb hK hP hD hS q0 t0 qk ci he ht hk hc (vp_in_nI hn hN) hdg (fun H1 locs1 h1 h2 h3 => ?_)
  rw [nI_clamp (by omega)] at h1 h2
  exact kk _ H1 locs1 h1 h2 h3 (zupd_set he)
theorem znew_ne {ws : va_W} {q : Nat} {en : va_E} (hD : va_D A (ws ++ [(q, en)])) {b : Nat} {f : va_E} (h : zin ws b f) : b ≠ q := by
  intro z
  subst z
  obtain ⟨k, hk⟩ := h
  have hl := (List.getElem?_eq_some_iff.mp hk).1
  have := hD.1 k ws.length (b, f) (b, en) (by rw [List.getElem?_append_left hl]; exact hk) (by simp) rfl
  omega
theorem z_new (hx : p.tables.exec = Jvm.exec) (hb : c.code = cc) {own C : String} {T : u_T} {N ci index : Nat} (hts : ∀ w ∈ TT, w.before args s = true) (hin : ∀ w ∈ u_ws C T N, w ∈ TT) (ty : Nat → FieldType) (hty : ∀ k, k < N → parseFieldDescriptor (T k).2.2.1 = some (ty k)) (hown : s.vm.findClass own = some m.cls) (hcl : Cond.classLink own index C ∈ TT) (hinst : Cond.instantiable C N ∈ TT) (hini : Cond.initialized C ∈ TT)
    (hK : va_K D cl tys s) (hP : va_P D cl ws H) (hD : va_D A ws) (hS : va_S A H0 H locs) (hA : ∀ q, H0.size ≤ q → A q) (hc : cl[ci]? = some (C, T, N)) {fs : List Value} (hfs : ∀ j, j < N → defaultValue (ty j) = vp_V fs j) (hcells : cells + 1 ≤ R.cells) (hslots : slots + N ≤ R.slots) (hdg : decode cc pc = .ok (.new index, 3))
    (kk : ∀ (q : Nat) (ws' : va_W) (H1 : Heap), va_P D cl ws' H1 → va_D A ws' → va_S A H0 H1 locs → znew ws q (.inr (ci, fs)) ws' → (∀ (b : Nat) (f : va_E), zin ws b f → b ≠ q) →
      W p l e R s m args below meth c H1 locs (cells + 1) (slots + N) Q (F0 m (pc + 3) ls (.ref q :: rest))) : W p l e R s m args below meth c H locs cells slots Q (F0 m pc ls rest) :=
  va_new hx hb hts hin ty hty hown (hts _ hcl) (hts _ hinst) (hts _ hini) hK hP hD hS hA hc hfs hcells hslots hdg (fun q H1 h1 h2 h3 => kk q _ H1 h1 h2 h3 znew_app (fun b f h => znew_ne h2 h))
end ZA
