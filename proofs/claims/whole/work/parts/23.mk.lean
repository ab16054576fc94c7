def oN : String := "java/lang/Object"
def dcN : String := "DEFAULTCAPACITY_EMPTY_ELEMENTDATA"
def zA (e0 mi B : Nat) (U : State) (H : Heap) : Prop := (va_AO "java/lang/Object" U ∧ va_AO "LoanRounds$Queue" U ∧ va_AO "LoanRounds$Group" U) ∧ va_Dc U ∧ va_Mi "[Ljava/lang/Object;" mi U ∧ va_Z "java/util/ArrayList" "DEFAULTCAPACITY_EMPTY_ELEMENTDATA" "[Ljava/lang/Object;" (.ref e0) (fun q => B ≤ q) U H ∧ va_T (.object "java/lang/Object") e0 0 (fun _ => .null) (fun q => B ≤ q) U H ∧ va_Nw (.castable "LoanRounds$Task" "java/lang/Object") U
theorem zA.moved {e0 mi B : Nat} {u U : State} {H : Heap} (hvm : u.vm.Alike U.vm) (h : zA e0 mi B u H) : zA e0 mi B U H :=
  ⟨⟨va_AO.moved hvm h.1.1, va_AO.moved hvm h.1.2.1, va_AO.moved hvm h.1.2.2⟩, va_Dc.moved hvm h.2.1, va_Mi.moved hvm h.2.2.1, va_Z.moved hvm h.2.2.2.1, va_T.moved hvm h.2.2.2.2.1, va_tabs rfl (rfl : (u.setVm U.vm).vm = U.vm) (by rw [Cond.castable_setVm hvm]; exact h.2.2.2.2.2)⟩
theorem zA.kept {e0 mi B : Nat} {U : State} {H H1 : Heap} (h : zA e0 mi B U H) (hq : ∀ a : Nat, a < H.size → ¬ B ≤ a → H1[a]? = H[a]?) : zA e0 mi B U H1 := ⟨h.1, h.2.1, h.2.2.1, va_Z.kept h.2.2.2.1 hq, va_T.kept h.2.2.2.2.1 hq, h.2.2.2.2.2⟩
theorem zA.on {e0 mi B : Nat} {U : State} {H H1 : Heap} {locs : List Loc} (h : zA e0 mi B U H) (hS : va_S (fun q => B ≤ q) H H1 locs) : zA e0 mi B U H1 := h.kept (fun a h1 h2 => hS.2.1 a h1 h2)
def zPa (av : List Value) (H : Heap) (D : va_G) (cl : List vw_C) (tys : List (ClassId × FieldType)) (e0 mi B : Nat) : Array Value → State → Prop := va_Pc av (fun U => (U.heap = H ∧ ZK D cl tys U) ∧ zA e0 mi B U H)
section ZAA
variable {p : Program} {l : Launch} {e : Env} {R : Room} {s : State} {m : MethodId} {args : Array Value} {below : List Frame} {meth : Method} {c : Code} {H : Heap} {locs : List Loc} {cells slots : Nat} {Q : State → Prop}
variable {cc : ByteArray} {pc : Nat} {ls : Array Slot} {rest st0 : List Value} {D : va_G} {cl : List vw_C} {A : Nat → Prop} {a : Nat} {tys : List (ClassId × FieldType)} {ws : va_W} {H0 : Heap} {e0 mi B : Nat}
theorem ZK.same {U : State} {g : JFrame} {mk : MethodId} {a : Array Value} (h : ZK D cl tys U) : ZK D cl tys (U.calling g mk a) := ⟨va_K.moved (u := U) (U := U.calling g mk a) (Vm.Alike.refl U.vm) h.1, va_Nw.same (U := U.calling g mk a) rfl rfl h.2.1, va_Nw.same (U := U.calling g mk a) rfl rfl h.2.2.1, va_Nw.same (U := U.calling g mk a) rfl rfl h.2.2.2⟩
theorem zPa_blind {av : List Value} : FrameBlind (zPa av H D cl tys e0 mi B) := fun a U g mk q => ⟨q.1, ⟨q.2.1.1, ZK.same q.2.1.2⟩, zA.moved (u := U) (U := U.calling g mk a) (Vm.Alike.refl U.vm) q.2.2⟩
theorem zPa_S {As : List Value} (hK : ZK D cl tys s) (hZ : zA e0 mi B s H) : PreS s H (zPa As H D cl tys e0 mi B) As := ⟨zPa_blind, fun U hU hW => ⟨rfl, ⟨hU, ZK.moved hW hK⟩, zA.moved hW.alike hZ⟩⟩
theorem zPa_V {As : List Value} {b ci : Nat} {q : vw_C} {fs : List Value} (hK : ZK D cl tys s) (hZ : zA e0 mi B s H) (hP : va_P D cl ws H) (hc : cl[ci]? = some q) (hz : zin ws b (.inr (ci, fs))) : PreV s H q.1 b (zPa (.ref b :: As) H D cl tys e0 mi B) As :=
  ⟨zPa_blind, va_recv hK.1 (z_P hP hz) hc (q0 := 0) rfl, fun U hU hW => ⟨rfl, ⟨hU, ZK.moved hW hK⟩, zA.moved hW.alike hZ⟩⟩
theorem z_bodyA {y : MethodName} {maxL : Nat} {ret : Option FieldType} {rm : Room} {av : List Value} {Qc : Array Value → State → Outcome → State → Prop} {mc ms : Nat} {free : Addr → Prop}
    (hy : plainName y.cls = true) (hn : (lg_sl av).length ≤ maxL)
    (body : ∀ (p : Program) (e : Env) (s : State) (m : MethodId) (below : List Frame) (meth : Method) (c : Code) (ls : Array Slot), ZX p s m av.toArray meth c y.cls cc maxL ret → meth.name = y.name → s.heap = H → ZK D cl tys s → zA e0 mi B s H → lv_has ls maxL (lv_args 0 av) →
      W p l e rm s m av.toArray below meth c s.heap [] 0 0 (MQ below Qc av.toArray s mc ms free) (F0 m 0 ls [])) :
    Met l y (Cond.code y cc maxL ret :: TT) rm (zPa av H D cl tys e0 mi B) Qc mc ms free := by
  refine Met.ofW (cc := cc) (maxL := maxL) (ret := ret) hy rfl ?_
  intro p e s m args below meth c s₁ B' hml hv
  obtain ⟨rfl, ⟨hH, hK⟩, hZ⟩ := hv
  have hts := atoms_spec (ws := Cond.code y cc maxL ret :: TT) B'.pre
  have hl := lv_entry av (n := maxL) hn
  rw [lg_entry_eq]
  exact body p e s m below meth c _ ⟨B'.exec, B'.bytes, B'.returns, fun w h => hts w (List.mem_cons_of_mem _ h), findClass_of_methodNamed B'.named, B'.notSynchronized, hml⟩ (name_of_methodNamed B'.named B'.method).1 hH hK hZ hl
theorem z_bodyN {y : MethodName} {maxL : Nat} {ret : Option FieldType} {rm : Room} {av : List Value} {Qc : Array Value → State → Outcome → State → Prop} {mc ms : Nat} {free : Addr → Prop}
    (hy : plainName y.cls = true) (hn : (lg_sl av).length ≤ maxL)
    (body : ∀ (p : Program) (e : Env) (s : State) (m : MethodId) (below : List Frame) (meth : Method) (c : Code) (ls : Array Slot), ZX p s m av.toArray meth c y.cls cc maxL ret → meth.name = y.name → s.heap = H → ZK D cl tys s → lv_has ls maxL (lv_args 0 av) →
      W p l e rm s m av.toArray below meth c s.heap [] 0 0 (MQ below Qc av.toArray s mc ms free) (F0 m 0 ls [])) :
    Met l y (Cond.code y cc maxL ret :: TT) rm (zPc av H D cl tys) Qc mc ms free := by
  refine Met.ofW (cc := cc) (maxL := maxL) (ret := ret) hy rfl ?_
  intro p e s m args below meth c s₁ B' hml hv
  obtain ⟨rfl, hH, hK⟩ := hv
  have hts := atoms_spec (ws := Cond.code y cc maxL ret :: TT) B'.pre
  have hl := lv_entry av (n := maxL) hn
  rw [lg_entry_eq]
  exact body p e s m below meth c _ ⟨B'.exec, B'.bytes, B'.returns, fun w h => hts w (List.mem_cons_of_mem _ h), findClass_of_methodNamed B'.named, B'.notSynchronized, hml⟩ (name_of_methodNamed B'.named B'.method).1 hH hK hl
def zRr (D : va_G) (cl : List vw_C) (B : Nat) (Rl : Nat → va_W → Prop) : Array Value → State → Outcome → State → Prop := fun _ st o t =>
  (∃ (q : Nat) (ws' : va_W), o = .returned (some (.ref q)) ∧ Rl q ws' ∧ va_P D cl ws' t.heap ∧ va_D (fun q => B ≤ q) ws') ∧ va_F (fun q => B ≤ q) st t
theorem z_callr {Rl : Nat → va_W → Prop} {mc ms : Nat} {av : Array Value} (hr : va_Run p l e R s m args below meth c H locs cells slots mc ms (F0 m pc ls st0) rest (zRr D cl B Rl av) (fun q => B ≤ q)) (hS : va_S (fun q => B ≤ q) H0 H locs)
    (kk : ∀ (q : Nat) (ws' : va_W) (H1 : Heap) (locs1 : List Loc), Rl q ws' → va_P D cl ws' H1 → va_D (fun q => B ≤ q) ws' → va_S (fun q => B ≤ q) H0 H1 locs1 → W p l e R s m args below meth c H1 locs1 (cells + mc) (slots + ms) Q (F0 m (pc + 3) ls (.ref q :: rest))) :
    W p l e R s m args below meth c H locs cells slots Q (F0 m pc ls st0) := by
  intro T hT X
  obtain ⟨v, st₀, t, T', L, h0, X', hL, e1, e2, ⟨⟨q, ws', hv, hR, hP, hD⟩, hz, hk⟩, st⟩ := hr T hT X
  cases hv
  rw [h0] at hz hk
  obtain ⟨t2, a1, b1⟩ := kk q ws' T'.heap (locs ++ L) hR (by rw [e1]; exact hP) hD
    ⟨Nat.le_trans hS.1 (by rw [e1]; exact hz), fun q h1 h2 => by rw [e1, hk q (Nat.lt_of_lt_of_le h1 hS.1) h2]; exact hS.2.1 q h1 h2, fun q hq => by
      rcases List.mem_append.mp hq with h | h
      · exact hS.2.2 q h
      · exact hL q h⟩ T' rfl X'
  exact ⟨t2, st t2 a1, b1⟩
theorem z_aretR {Rl : Nat → va_W → Prop} {q : Nat} {rt : FieldType} (hx : p.tables.exec = Jvm.exec) (hb : c.code = cc) (hr : meth.sig.returnType = some rt) (hrt : (∃ n, rt = .object n) ∨ ∃ t, rt = .array t) (hlocks : meth.locks = false) (hP : va_P D cl ws H) (hD : va_D (fun q => B ≤ q) ws) (hS : va_S (fun q => B ≤ q) s.heap H locs) (hR : Rl q ws) (hdg : decode cc pc = .ok (.areturn, 1)) :
    W p l e R s m args below meth c H locs cells slots (MQ below (zRr D cl B Rl) args s cells slots (fun q => B ≤ q)) (F0 m pc ls [.ref q]) :=
  W.aret hx hb hr hrt (va_rf_or (some q)) (fun t ht hW => ⟨⟨q, ws, rfl, hR, by rw [ht]; exact hP, hD⟩, hS.F ht⟩) hS.2.2 hdg hlocks
theorem z_newq (hx : p.tables.exec = Jvm.exec) (hb : c.code = cc) {own C : String} {index : Nat} (hts : ∀ w ∈ TT, w.before args s = true) (hown : s.vm.findClass own = some m.cls) (hlink : Cond.classLink own index C ∈ TT) (hover : va_AO C s) (hK : va_K D cl tys s) (hP : va_P D cl ws H) (hD : va_D A ws) (hS : va_S A H0 H locs) (hA : ∀ q, H0.size ≤ q → A q) (t0 : Nat) {cA : ClassId} (ht : tys[t0]? = some (cA, .object C))
    {n : Int32} (N : Nat) (hn : n = nI N) (hN : N < 1000) (hcells : cells + 1 ≤ R.cells) (hslots : slots + N ≤ R.slots) (hdg : decode cc pc = .ok (.anewarray index, 3))
    (kk : ∀ (q : Nat) (ws' : va_W) (H1 : Heap), va_P D cl ws' H1 → va_D A ws' → va_S A H0 H1 locs → znew ws q (.inl (cA, N, .inr (.inr (.inr (.inr (fun _ => none)))))) ws' → (∀ (b : Nat) (f : va_E), zin ws b f → b ≠ q) → A q →
      W p l e R s m args below meth c H1 locs (cells + 1) (slots + N) Q (F0 m (pc + 3) ls (.ref q :: rest))) : W p l e R s m args below meth c H locs cells slots Q (F0 m pc ls (.int n :: rest)) := by
  subst hn
  refine va_newq hx hb hown (hts _ hlink) hover hK hP hD hS hA (nI_pos (by omega)) (nI_clamp (by omega)) (by omega) hcells hslots hdg (fun q cA' H1 h1 h2 h3 h4 => ?_)
  have e1 : cA' = cA := by
    obtain ⟨-, -, -, -, -, z1⟩ := (h1.2 tys.length (cA', .object C) (by simp)).2
    obtain ⟨-, -, -, -, -, z2⟩ := (hK.2 t0 _ ht).2
    exact Option.some.inj (z1.symm.trans z2)
  subst e1
  exact kk q _ H1 h2 h3 h4 znew_app (fun b f h => znew_ne h3 h) (zin_A h3 (znew_app (ws := ws)).1)
theorem z_newi (hx : p.tables.exec = Jvm.exec) (hb : c.code = cc) (hts : ∀ w ∈ TT, w.before args s = true) (harr : Cond.arrayClass .int ∈ TT) (hK : va_K D cl tys s) (hP : va_P D cl ws H) (hD : va_D A ws) (hS : va_S A H0 H locs) (hA : ∀ q, H0.size ≤ q → A q) (t0 : Nat) {cA : ClassId} (ht : tys[t0]? = some (cA, .int))
    {n : Int32} (N : Nat) (hn : n = nI N) (hN : N < 1000) (hcells : cells + 1 ≤ R.cells) (hslots : slots + N ≤ R.slots) (hdg : decode cc pc = .ok (.newarray .int, 2))
    (kk : ∀ (q : Nat) (ws' : va_W) (H1 : Heap), va_P D cl ws' H1 → va_D A ws' → va_S A H0 H1 locs → znew ws q (.inl (cA, N, .inl (fun _ => 0))) ws' → (∀ (b : Nat) (f : va_E), zin ws b f → b ≠ q) → A q →
      W p l e R s m args below meth c H1 locs (cells + 1) (slots + N) Q (F0 m (pc + 2) ls (.ref q :: rest))) : W p l e R s m args below meth c H locs cells slots Q (F0 m pc ls (.int n :: rest)) := by
  subst hn
  refine va_newa hx hb (atype := .int) (hts _ harr) (ty := .int) rfl hK hP hD hS hA (a0 := (N, .inl (fun _ => 0))) (fun cA => rfl) (nI_pos (by omega)) (nI_clamp (by omega)) (by show N * 4 ≤ _; omega) hcells hslots hdg (fun q cA' H1 h1 h2 h3 h4 => ?_)
  have e1 : cA' = cA := Option.some.inj ((show s.vm.findClass _ = some cA' from (h1.2 tys.length (cA', .int) (by simp)).2).symm.trans (hK.2 t0 _ ht).2)
  subst e1
  exact kk q _ H1 h2 h3 h4 znew_app (fun b f h => znew_ne h3 h) (zin_A h3 (znew_app (ws := ws)).1)
theorem z_newl (hx : p.tables.exec = Jvm.exec) (hb : c.code = cc) (hts : ∀ w ∈ TT, w.before args s = true) (harr : Cond.arrayClass .long ∈ TT) (hK : va_K D cl tys s) (hP : va_P D cl ws H) (hD : va_D A ws) (hS : va_S A H0 H locs) (hA : ∀ q, H0.size ≤ q → A q) (t0 : Nat) {cA : ClassId} (ht : tys[t0]? = some (cA, .long))
    {n : Int32} (N : Nat) (hn : n = nI N) (hN : N < 1000) (hcells : cells + 1 ≤ R.cells) (hslots : slots + N ≤ R.slots) (hdg : decode cc pc = .ok (.newarray .long, 2))
    (kk : ∀ (q : Nat) (ws' : va_W) (H1 : Heap), va_P D cl ws' H1 → va_D A ws' → va_S A H0 H1 locs → znew ws q (.inl (cA, N, .inr (.inl (fun _ => 0)))) ws' → (∀ (b : Nat) (f : va_E), zin ws b f → b ≠ q) → A q →
      W p l e R s m args below meth c H1 locs (cells + 1) (slots + N) Q (F0 m (pc + 2) ls (.ref q :: rest))) : W p l e R s m args below meth c H locs cells slots Q (F0 m pc ls (.int n :: rest)) := by
  subst hn
  refine va_newa hx hb (atype := .long) (hts _ harr) (ty := .long) rfl hK hP hD hS hA (a0 := (N, .inr (.inl (fun _ => 0)))) (fun cA => rfl) (nI_pos (by omega)) (nI_clamp (by omega)) (by show N * 8 ≤ _; omega) hcells hslots hdg (fun q cA' H1 h1 h2 h3 h4 => ?_)
  have e1 : cA' = cA := Option.some.inj ((show s.vm.findClass _ = some cA' from (h1.2 tys.length (cA', .long) (by simp)).2).symm.trans (hK.2 t0 _ ht).2)
  subst e1
  exact kk q _ H1 h2 h3 h4 znew_app (fun b f h => znew_ne h3 h) (zin_A h3 (znew_app (ws := ws)).1)
theorem zany (hK : va_K D vwCl tys s) (hP : va_P D vwCl ws H) (hc : va_Nw (.castable "LoanRounds$Task" "java/lang/Object") s) {y : Nat} {vs : List Value} (hz : zin ws y (.inr (2, vs))) : va_Any "java/lang/Object" s H y := by
  refine va_rAny (q0 := 0) (ci := 2) (r := (R_T, F_T, 12)) hK (z_P hP hz) rfl rfl (fun comp c0 h1 h2 => ?_)
  obtain ⟨c3, c4, g1, g2, g3⟩ := Cond.castable_spec hc
  cases Option.some.inj (g1.symm.trans h2)
  cases Option.some.inj (g2.symm.trans h1)
  exact g3
theorem z_aastM (hx : p.tables.exec = Jvm.exec) (hb : c.code = cc) (hK : va_K D vwCl tys s) (hP : va_P D vwCl ws H) (hD : va_D A ws) (hS : va_S A H0 H locs) (hc : va_Nw (.castable "LoanRounds$Task" "java/lang/Object") s) (t0 : Nat) {cA : ClassId} {n v : Nat} {vs : List Value} {f : Nat → Option Nat} (hz : zin ws a (.inl (cA, n, .inr (.inr (.inr (.inr f)))))) (ht : tys[t0]? = some (cA, .object "java/lang/Object")) (hv : zin ws v (.inr (2, vs))) {i : Int32} (j : Nat) (hj : i = nI j) (hn : j < n) (hN : n < 2 ^ 31) (hdg : decode cc pc = .ok (.aastore, 1))
    (kk : ∀ (ws' : va_W) (H1 : Heap) (locs1 : List Loc), va_P D vwCl ws' H1 → va_D A ws' → va_S A H0 H1 locs1 → zupd ws a (.inl (cA, n, .inr (.inr (.inr (.inr (va_up f j (some v))))))) ws' → W p l e R s m args below meth c H1 locs1 cells slots Q (F0 m (pc + 1) ls rest)) : W p l e R s m args below meth c H locs cells slots Q (F0 m pc ls (.ref v :: .int i :: .ref a :: rest)) := by
  subst hj
  have hy := zany hK hP hc hv
  obtain ⟨q0, he⟩ := hz
  refine va_astqM hx hb hK hP hD hS q0 t0 he ht hy (vp_in_nI hn hN) hdg (fun H1 locs1 h1 h2 h3 => ?_)
  rw [nI_clamp (by omega)] at h1 h2
  exact kk _ H1 locs1 h1 h2 h3 (zupd_set he)
theorem z_copy (hx : p.tables.exec = Jvm.exec) (hb : c.code = cc) (hml : c.maxLocals = ls.size) {own : String} {index : Nat} (hts : ∀ w ∈ TT, w.before args s = true) (hown : s.vm.findClass own = some m.cls) (hlink : Cond.methodLink own index arraycopyName ∈ TT) (hnat : Cond.native arraycopyName ∈ TT) (hstat : Cond.static arraycopyName ∈ TT) (hini : Cond.initialized "java/lang/System" ∈ TT)
    (hK : va_K D vwCl tys s) (hP : va_P D vwCl ws H) (hD : va_D A ws) (hS : va_S A H0 H locs) (hc : va_Nw (.castable "LoanRounds$Task" "java/lang/Object") s) (t0 : Nat) {a0 : Nat} {cA : ClassId} {n0 n1 : Nat} {f g : Nat → Option Nat} (ht : tys[t0]? = some (cA, .object "java/lang/Object")) (hz0 : zin ws a0 (.inl (cA, n0, .inr (.inr (.inr (.inr f)))))) (hz1 : zin ws a (.inl (cA, n1, .inr (.inr (.inr (.inr g))))))
    {n : Int32} (hn : n = nI n0) (hle : n0 ≤ n1) (hN : n1 < 2 ^ 31) (hel : ∀ i, i < n0 → ∀ y, f i = some y → ∃ vs, zin ws y (.inr (2, vs))) (hframes : 1 ≤ R.frames) (hlocals : (rest.map fun v => v.category).sum + (nativeFrameWords "java/lang/System" "arraycopy" 5 + 11) ≤ R.locals) (hdg : decode cc pc = .ok (.invokestatic index, 3))
    (kk : ∀ (ws' : va_W) (H1 : Heap) (locs1 : List Loc), va_P D vwCl ws' H1 → va_D A ws' → va_S A H0 H1 locs1 → zupd ws a (.inl (cA, n1, .inr (.inr (.inr (.inr (va_cpy f g 0 0 n0)))))) ws' → W p l e R s m args below meth c H1 locs1 cells slots Q (F0 m (pc + 3) ls rest)) :
    W p l e R s m args below meth c H locs cells slots Q (F0 m pc ls (.int n :: .int 0 :: .ref a :: .int 0 :: .ref a0 :: rest)) := by
  subst hn
  obtain ⟨q0, he0⟩ := hz0
  obtain ⟨q1, he1⟩ := hz1
  have en : (nI n0).toNatClampNeg = n0 := nI_clamp (by omega)
  have e0 : (0 : Int32).toNatClampNeg = 0 := rfl
  refine va_copyM hx hb hml hown (hts _ hlink) (hts _ hnat) (hts _ hstat) (hts _ hini) hK hP hD hS q0 q1 t0 t0 (E1 := "java/lang/Object") he0 he1 ht ht (by decide) (by decide) (nI_pos (by omega)) (by rw [e0, en]; omega) (by rw [e0, en]; omega) (fun i hi y hy => ?_) hframes hlocals hdg (fun H1 locs1 h1 h2 h3 => ?_)
  · rw [en] at hi
    rw [e0, Nat.zero_add] at hy
    obtain ⟨vs, hv⟩ := hel i hi y hy
    exact zany hK hP hc hv
  · rw [e0, en] at h1 h2
    exact kk _ H1 locs1 h1 h2 h3 (zupd_set he1)
end ZAA
