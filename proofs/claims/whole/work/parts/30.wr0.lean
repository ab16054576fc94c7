def zNo (U : State) : Prop := va_Nc "java/lang/IllegalStateException" "java/lang/IllegalArgumentException" U ∧ va_Nc "java/lang/IllegalArgumentException" "java/util/NoSuchElementException" U
def zB (e0 mi B : Nat) (U : State) (H : Heap) : Prop := zA e0 mi B U H ∧ (zT B U.vm H ∧ zSt U) ∧ zNo U
theorem zSt.moved {s U : State} (hW : s.WarmedH U.vm) (h : zSt s) : zSt U := fun q hq => by
  obtain ⟨sa, hs⟩ := h q hq
  exact ⟨sa, vk_R.warm hW hs⟩
theorem zSt.same {s U : State} (hv : U.vm = s.vm) (h : zSt s) : zSt U := fun q hq => by
  obtain ⟨sa, hs⟩ := h q hq
  exact ⟨sa, vk_R.same hv hs⟩
theorem zT.moved {B : Nat} {V V' : Vm} {H H' : Heap} (hv : V.Alike V') (hh : ∀ a, a < B → H'[a]? = H[a]?) (h : zT B V H) : zT B V' H' := fun w hw => zW_tr (h w hw) hv hh
theorem zB.moved {e0 mi B : Nat} {s U : State} {H : Heap} (hW : s.WarmedH U.vm) (h : zB e0 mi B s H) : zB e0 mi B U H := ⟨zA.moved hW.alike h.1, ⟨zT.moved hW.alike (fun _ _ => rfl) h.2.1.1, zSt.moved hW h.2.1.2⟩, va_Nc.moved hW.alike h.2.2.1, va_Nc.moved hW.alike h.2.2.2⟩
theorem zB.same {e0 mi B : Nat} {U : State} {H : Heap} {g : JFrame} {mk : MethodId} {a : Array Value} (h : zB e0 mi B U H) : zB e0 mi B (U.calling g mk a) H :=
  ⟨zA.moved (u := U) (U := U.calling g mk a) (Vm.Alike.refl U.vm) h.1, ⟨h.2.1.1, zSt.same (U := U.calling g mk a) rfl h.2.1.2⟩, va_Nc.moved (u := U) (U := U.calling g mk a) (Vm.Alike.refl U.vm) h.2.2.1, va_Nc.moved (u := U) (U := U.calling g mk a) (Vm.Alike.refl U.vm) h.2.2.2⟩
theorem zB.on {e0 mi B : Nat} {U : State} {H H1 : Heap} {locs : List Loc} (hB : B ≤ H.size) (h : zB e0 mi B U H) (hS : va_S (fun q => B ≤ q) H H1 locs) : zB e0 mi B U H1 := ⟨h.1.on hS, ⟨zT.moved (Vm.Alike.refl _) (fun a ha => hS.2.1 a (Nat.lt_of_lt_of_le ha hB) (Nat.not_le.mpr ha)) h.2.1.1, h.2.1.2⟩, h.2.2⟩
def zPw (av : List Value) (H : Heap) (D : va_G) (cl : List vw_C) (tys : List (ClassId × FieldType)) (e0 mi B : Nat) : Array Value → State → Prop := va_Pc av (fun U => (U.heap = H ∧ ZK D cl tys U) ∧ zB e0 mi B U H)
section ZWR
variable {p : Program} {l : Launch} {e : Env} {R : Room} {s : State} {m : MethodId} {args : Array Value} {below : List Frame} {meth : Method} {c : Code} {H : Heap} {locs : List Loc} {cells slots : Nat} {Q : State → Prop}
variable {cc : ByteArray} {pc : Nat} {ls : Array Slot} {rest st0 : List Value} {D : va_G} {cl : List vw_C} {A : Nat → Prop} {a : Nat} {tys : List (ClassId × FieldType)} {ws : va_W} {H0 : Heap} {e0 mi B : Nat}
theorem zPw_blind {av : List Value} : FrameBlind (zPw av H D cl tys e0 mi B) := fun a U g mk q => ⟨q.1, ⟨q.2.1.1, ZK.same q.2.1.2⟩, zB.same q.2.2⟩
theorem zPw_S {As : List Value} (hK : ZK D cl tys s) (hZ : zB e0 mi B s H) : PreS s H (zPw As H D cl tys e0 mi B) As := ⟨zPw_blind, fun U hU hW => ⟨rfl, ⟨hU, ZK.moved hW hK⟩, zB.moved hW hZ⟩⟩
theorem zPx_blind {av : List Value} : FrameBlind (zPx av H D cl tys B) := fun a U g mk q => ⟨q.1, ⟨q.2.1.1, ZK.same q.2.1.2⟩, q.2.2.1, zSt.same (U := U.calling g mk a) rfl q.2.2.2⟩
theorem zPx_V {As : List Value} {b ci : Nat} {q : vw_C} {fs : List Value} (hK : ZK D cl tys s) (hZ : zB e0 mi B s H) (hP : va_P D cl ws H) (hc : cl[ci]? = some q) (hz : zin ws b (.inr (ci, fs))) : PreV s H q.1 b (zPx (.ref b :: As) H D cl tys B) As :=
  ⟨zPx_blind, va_recv hK.1 (z_P hP hz) hc (q0 := 0) rfl, fun U hU hW => ⟨rfl, ⟨hU, ZK.moved hW hK⟩, zT.moved hW.alike (fun _ _ => rfl) hZ.2.1.1, zSt.moved hW hZ.2.1.2⟩⟩
theorem z_bodyW {y : MethodName} {maxL : Nat} {ret : Option FieldType} {hh : List (Nat × Nat × Nat × Nat)} {rm : Room} {av : List Value} {Qc : Array Value → State → Outcome → State → Prop} {mc ms : Nat} {free : Addr → Prop}
    (hy : plainName y.cls = true) (hn : (lg_sl av).length ≤ maxL)
    (body : ∀ (p : Program) (e : Env) (s : State) (m : MethodId) (below : List Frame) (meth : Method) (c : Code) (ls : Array Slot), ZX p s m av.toArray meth c y.cls cc maxL ret → zTab c = hh → s.heap = H → ZK D cl tys s → zB e0 mi B s H → lv_has ls maxL (lv_args 0 av) →
      W p l e rm s m av.toArray below meth c s.heap [] 0 0 (MQ below Qc av.toArray s mc ms free) (F0 m 0 ls [])) :
    Met l y (Cond.codeWith y cc maxL ret hh :: TT) rm (zPw av H D cl tys e0 mi B) Qc mc ms free := by
  refine va_MetW (cc := cc) (maxL := maxL) (ret := ret) (hh := hh) hy rfl ?_
  intro p e s m args below meth c s₁ B' hml hv
  obtain ⟨rfl, ⟨hH, hK⟩, hZ⟩ := hv
  have hts := atoms_spec (ws := Cond.codeWith y cc maxL ret hh :: TT) B'.pre
  have hl := lv_entry av (n := maxL) hn
  have htab : zTab c = hh := by
    obtain ⟨m9, meth9, c9, h0, h1, h2, -, -, h3, -⟩ := Cond.codeWith_spec (hts _ List.mem_cons_self)
    cases Option.some.inj (h0.symm.trans B'.named)
    cases Option.some.inj (h1.symm.trans B'.method)
    cases Option.some.inj (h2.symm.trans (Stand.of_body B').code)
    exact h3
  rw [lg_entry_eq]
  exact body p e s m below meth c _ ⟨B'.exec, B'.bytes, B'.returns, fun w h => hts w (List.mem_cons_of_mem _ h), findClass_of_methodNamed B'.named, B'.notSynchronized, hml⟩ htab hH hK hZ hl
theorem z_runSW {y : MethodName} {bytes : ByteArray} {maxL nL mc ms n index : Nat} {ret : Option FieldType} {hh : List (Nat × Nat × Nat × Nat)} {rm : Room} {Pc : Array Value → State → Prop} {Qc : Array Value → State → Outcome → State → Prop} {free : Addr → Prop} {own : String} {As rest : List Value} {g : JFrame}
    (S : CallFix p m c cc nL s args TT own) (hM : Met l y (Cond.codeWith y bytes maxL ret hh :: TT) rm Pc Qc mc ms free) (hrc : rm.cells = mc) (hrs : rm.slots = ms) (hR : rm.frames + 1 ≤ R.frames ∧ 8 + (maxL + 11) + rm.locals ≤ R.locals) (hcw : Cond.codeWith y bytes maxL ret hh ∈ TT) (hlk : Cond.methodLink own index y ∈ TT) (hst : Cond.static y ∈ TT) (hin : Cond.initialized y.cls ∈ TT) (hd : y.cls ≠ "java/lang/invoke/MethodHandle" ∧ y.cls ≠ "java/lang/invoke/VarHandle" ∧ (parseMethodDescriptor y.desc).map (fun d => d.parameters.length) = some n) (hp : PreS s H Pc As)
    (hg : g.method = m) (hn : As.length = n) (hsize : g.locals.size = nL) (hstack : g.stack = As.reverse ++ rest) (hW : 2 * g.monitorRoom + (rest.map fun v => v.category).sum ≤ 8) (hdg : decode cc g.pc = .ok (.invokestatic index, 3)) (hf : cells + mc ≤ R.cells ∧ slots + ms ≤ R.slots) :
    va_Run p l e R s m args below meth c H locs cells slots mc ms g rest (Qc As.toArray) (free) := by
  obtain ⟨hx, hb, hml, ho, hts⟩ := S
  have hini : (Cond.initialized y.cls).before args s = true := hts _ hin
  have hK : Back l R p e below s args y 3 8 (PreOf R mc ms Pc) (PostOf Qc mc ms free) := va_backW (hh := hh) (bytes := bytes) (maxL := maxL) (ret := ret) hM hp.1 hrc hrs hR.1 hR.2 (pay_in hts (tt_in hcw)) List.mem_cons_self (fun a' U hW => word_at hW (Or.inl (by first | rfl | simp [Cond.onTables, Cond.keeps, Cond.steady])) hini)
  intro T hT X
  obtain ⟨mk, methM, cM, hnamed, hmethM, -, -, -, -, -, -, hsigM⟩ := Cond.codeWith_spec (hts _ hcw)
  have hstatic : methM.isStatic = true := Cond.static_spec hnamed hmethM (hts _ hst)
  obtain ⟨kP, hkP, -⟩ := className_of_methodNamed hnamed
  have hinitP : kP.init = .initialized := Cond.initialized_spec (findClass_of_methodNamed hnamed) hkP hini
  have hlen : As.length = methM.sig.parameters.length := by
    have h2 := hd.2.2
    rw [hsigM] at h2
    exact hn.trans (Option.some.inj h2).symm
  obtain ⟨vm₁, X₁, hstep₁⟩ := X.invokestatic hx ho (hts _ hlk) hnamed hmethM hstatic hkP hinitP ⟨hd.1, hd.2.1⟩ (g := g) hg (argsL := As) (rest := rest) hlen hstack (by rw [hb]; exact hdg)
  obtain ⟨v, ⟨U', l2, c2, s2⟩, X', ⟨g', mk', t, L, e1, e2, hq, h1, hL, h2, h3⟩, hsteps⟩ := hK m meth c ⟨T.setVm vm₁, locs, cells, slots⟩ { g with stack := rest } (.invokestatic index) mk As.toArray X₁ hg (hsize.trans hml.symm) (by rw [hb]; exact hdg) hW (X₁.named hnamed) ⟨hf.1, hf.2, hp.2 (T.setVm vm₁) hT X₁.warmed⟩
  dsimp only [Pt.U, Pt.locs, Pt.cells, Pt.slots] at X' e1 e2 h1 h2 h3 hsteps
  subst h1; subst h2; subst h3
  exact ⟨v, (T.setVm vm₁).calling g' mk' As.toArray, t, U', L, hT, X', hL, e1, e2, hq, fun target h => hstep₁ _ fun acts => by rw [doInvoke_state]; exact hsteps.trans h⟩
end ZWR
def XS (kk : Nat → ClassId) (xa qad gad : Nat → Nat) (e0 : Nat) (qar gar : Nat → Option Nat) (time tok : Int32) (n : Nat) (f : FF) (ky : Nat → Int64) (ws : va_W) : Prop := ∃ (tad : Nat → Nat) (arr : Nat → Option Nat) (ea cap : Nat) (md : Int32) (h : FF), PX kk xa qad gad tad e0 time tok n f ky h qar gar arr ea cap md ws
theorem PX_keep {kk : Nat → ClassId} {xa qad gad tad : Nat → Nat} {e0 : Nat} {time tok : Int32} {n : Nat} {f : FF} {ky : Nat → Int64} {h : FF} {qar gar arr : Nat → Option Nat} {ea cap : Nat} {md : Int32} {ws ws' : va_W} (hX : PX kk xa qad gad tad e0 time tok n f ky h qar gar arr ea cap md ws) (u : ∀ (b : Nat) (fe : va_E), kX fe = true → zin ws b fe → zin ws' b fe) : PX kk xa qad gad tad e0 time tok n f ky h qar gar arr ea cap md ws' := by
  obtain ⟨p1, p2, p3, p4, p5, p6, p7, p8, p9⟩ := hX
  refine ⟨u _ _ rfl p1, u _ _ rfl p2, u _ _ rfl p3, u _ _ rfl p4, ?_, fun i hi => ⟨(p6 i hi).1, u _ _ rfl (p6 i hi).2⟩, fun i hi => ⟨(p7 i hi).1, u _ _ rfl (p7 i hi).2⟩, fun i hi => ⟨(p8 i hi).1, u _ _ rfl (p8 i hi).2⟩, p9⟩
  rcases p5 with z | z
  · exact Or.inl z
  · exact Or.inr ⟨u _ _ rfl z.1, z.2⟩
def zfrO (oa : Nat) (ws ws' : va_W) : Prop := ∀ (b : Nat) (fe : va_E), kX fe = false → b ≠ oa → zin ws b fe → zin ws' b fe
def WR (kk : Nat → ClassId) (oa : Nat) (XSp : va_W → Prop) (ok : Prop) (r : Int32) (ws ws' : va_W) : Prop := XSp ws' ∧ (∃ g' : Nat → Int64, zin ws' oa (.inl (kk 1, 1, .inr (.inl g'))) ∧ (ok → g' 0 = r.toInt64)) ∧ zfrO oa ws ws'
