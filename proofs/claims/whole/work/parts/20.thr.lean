def zW (w : Cond) (B : Nat) (V : Vm) (H : Heap) : Prop := ∀ (args : Array Value) (U : State), V.Alike U.vm → (∀ a, a < B → U.heap[a]? = H[a]?) → w.before args U = true
theorem zW_tr {w : Cond} {B : Nat} {V V' : Vm} {H H' : Heap} (h : zW w B V H) (hv : V.Alike V') (hh : ∀ a, a < B → H'[a]? = H[a]?) : zW w B V' H' := fun args U h1 h2 => h args U (hv.trans h1) (fun a ha => (h2 a ha).trans (hh a ha))
theorem zW_lays {s : State} {args : Array Value} {C n d : String} (h : (Cond.laysStatic C n d).before args s = true) : zW (.laysStatic C n d) s.heap.size s.vm s.heap := by
  obtain ⟨c, k, i, f, a, cell, h1, h2, h3, h4, h5, h6, h7, h8, h9⟩ := Cond.laysStatic_spec h
  intro args' U hvm hh
  obtain ⟨k', hi', he⟩ := State.fieldFound?_setVm hvm h2
  have hlt := (Array.getElem?_eq_some_iff.mp h5).1
  show (Cond.laysStatic C n d).holds args' U none U [] = true
  exact Cond.laysStatic_of (by rw [hvm.findClass]; exact h1) hi' h3 (by rw [he]; exact h4) (by rw [hh a hlt]; exact h5) h6 h7 h8 (by rw [he]; exact h9)
theorem zW_ref {s : State} {args : Array Value} {C n d : String} (hl : (Cond.laysStatic C n d).before args s = true) (h : (Cond.isRef (.static C n d)).before args s = true) : zW (.isRef (.static C n d)) s.heap.size s.vm s.heap := by
  obtain ⟨c, k, i, f, a, cell, h1, h2, h3, h4, h5, h6, h7, h8, h9⟩ := Cond.laysStatic_spec hl
  have hlt := (Array.getElem?_eq_some_iff.mp h5).1
  cases hv : (Term.static C n d).eval args s none [] s with
  | none => simp [Cond.before, Cond.holds, Cond.value, hv] at h
  | some v =>
    obtain ⟨-, a', cell', ha', hcell', -, hslot⟩ := Term.static_spec h2 hv
    cases h4.symm.trans ha'
    cases h5.symm.trans hcell'
    have hr : v.isRef = true := by
      simp only [Cond.before, Cond.holds, Cond.value, hv] at h
      revert h
      cases v <;> simp [Value.isRef]
    intro args' U hvm hh
    obtain ⟨k', hi', he⟩ := State.fieldFound?_setVm hvm h2
    have ha2 : k'.statics = some a := by rw [he]; exact h4
    have hc2 : U.heap[a]? = some cell := by rw [hh a hlt]; exact h5
    have hi2 : U.fieldFound? C n d = some (c, k', i, f) := hi'
    have ev : (Term.static C n d).eval args' U none [] U = some v := by
      simp [Term.eval, State.fieldNamed?, hi2, h3, ha2, hc2, h6, hslot]
    simp only [Cond.before, Cond.holds, Cond.value, ev]
    revert hr
    cases v <;> simp [Value.isRef]
theorem zW_cast {s : State} {args : Array Value} {C T : String} {B : Nat} {H : Heap} (h : (Cond.castable C T).before args s = true) : zW (.castable C T) B s.vm H := fun args' U hvm _ => va_tabs (A := args) rfl (rfl : (s.setVm U.vm).vm = U.vm) (by rw [Cond.castable_setVm hvm]; exact h)
theorem zW_decl {s : State} {args : Array Value} {x : MethodName} {B : Nat} {H : Heap} (h : (Cond.declares x).before args s = true) : zW (.declares x) B s.vm H := fun args' U hvm _ => va_tabs (A := args) rfl (rfl : (s.setVm U.vm).vm = U.vm) (by rw [Cond.declares_setVm hvm]; exact h)
def zTW : List Cond := [.laysStatic Bundle.tN "UNASSIGNED_STACK" Bundle.steD, .laysStatic Bundle.tN "SUPPRESSED_SENTINEL" Bundle.listD, .isRef (.static Bundle.tN "UNASSIGNED_STACK" Bundle.steD), .isRef (.static Bundle.tN "SUPPRESSED_SENTINEL" Bundle.listD),
  .castable "java/lang/IllegalArgumentException" "java/lang/IllegalArgumentException", .castable "java/lang/IllegalStateException" "java/lang/IllegalStateException", .castable "java/util/NoSuchElementException" "java/util/NoSuchElementException",
  .declares (Bundle.initS "java/lang/RuntimeException"), .declares (Bundle.initS "java/lang/Exception"), .declares (Bundle.initS Bundle.tN)]
def zXn : List String := ["java/lang/RuntimeException", "java/lang/Exception"]
def zRX : String := "java/lang/RuntimeException"
def zOw (own : String) (ic : Nat) (X : String) (idx : Nat) (bb : ByteArray) : List Cond :=
  (Bundle.throwableAtoms ++ Bundle.throwableSAtoms) ++ (Bundle.passSAtoms X zRX idx bb ++ Bundle.chainSAtoms zRX ["java/lang/Exception"]) ++
  [.methodLink own ic (Bundle.initS X), .instantiable X 6, .selects X Bundle.tFill0 Bundle.tFill0, .selects X Bundle.tFill Bundle.tFill,
   .lays X Bundle.tN "cause" "Ljava/lang/Throwable;", .lays X Bundle.tN "stackTrace" Bundle.steD, .lays X Bundle.tN "suppressedExceptions" Bundle.listD, .lays X Bundle.tN "detailMessage" "Ljava/lang/String;",
   .isRef (.static Bundle.tN "UNASSIGNED_STACK" Bundle.steD), .isRef (.static Bundle.tN "SUPPRESSED_SENTINEL" Bundle.listD),
   .fieldLink Bundle.tN 198 Bundle.tN "backtrace" "Ljava/lang/Object;", .lays Bundle.tN Bundle.tN "backtrace" "Ljava/lang/Object;", .lays X Bundle.tN "backtrace" "Ljava/lang/Object;"]
def b13 : ByteArray := ⟨#[0x2a, 0x2b, 0xb7, 0x00, 0x0d, 0xb1]⟩
theorem b13_0 : decode b13 0 = .ok (.aload_n 0, 1) := by decide +kernel
theorem b13_1 : decode b13 1 = .ok (.aload_n 1, 1) := by decide +kernel
theorem b13_2 : decode b13 2 = .ok (.invokespecial 13, 3) := by decide +kernel
theorem b13_5 : decode b13 5 = .ok (.return_, 1) := by decide +kernel
set_option maxRecDepth 100000 in
theorem ow_IAE : ∀ w ∈ zOw "LoanRounds" 49 "java/lang/IllegalArgumentException" 7 Bundle.six, w ∈ lw_tbl.filter goodWord ∨ w ∈ zTW := by decide +kernel
set_option maxRecDepth 100000 in
theorem ow_ISE : ∀ w ∈ zOw "LoanRounds" 73 "java/lang/IllegalStateException" 7 Bundle.six, w ∈ lw_tbl.filter goodWord ∨ w ∈ zTW := by decide +kernel
set_option maxRecDepth 100000 in
theorem ow_NSE : ∀ w ∈ zOw "LoanRounds" 119 "java/util/NoSuchElementException" 13 b13, w ∈ lw_tbl.filter goodWord ∨ w ∈ zTW := by decide +kernel
def zT (B : Nat) (V : Vm) (H : Heap) : Prop := ∀ w ∈ zTW, zW w B V H
def strL : List (Nat × String) := [(47, "no such queue, rank or delay"), (56, "no such group"), (71, "no room for one more task"), (87, "no such queue or worker"), (117, "nothing is lent with this token"), (133, "no such how"), (138, "no such number of ticks"), (165, "no such task"), (182, "no such what")]
def zSt (U : State) : Prop := ∀ q ∈ strL, ∃ sa, vk_R "LoanRounds" q.1 q.2 sa U
def zPx (av : List Value) (H : Heap) (D : va_G) (cl : List vw_C) (tys : List (ClassId × FieldType)) (B : Nat) : Array Value → State → Prop := va_Pc av (fun U => (U.heap = H ∧ ZK D cl tys U) ∧ zT B U.vm H ∧ zSt U)
def zMT (l : Launch) (y : MethodName) (ws : List Cond) (rm : Room) (Pc : Array Value → State → Prop) (E : String) (mc ms : Nat) : Prop :=
  MetFree l y (headSpec ws rm) Pc (fun _ _ _ _ _ => True) (fun _ st o t => ∃ (q : Addr) (ce : Cell), o = .threw q ∧ t.heap[q]? = some ce ∧ ce.vm = .none ∧ st.vm.findClass E = some ce.cls ∧ st.WarmedH t.vm ∧ st.sameButNew ({ t with vm := st.vm } : State) [] mc ms)
def zTM (below : List Frame) (E : String) (s : State) (mc ms : Nat) : State → Prop := fun t =>
  ∃ (q : Addr) (ce : Cell), t.status = .running ∧ Ended t below (.threw q) ∧ t.heap[q]? = some ce ∧ ce.vm = .none ∧ s.vm.findClass E = some ce.cls ∧ s.WarmedH t.vm ∧ s.sameButNew ({ t with vm := s.vm } : State) [] mc ms
theorem z_bodyT {l : Launch} {y : MethodName} {cc : ByteArray} {maxL : Nat} {ret : Option FieldType} {rm : Room} {av : List Value} {H : Heap} {D : va_G} {cl : List vw_C} {tys : List (ClassId × FieldType)} {B mc ms : Nat} {E : String}
    (hy : plainName y.cls = true) (hn : (lg_sl av).length ≤ maxL)
    (body : ∀ (p : Program) (e : Env) (s : State) (m : MethodId) (below : List Frame) (meth : Method) (c : Code) (ls : Array Slot), ZX p s m av.toArray meth c y.cls cc maxL ret → c.exceptionTable.toList = [] → s.heap = H → ZK D cl tys s → zT B s.vm H → zSt s → lv_has ls maxL (lv_args 0 av) →
      W p l e rm s m av.toArray below meth c s.heap [] 0 0 (zTM below E s mc ms) (F0 m 0 ls [])) :
    zMT l y (Cond.code y cc maxL ret :: TT) rm (zPx av H D cl tys B) E mc ms := by
  refine MetFree.of_bodyS (code := cc) (maxLocals := maxL) (ret := ret) hy ?_ ?_
  · intro args s m h hn
    obtain ⟨meth, c, h1, h2, h3, h4, h5, h6, -, -⟩ := Cond.code_spec hn (atoms_spec (ws := Cond.code y cc maxL ret :: TT) h _ List.mem_cons_self)
    exact ⟨meth, c, h1, h2, h3, h4, h5, h6⟩
  · intro p e s m args below meth c s₁ B hml hP _
    obtain ⟨rfl, ⟨hH, hK⟩, hT, hSt⟩ := hP
    have hts := atoms_spec (ws := Cond.code y cc maxL ret :: TT) B.pre
    have htab : c.exceptionTable.toList = [] := by
      obtain ⟨meth9, c9, h1, h2, -, -, -, -, h7, -⟩ := Cond.code_spec B.named (hts _ List.mem_cons_self)
      cases Option.some.inj (h1.symm.trans B.method)
      cases Option.some.inj (h2.symm.trans (Stand.of_body B).code)
      rw [Array.isEmpty_iff.mp h7]
    have hl := lv_entry av (n := maxL) hn
    have hh0 : s₁.heap = s.heap := by rw [B.state]; rfl
    have hw := body p e s m below meth c _ ⟨B.exec, B.bytes, B.returns, fun w h => hts w (List.mem_cons_of_mem _ h), findClass_of_methodNamed B.named, B.notSynchronized, hml⟩ htab hH hK hT hSt hl
    rw [← lg_entry_eq] at hw
    obtain ⟨t, a1, q, ce, b1, b2, b3⟩ := hw s₁ hh0 (Stand.of_body B)
    exact ⟨t, .threw q, a1, b1, b2, q, ce, rfl, b3⟩
set_option maxHeartbeats 1000000 in
theorem z_ctorT {p : Program} {l : Launch} {e : Env} {R : Room} {s : State} {m : MethodId} {args : Array Value} {below : List Frame} {meth : Method} {c : Code} {W : State} {cells slots : Nat} (X : Stand p l e R s m args below meth c W [] cells slots) (hx : p.tables.exec = Jvm.exec) (htr : e.platform.stackTraces = false) {own E : String} {ic idx : Nat} {bb : ByteArray}
    (hown : s.vm.findClass own = some m.cls) (hE : Bundle.fit E = true) (b0 : decode bb 0 = .ok (.aload_n 0, 1)) (b1 : decode bb 1 = .ok (.aload_n 1, 1)) (b2 : decode bb 2 = .ok (.invokespecial idx, 3)) (b5 : decode bb 5 = .ok (.return_, 1))
    (h : ∀ w ∈ zOw own ic E idx bb, w.before args s = true) {a : Addr} {cX : ClassId} {kX : Class} (hfX : s.vm.findClass E = some cX) (hkX : s.vm.classes[cX]? = some kX) (hcell : W.heap[a]? = some (freshCell cX kX)) (hnew : s.heap.size ≤ a)
    {msg : Value} (hmsg : msg.isRef = true) {g : JFrame} (hg : g.method = m) (hsize : g.locals.size = c.maxLocals) (hlk : g.locked = none) (hen : g.entered = []) {rest : List Value} (hst : g.stack = msg :: .ref a :: .ref a :: rest)
    (d6 : decode c.code g.pc = .ok (.invokespecial ic, 3)) (d9 : decode c.code (g.pc + 3) = .ok (.athrow, 1)) (hout : ∀ x ∈ c.exceptionTable.toList, covers x (g.pc + 3) = false) (hRf : 5 < R.frames) (hRl : 2 * g.monitorRoom + ((Value.ref a :: rest).map fun v => v.category).sum + 81 ≤ R.locals) (hlocks : meth.locks = false) :
    ∃ U : State, Steps p.tables e below (W.setTop g) U ∧ U.status = .running ∧ Ended U below (.threw a) ∧ s.WarmedH U.vm ∧ s.sameButNew ({ U with vm := s.vm } : State) [] cells slots ∧ ∃ ce, U.heap[a]? = some ce ∧ s.vm.findClass E = some ce.cls ∧ ce.vm = .none := by
  have hpl : e.platform.magicAccessors = ({} : Platform).magicAccessors := by rw [X.admits.platform]
  have wd : ∀ w, w ∈ zOw own ic E idx bb → w.holds args s none s [] = true := fun w hw => h w hw
  obtain ⟨T, Z0, L, -, Y⟩ := ThrowableC.of_atoms (args := args) (show e.platform.frameOwnsMonitors = true by rw [X.admits.platform]) (show e.platform.finalization = false by rw [X.admits.platform]) hpl (fun x hx => h x (by simp [zOw, hx]))
  obtain ⟨Z, M, LZ, LM, hnZ⟩ := Init0T.ofS_atoms (args := args) hpl L Y (fun x hx => h x (by simp [zOw, hx]))
  obtain ⟨P1, L1, hP1m, hsup⟩ := PassC.ofS_atoms (args := args) (s := s) hpl (X := E) (Y := zRX) (Bundle.fit_spec hE).1 (by decide) b0 b1 b2 b5 (fun x hx => h x (by simp only [zOw, List.mem_append]; exact Or.inl (Or.inr (Or.inl hx))))
  obtain ⟨P2, Ps, hlen, L2, hL, hP2m, hl2, hlk2⟩ := Bundle.chainS (args := args) hpl hnZ ["java/lang/Exception"] zRX (by decide) (by decide) (fun x hx => h x (by simp only [zOw, List.mem_append]; exact Or.inl (Or.inr (Or.inr hx))))
  have hfd : s.vm.findClass E = some P1.m.cls := findClass_of_methodNamed hP1m
  cases Option.some.inj (hfX.symm.trans hfd)
  obtain ⟨c1, k1, hc1, hk, hord, -, -, -⟩ := Cond.instantiable_spec (wd (.instantiable E 6) (by simp [zOw]))
  cases Option.some.inj (hc1.symm.trans hfd)
  cases Option.some.inj (hkX.symm.trans hk)
  have sel : ∀ (nm : MethodName) (mi : MethodId), Cond.selects E nm nm ∈ zOw own ic E idx bb → s.methodNamed? nm = some mi → nm.name ≠ "<init>" ∧ nm.name ≠ "<clinit>" → s.methodFound? nm.cls nm.name nm.desc = some mi → selectMethod e.platform s.vm P1.m.cls mi = .method mi := by
    intro nm mi hm hn _ hf
    obtain ⟨c2, r2, m2, q1, q2, q3, q4, -⟩ := Cond.selects_spec (wd _ hm)
    cases Option.some.inj (q1.symm.trans hfd)
    have q5 := Option.some.inj (q2.symm.trans hf)
    have q6 := Option.some.inj (q3.symm.trans hn)
    rw [q5, q6] at q4
    rw [Launch.admits_selectMethod X.admits]; exact q4
  have s0 := sel Bundle.tFill0 T.fill0 (by simp [zOw]) Y.fill0 (by decide) (State.methodFound?_of_named Y.fill0 (by decide))
  have sF := sel Bundle.tFill T.fill (by simp [zOw]) Y.fill (by decide) (State.methodFound?_of_named Y.fill (by decide))
  obtain ⟨cS0, hcS0, hiss⟩ := Y.statics
  obtain ⟨u0, hu0⟩ := Cond.staticRefV Y.unassigned L.unassignedStatic L.statics hcS0 hiss (wd (.isRef (.static Bundle.tN "UNASSIGNED_STACK" Bundle.steD)) (by simp [zOw]))
  obtain ⟨sen, hsen⟩ := Cond.staticRefV Y.sentinel L.sentinelStatic L.statics hcS0 hiss (wd (.isRef (.static Bundle.tN "SUPPRESSED_SENTINEL" Bundle.listD)) (by simp [zOw]))
  obtain ⟨ciB, iB, fB, kB1, kB2, kB3, kB4, -, nB, tB, ffB⟩ := Cond.ownField (t := .object "java/lang/Object") Y.found L.cls (by decide +kernel) (wd (.fieldLink Bundle.tN 198 Bundle.tN "backtrace" "Ljava/lang/Object;") (by simp [zOw])) (wd (.lays Bundle.tN Bundle.tN "backtrace" "Ljava/lang/Object;") (by simp [zOw])) e.platform hpl
  obtain ⟨cS, hcS, heS, -, hkeep⟩ := X.same.2.2.2.2.2 T.aS cS0 hcS0
  have hknS : cS.vm ≠ .unknown := by
    rw [heS]; intro hu
    rw [show cS0.vm = .unknown from hu] at hiss
    cases hiss
  have hneS : T.aS ≠ a := Nat.ne_of_lt (Nat.lt_of_lt_of_le (Array.getElem?_eq_some_iff.mp hcS0).1 hnew)
  obtain ⟨iM, ffM⟩ := Y.msg
  obtain ⟨tyC, dC, hdC, hnC⟩ := Cond.laysAt hfd hk Y.cause (wd (.lays E Bundle.tN "cause" "Ljava/lang/Throwable;") (by simp [zOw]))
  obtain ⟨tyS, dS, hdS, hnS⟩ := Cond.laysAt hfd hk Y.stack (wd (.lays E Bundle.tN "stackTrace" Bundle.steD) (by simp [zOw]))
  obtain ⟨tyP, dP, hdP, hnP⟩ := Cond.laysAt hfd hk Y.supp (wd (.lays E Bundle.tN "suppressedExceptions" Bundle.listD) (by simp [zOw]))
  obtain ⟨tyM, -, -, -⟩ := Cond.laysAt hfd hk ffM (wd (.lays E Bundle.tN "detailMessage" "Ljava/lang/String;") (by simp [zOw]))
  obtain ⟨tyB, dB, hdB, hnB⟩ := Cond.laysAt hfd hk ffB (wd (.lays E Bundle.tN "backtrace" "Ljava/lang/Object;") (by simp [zOw]))
  have x1 := Cond.laysApart hdB hdC hnB hnC (by rw [nB, Y.causeName]; decide)
  have x2 := Cond.laysApart hdB hdS hnB hnS (by rw [nB, Y.stackName]; decide)
  have x3 := Cond.laysApart hdB hdP hnB hnP (by rw [nB, Y.suppName]; decide)
  have hskip : SkipFacts T e.platform s (fun u => u) u0 ((preparedCellV T.toThrowableT (freshCell P1.m.cls kX) a u0 sen).withEntry W.cur) :=
    ⟨{ ci198 := ciB, i198 := iB, fBack := fB }, ⟨kB1, kB2, kB3, kB4⟩, by
      have fd := fresh_default (c := P1.m.cls) tyB
      rw [tB] at fd
      simpa [preparedCellV, Cell.setSlot, Cell.withEntry, Array.getElem?_setIfInBounds, x1, x2, x3, x1.symm, x2.symm, x3.symm, defaultValue] using fd, fun _ _ => rfl⟩
  obtain ⟨tm, -, -, -, vm₁, hn1, -, -, -, -, -, -, -, hW₁, st1⟩ := Steps.initColdS (tb := p.tables) (e := e) (below := below) (s := s) (U := W) X.here hx X.warmed hpl hown (t := Bundle.initS E) rfl rfl (Bundle.fit_spec hE).2
    (wd (.methodLink own ic (Bundle.initS E)) (by simp [zOw])) (h (.instanceMethod (Bundle.initS E)) (by simp [zOw, Bundle.passSAtoms])) (bytes := bb) (maxL := 2) (h (.code (Bundle.initS E) bb 2 none) (by simp [zOw, Bundle.passSAtoms]))
    (f := g) hg (a := a) (msg := msg) (rest := .ref a :: rest) hst d6
  cases Option.some.inj (hn1.symm.trans hP1m)
  have X₁ := X.noted hW₁
  have hl3 : (P2 :: Ps).length = 2 := by simp [hlen]
  obtain ⟨vm₂, X₂, st2⟩ := X₁.ctorMessageOffV hx (g := { g with stack := .ref a :: rest }) hg hsize T L Z LZ M LM (P1 :: P2 :: Ps)
    (fun P hP => by
      rcases List.mem_cons.mp hP with rfl | hP
      · exact L1
      rcases List.mem_cons.mp hP with rfl | hP
      · exact L2
      exact hL P hP) ⟨Option.some.inj (hsup.symm.trans hP2m), hl2, hlk2⟩ (u0 := u0) (sen := sen) (self := a) hmsg (cell := freshCell P1.m.cls kX) (cellS := cS)
    hcell (fun _ => by simp) (by simp) rfl rfl s0 sF hcS hneS hknS (by rw [hkeep _ (fun hm => nomatch hm)]; exact hu0) (by rw [hkeep _ (fun hm => nomatch hm)]; exact hsen)
    (Takes.of_laid hk hord tyC (by rw [Y.causeType]; rfl)) (Takes.of_laid hk hord tyS (by rw [Y.stackType]; exact fits_refV_array _ u0)) (Takes.of_laid hk hord tyP (by rw [Y.suppType]; exact fits_refV_object _ sen))
    (Takes.of_laid hk hord tyM (by rw [Y.msgType]; exact fits_refV_object _ ⟨msg, hmsg⟩)) Y.objLocals hskip htr [] d6
    (by rw [List.length_cons, hl3]; omega) (by rw [List.length_cons, hl3]; exact hRl)
  obtain ⟨hwalk, hrun, hended, hWU, hsame⟩ := X₂.athrowLeaves hx (g := { g with stack := .ref a :: rest, pc := g.pc + 3 }) hg hlk hen hout (a := a) (rest := rest) rfl d9
  have hlt : a < ((W.setVm vm₁).setVm vm₂).heap.size := (Array.getElem?_eq_some_iff.mp hcell).1
  have hU := heapAt_setCell_self (s := (W.setVm vm₁).setVm vm₂) (plainBareV T.toThrowableT (freshCell P1.m.cls kX) a u0 sen msg) hlt
  refine ⟨_, st1 _ (fun acts => ?_), hrun, hended, hWU, hsame.weaken (fun y hy hlt' => ?_) (Nat.le_refl _) (Nat.le_refl _), _, hU, hfd, rfl⟩
  · rw [doInvoke_state]
    exact st2 _ hwalk
  · have hb : y.base = a := by
      simp only [List.nil_append, List.mem_cons, List.not_mem_nil, or_false] at hy
      rcases hy with rfl | rfl | rfl | rfl | rfl <;> rfl
    rw [hb] at hlt'
    exact absurd hlt' (Nat.not_lt.mpr hnew)
section ZTH
variable {p : Program} {l : Launch} {e : Env} {R : Room} {s : State} {m : MethodId} {args : Array Value} {below : List Frame} {meth : Method} {c : Code} {H : Heap} {locs : List Loc} {cells slots : Nat} {Q : State → Prop}
variable {cc : ByteArray} {pc : Nat} {ls : Array Slot} {rest st0 : List Value} {D : va_G} {cl : List vw_C} {A : Nat → Prop} {a : Nat} {tys : List (ClassId × FieldType)} {ws : va_W} {H0 : Heap}
theorem z_calliK {v : Int32} {av : Array Value} (hr : va_Run p l e R s m args below meth c H locs cells slots 0 0 (F0 m pc ls st0) rest (zQi v H av) (fun _ => False))
    (kk : W p l e R s m args below meth c H locs cells slots Q (F0 m (pc + 3) ls (.int v :: rest))) : W p l e R s m args below meth c H locs cells slots Q (F0 m pc ls st0) := by
  intro T hT X
  obtain ⟨v', st₀, t, T', L, h0, X', hL, e1, e2, ⟨⟨r, u, hv, hp, hb⟩, hF⟩, st⟩ := hr T hT X
  cases hv
  have e3 : r = v := hp
  subst e3
  obtain ⟨t2, a1, b1⟩ := kk T' (by rw [e1]; exact hb) (Stand.forget X' (fun q h => (hL q h).elim))
  exact ⟨t2, st t2 a1, b1⟩
theorem z_callqK {v : Option Nat} {av : Array Value} (hr : va_Run p l e R s m args below meth c H locs cells slots 0 0 (F0 m pc ls st0) rest (zQq v H av) (fun _ => False))
    (kk : W p l e R s m args below meth c H locs cells slots Q (F0 m (pc + 3) ls (va_rf v :: rest))) : W p l e R s m args below meth c H locs cells slots Q (F0 m pc ls st0) := by
  intro T hT X
  obtain ⟨v', st₀, t, T', L, h0, X', hL, e1, e2, ⟨⟨r, u, hv, hp, hb⟩, hF⟩, st⟩ := hr T hT X
  cases hv
  have e3 : r = v := hp
  subst e3
  obtain ⟨t2, a1, b1⟩ := kk T' (by rw [e1]; exact hb) (Stand.forget X' (fun q h => (hL q h).elim))
  exact ⟨t2, st t2 a1, b1⟩
theorem zx_throw (hx : p.tables.exec = Jvm.exec) (hb : c.code = cc) (hl : l.stackTraces = false) {own E text : String} {ik is ic mc ms B idx : Nat} {bb : ByteArray} (b0 : decode bb 0 = .ok (.aload_n 0, 1)) (b1 : decode bb 1 = .ok (.aload_n 1, 1)) (b2 : decode bb 2 = .ok (.invokespecial idx, 3)) (b5 : decode bb 5 = .ok (.return_, 1)) (hts : ∀ w ∈ TT, w.before args s = true) (hown : s.vm.findClass own = some m.cls) (hE : Bundle.fit E = true) (hk : Cond.classLink own ik E ∈ TT) (hini : Cond.initialized E ∈ TT)
    (hOW : ∀ w ∈ zOw own ic E idx bb, w ∈ lw_tbl.filter goodWord ∨ w ∈ zTW) (hT : zT B s.vm s.heap) (hstr : ∃ sa, vk_R own is text sa s) (hsize : ls.size = c.maxLocals)
    (d0 : decode cc pc = .ok (.new ik, 3)) (d3 : decode cc (pc + 3) = .ok (.dup, 1)) (d4 : decode cc (pc + 4) = .ok (.ldc is, 2)) (d6 : decode cc (pc + 6) = .ok (.invokespecial ic, 3)) (d9 : decode cc (pc + 9) = .ok (.athrow, 1)) (htab : c.exceptionTable.toList = [])
    (hRf : 5 < R.frames) (hRl : (rest.map fun v => v.category).sum + 90 ≤ R.locals) (hRc : 1 ≤ R.cells) (hRs : 6 ≤ R.slots) (hlocks : meth.locks = false) (hc : 1 ≤ mc) (hs : 6 ≤ ms) :
    W p l e R s m args below meth c s.heap [] 0 0 (zTM below E s mc ms) (F0 m pc ls rest) := by
  intro T hTh X
  have htr : e.platform.stackTraces = false := (show e.platform.stackTraces = l.stackTraces by rw [X.admits.platform]).trans hl
  have hw : ∀ w ∈ zOw own ic E idx bb, w.before args s = true := fun w hm => (hOW w hm).elim (fun h => hts w h) (fun h => hT w h args s (Vm.Alike.refl _) (fun _ _ => rfl))
  have hins : (Cond.instantiable E 6).before args s = true := hw _ (by simp [zOw])
  obtain ⟨sa, hsa⟩ := hstr
  obtain ⟨vm₁, cX, kX, hfX, hkX, -, -, X₁, st1⟩ := X.newCold hx (own := own) (C := E) (index := ik) (n := 6) hown (hts _ hk) hins (hts _ hini) (g := F0 m pc ls rest) rfl (by rw [hb]; exact d0) (by omega) (by omega)
  obtain ⟨T1, hT1⟩ : ∃ z, z = (T.setVm vm₁).pushCell { cls := cX, slots := kX.instanceTypes.map defaultValue, vm := .none } := ⟨_, rfl⟩
  rw [← hT1] at X₁ st1
  have hcellA : T1.heap[T.heap.size]? = some (freshCell cX kX) := by rw [hT1]; exact State.heap_pushCell_size _ _
  have hcat : (Value.ref T.heap.size).category = 1 := rfl
  have d3' : decode c.code (pc + 3) = .ok (.dup, 1) := by rw [hb]; exact d3
  obtain ⟨U, hsteps, hrun, hend, hW, hsame, ce, hce, hO1, hO2⟩ := z_ctorT X₁ hx htr (own := own) (E := E) (ic := ic) hown hE b0 b1 b2 b5 hw hfX hkX hcellA (by rw [hTh]; exact Nat.le_refl _) (msg := .ref sa) rfl
    (g := { method := m, pc := pc + 6, locals := ls, stack := .ref sa :: .ref T.heap.size :: .ref T.heap.size :: rest, locked := none }) rfl hsize rfl rfl (rest := rest) rfl (by rw [hb]; exact d6) (by rw [hb]; exact d9) (by rw [htab]; exact fun x hx => nomatch hx) hRf
    (by
      have h8 : (JFrame.monitorRoom { method := m, pc := pc + 6, locals := ls, stack := .ref sa :: .ref T.heap.size :: .ref T.heap.size :: rest, locked := none }) = 0 := rfl
      rw [h8]
      simp only [List.map_cons, List.sum_cons, hcat]
      omega) hlocks
  refine ⟨U, ?_, T.heap.size, ce, hrun, hend, hce, hO2, hO1, hW, hsame.mono (by omega) (by omega)⟩
  refine st1 _ ?_
  show Steps p.tables e below (T1.setTop { method := m, pc := pc + 3, locals := ls, stack := .ref T.heap.size :: rest, locked := none }) _
  jvm_step X₁.here [X₁.here.top, hx, d3', Value.category]
  exact X₁.ldcString hx (own := own) (text := text) (index := is) (a := sa) hown hsa.1 hsa.2
    (g := { method := m, pc := pc + 4, locals := ls, stack := .ref T.heap.size :: .ref T.heap.size :: rest, locked := none }) rfl (by rw [hb]; exact d4) _ hsteps
end ZTH
