section ZHR
variable {Q : Handler → Pre} {E : CtlPost} {e : Env} {d : Bool} {acts : List Action} {s : State} {f : JFrame} {a : Addr}
theorem zh_row {x : ExceptionTableEntry} {t : List ExceptionTableEntry} {c : ClassId} {cell : Cell} (hx : covers x f.pc = true) (h0 : x.catchType ≠ 0)
    (hl : s.vm.ClassLinks e.platform f.method.cls x.catchType c) (hcell : s.heap[a]? = some cell) (hobj : ∀ k, cell.vm ≠ .statics k) (hk : ∃ k, s.vm.classes[cell.cls]? = some k) (hc : ∃ k, s.vm.classes[c]? = some k) :
    wp (findHandler.go f a (x :: t)) Q E e d acts s ↔ (if s.vm.assignable cell.cls c = true then Q (.found x.handlerPc) d acts (s.setVm (s.vm.noted f.method.cls x.catchType (.cls c))) else wp (findHandler.go f a t) Q E e d acts (s.setVm (s.vm.noted f.method.cls x.catchType (.cls c)))) := by
  have hal : s.vm.Alike (s.vm.noted f.method.cls x.catchType (.cls c)) := (Vm.Alike.refl s.vm).noted _ _ _
  obtain ⟨ha, ht⟩ := (resolveClass_links e.toSetting hl).op (op := VmOp.resolveClass f.method.cls x.catchType) rfl
  obtain ⟨k1, hk1, -⟩ := hal.2.2 _ _ hk.choose_spec
  obtain ⟨k2, hk2, -⟩ := hal.2.2 _ _ hc.choose_spec
  have hasg : (s.vm.noted f.method.cls x.catchType (.cls c)).assignable cell.cls c = s.vm.assignable cell.cls c := by rw [hal.assignable]
  simp only [covers] at hx
  cases hfit : s.vm.assignable cell.cls c
  · rw [hfit] at hasg
    simp [findHandler.go, hx, h0, ha, ht, hcell, hobj, hk1, hk2, hasg, VmOp.dirties, VmOp.acts]
  · rw [hfit] at hasg
    simp [findHandler.go, hx, h0, ha, ht, hcell, hobj, hk1, hk2, hasg, VmOp.dirties, VmOp.acts]
end ZHR
def zFind (e : Env) (s0 S : State) (g : JFrame) (a : Addr) (pc : Nat) : Prop := ∃ vm', s0.WarmedH vm' ∧ ∀ (Q : Handler → Pre) (E : CtlPost) (d : Bool) (acts : List Action), wp (findHandler g a) Q E e d acts S ↔ Q (.found pc) d acts (S.setVm vm')
def zTab (c : Code) : List (Nat × Nat × Nat × Nat) := c.exceptionTable.toList.map (fun h => (h.startPc, h.endPc, h.handlerPc, h.catchType))
section ZHF
variable {e : Env} {s0 S : State} {g : JFrame} {a : Addr} {meth : Method} {c : Code} {cell : Cell} {args : Array Value} {own C1 C2 E : String}
theorem zFind_1 {s1 e1 p1 k1 : Nat} {r : List (Nat × Nat × Nat × Nat)} (hpl : e.platform.magicAccessors = ({} : Platform).magicAccessors) (hm : S.vm.method? g.method = some meth) (hc : meth.code = some c) (hW : s0.WarmedH S.vm) (hcell : S.heap[a]? = some cell) (hvm : cell.vm = .none) (hE : s0.vm.findClass E = some cell.cls)
    (hown : s0.vm.findClass own = some g.method.cls) (ht : zTab c = (s1, e1, p1, k1) :: r) (hcov : s1 ≤ g.pc ∧ g.pc < e1) (hk : k1 ≠ 0) (hlink : (Cond.classLink own k1 C1).before args s0 = true) (hcast : (Cond.castable E C1).before args s0 = true) : zFind e s0 S g a p1 := by
  obtain ⟨cE, c1, q1, q2, q3⟩ := Cond.castable_spec hcast
  cases Option.some.inj (q1.symm.trans hE)
  obtain ⟨c1', hc1, hl⟩ := Cond.classLink_spec hown hlink e.platform hpl
  cases Option.some.inj (q2.symm.trans hc1)
  obtain ⟨dk, -, -, kt, hd, -, -, -, -, hkt, -, hopen⟩ := id hl.here
  obtain ⟨kE, hkE⟩ := Vm.classAt_of_assignable q3 ⟨kt, hkt⟩
  obtain ⟨kE', hkE', -⟩ := hW.alike.2.2 _ _ hkE
  obtain ⟨kt', hkt', -⟩ := hW.alike.2.2 _ _ hkt
  have hob : ∀ k, cell.vm ≠ .statics k := fun k h => by rw [hvm] at h; cases h
  unfold zTab at ht
  obtain ⟨x, xs, hxs, hx, -⟩ := List.map_eq_cons_iff.mp ht
  simp only [Prod.mk.injEq] at hx
  obtain ⟨h1, h2, h3, h4⟩ := hx
  subst h1 h2 h3 h4
  refine ⟨_, hW.noted hd hopen (State.rightAt_cls hl), fun Q E' d acts => ?_⟩
  rw [W.findHandler_eq hm hc, hxs, zh_row (by simp [covers, hcov]) hk (hW.classLinks hl) hcell hob ⟨kE', hkE'⟩ ⟨kt', hkt'⟩, if_pos (by rw [hW.alike.assignable]; exact q3)]
theorem zFind_2 {s1 e1 p1 k1 s2 e2 p2 k2 : Nat} {r : List (Nat × Nat × Nat × Nat)} (hpl : e.platform.magicAccessors = ({} : Platform).magicAccessors) (hm : S.vm.method? g.method = some meth) (hc : meth.code = some c) (hW : s0.WarmedH S.vm) (hcell : S.heap[a]? = some cell) (hvm : cell.vm = .none) (hE : s0.vm.findClass E = some cell.cls)
    (hown : s0.vm.findClass own = some g.method.cls) (ht : zTab c = (s1, e1, p1, k1) :: (s2, e2, p2, k2) :: r) (hcov : s1 ≤ g.pc ∧ g.pc < e1) (hcov2 : s2 ≤ g.pc ∧ g.pc < e2) (hk : k1 ≠ 0) (hk2 : k2 ≠ 0) (hlink : (Cond.classLink own k1 C1).before args s0 = true) (hno : va_Nc E C1 s0) (hlink2 : (Cond.classLink own k2 C2).before args s0 = true) (hcast : (Cond.castable E C2).before args s0 = true) : zFind e s0 S g a p2 := by
  obtain ⟨cE, c2, q1, q2, q3⟩ := Cond.castable_spec hcast
  cases Option.some.inj (q1.symm.trans hE)
  obtain ⟨c2', hc2, hl2⟩ := Cond.classLink_spec hown hlink2 e.platform hpl
  cases Option.some.inj (q2.symm.trans hc2)
  obtain ⟨c1, hc1, hl⟩ := Cond.classLink_spec hown hlink e.platform hpl
  obtain ⟨n1, n2, g1, g2, g3⟩ := hno
  cases Option.some.inj (g1.symm.trans hE)
  cases Option.some.inj (g2.symm.trans hc1)
  obtain ⟨dk, -, -, kt, hd, -, -, -, -, hkt, -, hopen⟩ := id hl.here
  obtain ⟨dk2, -, -, kt2, hd2, -, -, -, -, hkt2, -, hopen2⟩ := id hl2.here
  obtain ⟨kE, hkE⟩ := Vm.classAt_of_assignable q3 ⟨kt2, hkt2⟩
  have hob : ∀ k, cell.vm ≠ .statics k := fun k h => by rw [hvm] at h; cases h
  unfold zTab at ht
  obtain ⟨x, xs, hxs, hx, ht2⟩ := List.map_eq_cons_iff.mp ht
  obtain ⟨y, ys, hys, hy, -⟩ := List.map_eq_cons_iff.mp ht2
  simp only [Prod.mk.injEq] at hx hy
  obtain ⟨h1, h2, h3, h4⟩ := hx
  obtain ⟨h5, h6, h7, h8⟩ := hy
  subst h1 h2 h3 h4 h5 h6 h7 h8
  have hW2 := hW.noted hd hopen (State.rightAt_cls hl)
  obtain ⟨V, hV⟩ : ∃ z, z = S.vm.noted g.method.cls x.catchType (.cls c1) := ⟨_, rfl⟩
  rw [← hV] at hW2
  obtain ⟨kE', hkE', -⟩ := hW.alike.2.2 _ _ hkE
  obtain ⟨kt', hkt', -⟩ := hW.alike.2.2 _ _ hkt
  obtain ⟨kE2, hkE2, -⟩ := hW2.alike.2.2 _ _ hkE
  obtain ⟨kt2', hkt2', -⟩ := hW2.alike.2.2 _ _ hkt2
  refine ⟨_, hW2.noted hd2 hopen2 (State.rightAt_cls hl2), fun Q E' d acts => ?_⟩
  rw [W.findHandler_eq hm hc, hxs, zh_row (by simp [covers, hcov]) hk (hW.classLinks hl) hcell hob ⟨kE', hkE'⟩ ⟨kt', hkt'⟩, if_neg (by rw [hW.alike.assignable, g3]; decide), ← hV, hys,
    zh_row (s := S.setVm V) (by simp [covers, hcov2]) hk2 (hW2.classLinks hl2) hcell hob ⟨kE2, hkE2⟩ ⟨kt2', hkt2'⟩, if_pos (by show V.assignable cell.cls c2 = true; rw [hW2.alike.assignable]; exact q3)]
  rfl
end ZHF
theorem z_caught {tb : Tables} {e : Env} {U target : State} {g : JFrame} {c : Code} {below : List Frame} {a : Addr} {pc : Nat} (h : At U g.method c below) {vm' : Vm}
    (hf : ∀ (Q : Handler → Pre) (E : CtlPost) (d : Bool) (acts : List Action), wp (findHandler g a) Q E e d acts ((U.setTop g).pushFrame (.throwing a)) ↔ Q (.found pc) d acts (((U.setTop g).pushFrame (.throwing a)).setVm vm'))
    (hrest : Steps tb e below ((U.setVm vm').setTop { g with pc := pc, stack := [.ref a] }) target) : Steps tb e below ((U.setTop g).pushFrame (.throwing a)) target := by
  obtain ⟨hgo, hw⟩ := h.throwing a
  refine Steps.head hgo hw ?_
  have hst : (stepThrowing e ((U.setTop g).pushFrame (.throwing a)) a (.java g :: U.frames.tail)).Is ((((U.setTop g).pushFrame (.throwing a)).setVm vm').setFrames (.java { g with pc := pc, stack := [.ref a] } :: U.frames.tail)) [] := by
    simp only [stepThrowing, searchFrame, vmDo]
    generalize hr : Sem.go _ e false [] ((U.setTop g).pushFrame (.throwing a)) = res
    obtain ⟨as, rfl, ha⟩ := Sem.eq_ok_of hr (a := Handler.found pc) (s' := ((U.setTop g).pushFrame (.throwing a)).setVm vm') (acts' := []) (by simp [hf _ _ _ _])
    exact ⟨rfl, ha⟩
  rw [stepThread_throwing (frames_entered h.top _), hst.1]
  obtain ⟨g₀, hg⟩ := Option.isSome_iff_exists.mp h.top
  obtain ⟨r, hr⟩ := State.topJava?_eq_some.mp hg
  have hr' : (U.setVm vm').frames = .java g₀ :: r := hr
  have sw : ∀ (u : State) (F G : List Frame), ((u.setFrames F).setVm vm').setFrames G = (u.setVm vm').setFrames G := fun u F G => by
    rw [show (u.setFrames F).setVm vm' = (u.setVm vm').setFrames F from rfl, State.setFrames_setFrames]
  rw [State.setTop_of_frames _ hr'] at hrest
  rw [hr, List.tail_cons, State.pushFrame, sw, State.setTop_of_frames _ hr, sw]
  exact hrest
section ZTC
variable {p : Program} {l : Launch} {e : Env} {R : Room} {s : State} {m : MethodId} {args : Array Value} {below : List Frame} {meth : Method} {c : Code} {H : Heap} {locs : List Loc} {cells slots : Nat} {Q : State → Prop}
theorem z_throwV {cc bytes : ByteArray} {nL maxL index n mc ms pc hpc : Nat} {own C E : String} {y : MethodName} {ret : Option FieldType} {ws : List Cond} {rm : Room} {Pc : Array Value → State → Prop} {b : Addr} {As rest : List Value} {ls : Array Slot}
    (S : CallFix p m c cc nL s args TT own) (hM : zMT l y ws rm Pc E mc ms) (cw : CallW R s args own C index y bytes maxL ret ws rm mc ms n) (hp : PreV s H C b Pc As)
    (hn : As.length = n) (hsize : ls.size = nL) (hW : (rest.map fun v => v.category).sum ≤ 8) (hdg : decode cc pc = .ok (.invokevirtual index, 3)) (hf : cells + mc ≤ R.cells ∧ slots + ms ≤ R.slots)
    (hfind : ∀ (U : State) (q : Addr) (cell : Cell), U.vm.method? m = some meth → meth.code = some c → s.WarmedH U.vm → U.heap[q]? = some cell → cell.vm = .none → s.vm.findClass E = some cell.cls → e.platform.magicAccessors = ({} : Platform).magicAccessors → zFind e s U (F0 m pc ls rest) q hpc)
    (kk : ∀ (q : Nat) (H1 : Heap), H.size ≤ H1.size → (∀ a, a < H.size → H1[a]? = H[a]?) → W p l e R s m args below meth c H1 locs (cells + mc) (slots + ms) Q (F0 m hpc ls [.ref q])) :
    W p l e R s m args below meth c H locs cells slots Q (F0 m pc ls (As.reverse ++ .ref b :: rest)) := by
  obtain ⟨⟨hrc, hrs, hfr, hlo, hws, hcw, hcode, hini, hy, hlen, hlink⟩, hinst, hsel⟩ := cw
  obtain ⟨hx, hb, hml, hown, -⟩ := S
  obtain ⟨hbl, ⟨cellB, hcB, hoB, hclB⟩, hPc⟩ := hp
  intro T hT X
  obtain ⟨mk, methM, hnamed, hmethM, hstM, habM⟩ := Cond.instanceMethod_spec hinst
  obtain ⟨methM', cM, hmethM', hcM, -, hlM, -, -, -, hsigM⟩ := Cond.code_spec hnamed hcode
  cases hmethM.symm.trans hmethM'
  obtain ⟨c2, r2, m2, q1, q2, q3, q4, kP, hkP, hkPi⟩ := Cond.selects_spec hsel
  cases hclB.symm.trans q1
  cases (State.methodFound?_of_named hnamed hy).symm.trans q2
  cases hnamed.symm.trans q3
  have hselP : selectMethod e.platform s.vm cellB.cls mk = .method mk := by rw [Launch.admits_selectMethod X.admits]; exact q4
  obtain ⟨vm₁, X₁, hstep₁⟩ := X.invokevirtual hx hown hlink hnamed hmethM hstM hkP hkPi hy (a := b) (cell := cellB) (by rw [hT]; exact hcB)
    (fun z h => by rw [h] at hoB; cases hoB) hselP hmethM habM hkP hkPi (g := F0 m pc ls (As.reverse ++ .ref b :: rest)) rfl (argsL := As) (rest := rest) (hn.trans (hlen _ hsigM)) rfl (by rw [hb]; exact hdg)
  obtain ⟨U, hU⟩ : ∃ z, z = T.setVm vm₁ := ⟨_, rfl⟩
  rw [← hU] at X₁ hstep₁
  have hUH : U.heap = H := by rw [hU]; exact hT
  have hpre : (headSpec ws rm).pre.before (Value.ref b :: As).toArray U = true := atoms_intro fun w hw => hws w hw _ _ X₁.warmed
  have hnY : U.methodNamed? y = some mk := X₁.named hnamed
  obtain ⟨methY, cY, hmY, hcY, -, hlY, -, -, -, -⟩ := Cond.code_spec hnY (hws _ hcw (Value.ref b :: As).toArray U X₁.warmed)
  obtain ⟨kY, hkY, -⟩ := className_of_methodNamed hnY
  have hinitY : kY.init = .initialized := Cond.initialized_spec (findClass_of_methodNamed hnY) hkY (word_at X₁.warmed (Or.inl (by first | rfl | simp [Cond.onTables, Cond.keeps, Cond.steady])) hini (a' := (Value.ref b :: As).toArray))
  have hat : At U m c below := X₁.here
  have happ : (headSpec ws rm).appliesLoose y e.platform (U.calling (F0 m pc ls rest) mk (Value.ref b :: As).toArray) = true :=
    Spec.appliesLoose_calling (g := F0 m pc ls rest) hat (by rw [hb]; exact hdg) hnY hkY hinitY
      (X₁.room_calling (g := F0 m pc ls rest) (R' := (headSpec ws rm).room) (hsize.trans hml.symm) hmY hcY hfr (by rw [hlY]; show 2 * 0 + (rest.map fun v => v.category).sum + (maxL + 11) + rm.locals ≤ _; omega) (by rw [show (headSpec ws rm).room.cells = mc from hrc]; exact hf.1) (by rw [show (headSpec ws rm).room.slots = ms from hrs]; exact hf.2)) hpre
  obtain ⟨mid, hmid⟩ := hat.above
  have hfrm : (U.setTop (F0 m pc ls rest)).frames = (.java (F0 m pc ls rest) :: mid) ++ below := by rw [State.frames_setTop' _ hat.top, hmid]; rfl
  obtain ⟨o, s₂, hsteps, -, hend, q, ce, ho, hq1, hq2, hq3, hq4, hq5⟩ := Steps.callFree hM p X₁.admits X₁.cas X₁.clock (acts := []) hfrm happ (hbl _ _ _ _ (hPc U hUH X₁.warmed)) trivial
  subst ho
  have hend' : s₂.frames = .throwing q :: (U.setTop (F0 m pc ls rest)).frames := hend
  rw [State.frames_setTop' _ hat.top] at hend'
  have hq6 : (U.calling (F0 m pc ls rest) mk (Value.ref b :: As).toArray).sameButNew ({ s₂ with vm := (U.calling (F0 m pc ls rest) mk (Value.ref b :: As).toArray).vm } : State) [] mc ms := hq5
  obtain ⟨e2, e3, e4, e5, e6, e7⟩ := hq6
  obtain ⟨g₀, hg0⟩ := Option.isSome_iff_exists.mp hat.top
  obtain ⟨r, hr⟩ := State.topJava?_eq_some.mp hg0
  have hs₂ : s₂ = ((({ U with heap := s₂.heap, slotsUsed := s₂.slotsUsed } : State).setVm s₂.vm).setTop (F0 m pc ls rest)).pushFrame (.throwing q) := by
    have h1 : s₂ = ({ (U.calling (F0 m pc ls rest) mk (Value.ref b :: As).toArray).setFrames s₂.frames with heap := s₂.heap, slotsUsed := s₂.slotsUsed } : State).setVm s₂.vm := by
      have : s₂ = ({ s₂ with vm := (U.calling (F0 m pc ls rest) mk (Value.ref b :: As).toArray).vm } : State).setVm s₂.vm := rfl
      rw [e2] at this
      exact this
    have hr' : (({ U with heap := s₂.heap, slotsUsed := s₂.slotsUsed } : State).setVm s₂.vm).frames = .java g₀ :: r := hr
    have hfl : ((({ U with heap := s₂.heap, slotsUsed := s₂.slotsUsed } : State).setVm s₂.vm).setTop (F0 m pc ls rest)).frames = .java (F0 m pc ls rest) :: r := by
      rw [State.frames_setTop _ hr']
    refine h1.trans ?_
    rw [hend', State.calling_eq hat.top, State.setFrames_setFrames, State.pushFrame, hfl, State.setTop_of_frames _ hr', State.setFrames_setFrames, hr]
    rfl
  have hW' : U.WarmedH s₂.vm := hq4
  have hsame : U.sameButNew ({ U with heap := s₂.heap, slotsUsed := s₂.slotsUsed } : State) [] mc ms := by
    refine ⟨?_, e3, e4, e5, e6, e7⟩
    obtain ⟨t, ht, -⟩ := State.frames_cons hr
    show ({ U with heap := s₂.heap, slotsUsed := s₂.slotsUsed } : State) = { U.setFrames U.frames with heap := s₂.heap, slotsUsed := s₂.slotsUsed }
    rw [State.setFrames_self ht]
  have X₂ : Stand p l e R s m args below meth c (({ U with heap := s₂.heap, slotsUsed := s₂.slotsUsed } : State).setVm s₂.vm) (locs ++ []) (cells + mc) (slots + ms) :=
    ⟨X₁.admits, X₁.cas, X₁.clock, X₁.frames, X₁.room, X₁.hears, X₁.method, X₁.code, (X₁.here.setHeapUsed s₂.heap s₂.slotsUsed).setVm hW'.alike, X₁.tail, State.WarmedH.trans X₁.warmed hW', X₁.limits, X₁.bytes, X₁.same.trans (hsame.setVm s.vm)⟩
  rw [List.append_nil] at X₂
  have hE2 : s.vm.findClass E = some ce.cls := by
    have h9 : U.vm.findClass E = some ce.cls := hq3
    rw [X₁.warmed.alike.findClass] at h9
    exact h9
  obtain ⟨vm', hWv, hfd⟩ := hfind ((((({ U with heap := s₂.heap, slotsUsed := s₂.slotsUsed } : State).setVm s₂.vm).setTop (F0 m pc ls rest)).pushFrame (.throwing q))) q ce X₂.method' X₂.code X₂.warmed hq1 hq2 hE2 (by rw [X.admits.platform])
  have X₃ := X₂.noted hWv
  have hkeep : ∀ a, a < H.size → s₂.heap[a]? = H[a]? := fun a ha => by
    have hlt : a < U.heap.size := by rw [hUH]; exact ha
    obtain ⟨cell', h1, h2, h3, h4⟩ := e7 a _ (Array.getElem?_eq_getElem hlt)
    have h1' : s₂.heap[a]? = some cell' := h1
    rw [h1', ← hUH, Array.getElem?_eq_getElem hlt]
    congr 1
    rw [h2]
    congr 1
    apply Array.ext_getElem?
    intro i
    exact h4 i (fun z => nomatch z)
  obtain ⟨t2, a1, b1⟩ := kk q s₂.heap (by rw [← hUH]; exact e3) hkeep ((({ U with heap := s₂.heap, slotsUsed := s₂.slotsUsed } : State).setVm s₂.vm).setVm vm') rfl X₃
  refine ⟨t2, hstep₁ _ (fun acts => ?_), b1⟩
  rw [doInvoke_state]
  refine hsteps.trans ?_
  rw [hs₂]
  exact z_caught (g := F0 m pc ls rest) X₂.here hfd a1
end ZTC
