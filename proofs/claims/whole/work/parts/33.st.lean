theorem eq_int {args : Array Value} {s : State} {t : Term} {z : Int32} (h : (Cond.eq t (.int z)).before args s = true) : t.eval args s none [] s = some (.int z) := by
  cases hv : t.eval args s none [] s with
  | none => simp [Cond.before, Cond.holds, Cond.value, hv] at h
  | some w =>
    have hz : (Term.int z).eval args s none [] s = some (.int z) := rfl
    simp only [Cond.before, Cond.holds, Cond.value, hv, hz] at h
    cases w <;> simp_all
theorem arr_ok {args : Array Value} {s : State} {ty : FieldType} (hty : ∀ C, ty ≠ .object C) (h : (Cond.arrayClass ty).before args s = true) : ∃ cA : ClassId, ArrOfT s cA ty ∧ va_RA s cA ty := by
  obtain ⟨c, k, comp, h1, h2, h3⟩ := Cond.arrayClass_spec h
  refine ⟨c, fun N z => ⟨(fun k h => by cases h), k, h2, comp, h3⟩, ?_⟩
  cases ty with
  | object C => exact absurd rfl (hty C)
  | _ => exact h1
theorem arq_ok {args : Array Value} {s : State} {C : String} (h : (Cond.arrayOver (.object C)).before args s = true) : ∃ cA : ClassId, ArrOfT s cA (.object C) ∧ va_RA s cA (.object C) := by
  obtain ⟨comp, c, k, h1, -, h2, h3, h4⟩ := Cond.arrayOver_spec h
  exact ⟨c, fun N z => ⟨(fun k h => by cases h), k, h2, comp, h3⟩, k, comp, h2, h3, h1, h4⟩
theorem str_ok {args : Array Value} {s : State} {own tx cls : String} {k : Nat} (h1 : (Cond.stringRef own k tx).before args s = true) (h2 : (Cond.exactly (.string own k) cls).before args s = true) : ∃ sa, vk_R own k tx sa s := by
  obtain ⟨a2, c, cA, kA, q1, -⟩ := Cond.exactly_spec (args := args) (first := s) (o := none) (s := s) (idx := []) (t := .string own k) (cls := cls) h2
  exact ⟨a2, vk_R.of h1 q1⟩
set_option maxHeartbeats 4000000 in
set_option maxRecDepth 100000 in
theorem z_start {s : State} {args : Array Value} (hts : ∀ w ∈ lw_tbl, w.before args s = true) (hgv : (Jvm.Cond.and given_1 narrow_1).before args s = true) :
    ∃ (D : va_G) (kk : Nat → ClassId) (e0 mi : Nat), ZK D vwCl (TY kk) s ∧ zB e0 mi s.heap.size s s.heap := by
  have hs := flat_of_before _ hgv
  have hT : ∀ w ∈ TT, w.before args s = true := fun w h => hts w (List.mem_filter.mp h).1
  obtain ⟨cG, iG, kG⟩ := u_known (n := 2) hT inT_G (hts (.instantiable R_G 2) (by decide +kernel))
  obtain ⟨cQ, iQ, kQ⟩ := u_known (n := 6) hT inT_Q (hts (.instantiable R_Q 6) (by decide +kernel))
  obtain ⟨cT, iT, kT⟩ := u_known (n := 12) hT inT_T (hts (.instantiable R_T 12) (by decide +kernel))
  obtain ⟨cX, iX, kX⟩ := u_known (n := 5) hT inT_X (hts (.instantiable R_X 5) (by decide +kernel))
  obtain ⟨cM, iM, kM⟩ := u_known (n := 15) hT inT_M (hts (.instantiable R_M 15) (by decide +kernel))
  obtain ⟨cA, iA, kA⟩ := u_known (n := 3) hT inT_A (hts (.instantiable R_A 3) (by decide +kernel))
  have wO : (Cond.arrayOver (.object "java/lang/Object")).before args s = true := hts _ (by decide +kernel)
  have wQ : (Cond.arrayOver (.object "LoanRounds$Queue")).before args s = true := hts _ (by decide +kernel)
  have wG : (Cond.arrayOver (.object "LoanRounds$Group")).before args s = true := hts _ (by decide +kernel)
  obtain ⟨k0, r0, s0⟩ := arr_ok (ty := .int) (fun C z => nomatch z) (hts (.arrayClass .int) (by decide +kernel))
  obtain ⟨k1, r1, s1⟩ := arr_ok (ty := .long) (fun C z => nomatch z) (hts (.arrayClass .long) (by decide +kernel))
  obtain ⟨k2, r2, s2⟩ := arq_ok wQ
  obtain ⟨k3, r3, s3⟩ := arq_ok wG
  obtain ⟨k4, r4, s4⟩ := arq_ok wO
  have lD : (Cond.laysStatic "java/util/ArrayList" "DEFAULTCAPACITY_EMPTY_ELEMENTDATA" "[Ljava/lang/Object;").before args s = true := hts _ (by decide +kernel)
  have hAn : ∀ a : Nat, a < s.heap.size → ¬ (fun q => s.heap.size ≤ q) a := fun a h => Nat.not_le.mpr h
  obtain ⟨e0, q1, q2⟩ := va_Tof (tm := .static "java/util/ArrayList" "DEFAULTCAPACITY_EMPTY_ELEMENTDATA" "[Ljava/lang/Object;") (ty := .object "java/lang/Object") (N := 0) (f := fun _ => .null) (A := fun q => s.heap.size ≤ q) (by decide) (hs _ (by decide +kernel)) (eq_int (hs (.eq (.length (.static "java/util/ArrayList" "DEFAULTCAPACITY_EMPTY_ELEMENTDATA" "[Ljava/lang/Object;")) (.int 0)) (by decide +kernel))) (fun j hj => absurd hj (Nat.not_lt_zero _)) hAn
  obtain ⟨mi, hmi⟩ := va_Mi.of (C := "[Ljava/lang/Object;") (hs _ (by decide +kernel))
  have lU : (Cond.laysStatic Bundle.tN "UNASSIGNED_STACK" Bundle.steD).before args s = true := hts _ (by decide +kernel)
  have lS : (Cond.laysStatic Bundle.tN "SUPPRESSED_SENTINEL" Bundle.listD).before args s = true := hts _ (by decide +kernel)
  refine ⟨(fun c => match c with | 0 => cG | 1 => cQ | 2 => cT | 3 => cX | 4 => cM | _ => cA, fun c => match c with | 0 => iG | 1 => iQ | 2 => iT | 3 => iX | 4 => iM | _ => iA), fun k => match k with | 0 => k0 | 1 => k1 | 2 => k2 | 3 => k3 | _ => k4, e0, mi, ⟨⟨fun c q hq => ?_, fun k q hq => ?_⟩, ?_, ?_, ?_⟩, ⟨⟨wO, wQ, wG⟩, ?_, hmi, va_Zof lD (hts (.initialized "java/util/ArrayList") (by decide +kernel)) q1 hAn, q2, ?_⟩, ⟨?_, ?_⟩, ?_, ?_⟩
  · rcases (show c = 0 ∨ c = 1 ∨ c = 2 ∨ c = 3 ∨ c = 4 ∨ c = 5 ∨ 6 ≤ c by omega) with rfl | rfl | rfl | rfl | rfl | rfl | h6
    · cases hq; exact kG
    · cases hq; exact kQ
    · cases hq; exact kT
    · cases hq; exact kX
    · cases hq; exact kM
    · cases hq; exact kA
    · rw [List.getElem?_eq_none (by show 6 ≤ c; exact h6)] at hq
      cases hq
  · rcases (show k = 0 ∨ k = 1 ∨ k = 2 ∨ k = 3 ∨ k = 4 ∨ 5 ≤ k by omega) with rfl | rfl | rfl | rfl | rfl | h5
    · cases hq; exact ⟨r0, s0⟩
    · cases hq; exact ⟨r1, s1⟩
    · cases hq; exact ⟨r2, s2⟩
    · cases hq; exact ⟨r3, s3⟩
    · cases hq; exact ⟨r4, s4⟩
    · rw [List.getElem?_eq_none (by show 5 ≤ k; exact h5)] at hq
      cases hq
  · exact va_any rfl (hts (.methodLinkNest "LoanRounds" 35 y_Q_init "LoanRounds") (by decide +kernel))
  · exact va_any rfl (hts (.methodLinkNest "LoanRounds" 36 y_G_init "LoanRounds") (by decide +kernel))
  · exact va_any rfl (hts (.methodLinkNest "LoanRounds$Queue" 34 y_X_within "LoanRounds") (by decide +kernel))
  · exact va_Dc.of (hts _ (by decide +kernel))
  · exact va_any rfl (hts (.castable "LoanRounds$Task" "java/lang/Object") (by decide +kernel))
  · intro w hw
    simp only [zTW, List.mem_cons, List.not_mem_nil, or_false] at hw
    rcases hw with rfl | rfl | rfl | rfl | rfl | rfl | rfl | rfl | rfl | rfl
    · exact zW_lays lU
    · exact zW_lays lS
    · exact zW_ref lU (hs _ (by decide +kernel))
    · exact zW_ref lS (hs _ (by decide +kernel))
    · exact zW_cast (hts _ (by decide +kernel))
    · exact zW_cast (hts _ (by decide +kernel))
    · exact zW_cast (hts _ (by decide +kernel))
    · exact zW_decl (hts _ (by decide +kernel))
    · exact zW_decl (hts _ (by decide +kernel))
    · exact zW_decl (hts _ (by decide +kernel))
  · intro q hq
    simp only [strL, List.mem_cons, List.not_mem_nil, or_false] at hq
    rcases hq with rfl | rfl | rfl | rfl | rfl | rfl | rfl | rfl | rfl
    · exact str_ok (cls := "java/lang/String") (hts _ (by decide +kernel)) (hs _ (by decide +kernel))
    · exact str_ok (cls := "java/lang/String") (hts _ (by decide +kernel)) (hs _ (by decide +kernel))
    · exact str_ok (cls := "java/lang/String") (hts _ (by decide +kernel)) (hs _ (by decide +kernel))
    · exact str_ok (cls := "java/lang/String") (hts _ (by decide +kernel)) (hs _ (by decide +kernel))
    · exact str_ok (cls := "java/lang/String") (hts _ (by decide +kernel)) (hs _ (by decide +kernel))
    · exact str_ok (cls := "java/lang/String") (hts _ (by decide +kernel)) (hs _ (by decide +kernel))
    · exact str_ok (cls := "java/lang/String") (hts _ (by decide +kernel)) (hs _ (by decide +kernel))
    · exact str_ok (cls := "java/lang/String") (hts _ (by decide +kernel)) (hs _ (by decide +kernel))
    · exact str_ok (cls := "java/lang/String") (hts _ (by decide +kernel)) (hs _ (by decide +kernel))
  · exact va_Nc.of (hs _ (by decide +kernel))
  · exact va_Nc.of (hs _ (by decide +kernel))
