section
-- ===== PART A: goes FIRST, ahead of the names: the tables' words, and 'selects' of the private methods out of them =====
/-- a private method of a class that the tables say can be made, by its rows of tables_1 -/
def lw_okq (q : MethodName × Nat) : Prop := (q.1.cls ≠ "java/lang/invoke/MethodHandle" ∧ q.1.cls ≠ "java/lang/invoke/VarHandle") ∧ Cond.instantiable q.1.cls q.2 ∈ tables_1 ∧ Cond.privateMethod q.1 ∈ tables_1 ∧ Cond.instanceMethod q.1 ∈ tables_1
theorem lw_p0 : lw_okq (⟨"LoanRounds", "lentWith", "(I)LLoanRounds$Task;"⟩, 5) := ⟨⟨by decide +kernel, by decide +kernel⟩, List.mem_of_getElem? (i := 22) (by decide +kernel), List.mem_of_getElem? (i := 125) (by decide +kernel), List.mem_of_getElem? (i := 126) (by decide +kernel)⟩
theorem lw_p1 : lw_okq (⟨"LoanRounds", "taskAt", "(I)LLoanRounds$Task;"⟩, 5) := ⟨⟨by decide +kernel, by decide +kernel⟩, List.mem_of_getElem? (i := 22) (by decide +kernel), List.mem_of_getElem? (i := 152) (by decide +kernel), List.mem_of_getElem? (i := 153) (by decide +kernel)⟩
theorem lw_p2 : lw_okq (⟨"LoanRounds", "liveTasks", "()I"⟩, 5) := ⟨⟨by decide +kernel, by decide +kernel⟩, List.mem_of_getElem? (i := 22) (by decide +kernel), List.mem_of_getElem? (i := 171) (by decide +kernel), List.mem_of_getElem? (i := 172) (by decide +kernel)⟩
theorem lw_p3 : lw_okq (⟨"LoanRounds", "tasksThatAre", "(I)I"⟩, 5) := ⟨⟨by decide +kernel, by decide +kernel⟩, List.mem_of_getElem? (i := 22) (by decide +kernel), List.mem_of_getElem? (i := 175) (by decide +kernel), List.mem_of_getElem? (i := 176) (by decide +kernel)⟩
theorem lw_p4 : lw_okq (⟨"LoanRounds", "groupAt", "(I)LLoanRounds$Group;"⟩, 5) := ⟨⟨by decide +kernel, by decide +kernel⟩, List.mem_of_getElem? (i := 22) (by decide +kernel), List.mem_of_getElem? (i := 188) (by decide +kernel), List.mem_of_getElem? (i := 189) (by decide +kernel)⟩
theorem lw_p5 : lw_okq (⟨"LoanRounds", "queueAt", "(I)LLoanRounds$Queue;"⟩, 5) := ⟨⟨by decide +kernel, by decide +kernel⟩, List.mem_of_getElem? (i := 22) (by decide +kernel), List.mem_of_getElem? (i := 195) (by decide +kernel), List.mem_of_getElem? (i := 196) (by decide +kernel)⟩
theorem lw_p6 : lw_okq (⟨"LoanRounds", "firstOf", "(LLoanRounds$Queue;)LLoanRounds$Task;"⟩, 5) := ⟨⟨by decide +kernel, by decide +kernel⟩, List.mem_of_getElem? (i := 22) (by decide +kernel), List.mem_of_getElem? (i := 211) (by decide +kernel), List.mem_of_getElem? (i := 212) (by decide +kernel)⟩
theorem lw_p7 : lw_okq (⟨"LoanRounds", "countOfOne", "(I)I"⟩, 5) := ⟨⟨by decide +kernel, by decide +kernel⟩, List.mem_of_getElem? (i := 22) (by decide +kernel), List.mem_of_getElem? (i := 246) (by decide +kernel), List.mem_of_getElem? (i := 247) (by decide +kernel)⟩
theorem lw_p8 : lw_okq (⟨"LoanRounds", "lentTo", "(I)I"⟩, 5) := ⟨⟨by decide +kernel, by decide +kernel⟩, List.mem_of_getElem? (i := 22) (by decide +kernel), List.mem_of_getElem? (i := 253) (by decide +kernel), List.mem_of_getElem? (i := 254) (by decide +kernel)⟩
theorem lw_p9 : lw_okq (⟨"LoanRounds", "waitingIn", "(LLoanRounds$Queue;)I"⟩, 5) := ⟨⟨by decide +kernel, by decide +kernel⟩, List.mem_of_getElem? (i := 22) (by decide +kernel), List.mem_of_getElem? (i := 257) (by decide +kernel), List.mem_of_getElem? (i := 258) (by decide +kernel)⟩
theorem lw_p10 : lw_okq (⟨"java/lang/Throwable", "fillInStackTrace", "(I)Ljava/lang/Throwable;"⟩, 6) := ⟨⟨by decide +kernel, by decide +kernel⟩, List.mem_of_getElem? (i := 308) (by decide +kernel), List.mem_of_getElem? (i := 306) (by decide +kernel), List.mem_of_getElem? (i := 307) (by decide +kernel)⟩
theorem lw_p11 : lw_okq (⟨"LoanRounds", "numberUnder", "(LLoanRounds$Queue;J)I"⟩, 5) := ⟨⟨by decide +kernel, by decide +kernel⟩, List.mem_of_getElem? (i := 22) (by decide +kernel), List.mem_of_getElem? (i := 339) (by decide +kernel), List.mem_of_getElem? (i := 340) (by decide +kernel)⟩
theorem lw_p12 : lw_okq (⟨"java/util/ArrayList", "add", "(Ljava/lang/Object;[Ljava/lang/Object;I)V"⟩, 3) := ⟨⟨by decide +kernel, by decide +kernel⟩, List.mem_of_getElem? (i := 34) (by decide +kernel), List.mem_of_getElem? (i := 419) (by decide +kernel), List.mem_of_getElem? (i := 420) (by decide +kernel)⟩
theorem lw_p13 : lw_okq (⟨"java/util/ArrayList", "grow", "()[Ljava/lang/Object;"⟩, 3) := ⟨⟨by decide +kernel, by decide +kernel⟩, List.mem_of_getElem? (i := 34) (by decide +kernel), List.mem_of_getElem? (i := 423) (by decide +kernel), List.mem_of_getElem? (i := 424) (by decide +kernel)⟩
theorem lw_p14 : lw_okq (⟨"java/util/ArrayList", "grow", "(I)[Ljava/lang/Object;"⟩, 3) := ⟨⟨by decide +kernel, by decide +kernel⟩, List.mem_of_getElem? (i := 34) (by decide +kernel), List.mem_of_getElem? (i := 427) (by decide +kernel), List.mem_of_getElem? (i := 428) (by decide +kernel)⟩
theorem lw_p15 : lw_okq (⟨"LoanRoundsModel", "raise", "(I)I"⟩, 15) := ⟨⟨by decide +kernel, by decide +kernel⟩, List.mem_of_getElem? (i := 539) (by decide +kernel), List.mem_of_getElem? (i := 604) (by decide +kernel), List.mem_of_getElem? (i := 605) (by decide +kernel)⟩
def lw_privs_1 : List (MethodName × Nat) := [(⟨"LoanRounds", "lentWith", "(I)LLoanRounds$Task;"⟩, 5), (⟨"LoanRounds", "taskAt", "(I)LLoanRounds$Task;"⟩, 5), (⟨"LoanRounds", "liveTasks", "()I"⟩, 5), (⟨"LoanRounds", "tasksThatAre", "(I)I"⟩, 5), (⟨"LoanRounds", "groupAt", "(I)LLoanRounds$Group;"⟩, 5), (⟨"LoanRounds", "queueAt", "(I)LLoanRounds$Queue;"⟩, 5), (⟨"LoanRounds", "firstOf", "(LLoanRounds$Queue;)LLoanRounds$Task;"⟩, 5), (⟨"LoanRounds", "countOfOne", "(I)I"⟩, 5), (⟨"LoanRounds", "lentTo", "(I)I"⟩, 5), (⟨"LoanRounds", "waitingIn", "(LLoanRounds$Queue;)I"⟩, 5), (⟨"java/lang/Throwable", "fillInStackTrace", "(I)Ljava/lang/Throwable;"⟩, 6), (⟨"LoanRounds", "numberUnder", "(LLoanRounds$Queue;J)I"⟩, 5), (⟨"java/util/ArrayList", "add", "(Ljava/lang/Object;[Ljava/lang/Object;I)V"⟩, 3), (⟨"java/util/ArrayList", "grow", "()[Ljava/lang/Object;"⟩, 3), (⟨"java/util/ArrayList", "grow", "(I)[Ljava/lang/Object;"⟩, 3), (⟨"LoanRoundsModel", "raise", "(I)I"⟩, 15)]
theorem lw_r1 : ∀ q ∈ lw_privs_1, lw_okq q := List.forall_mem_cons.mpr ⟨lw_p0, List.forall_mem_cons.mpr ⟨lw_p1, List.forall_mem_cons.mpr ⟨lw_p2, List.forall_mem_cons.mpr ⟨lw_p3, List.forall_mem_cons.mpr ⟨lw_p4, List.forall_mem_cons.mpr ⟨lw_p5, List.forall_mem_cons.mpr ⟨lw_p6, List.forall_mem_cons.mpr ⟨lw_p7, List.forall_mem_cons.mpr ⟨lw_p8, List.forall_mem_cons.mpr ⟨lw_p9, List.forall_mem_cons.mpr ⟨lw_p10, List.forall_mem_cons.mpr ⟨lw_p11, List.forall_mem_cons.mpr ⟨lw_p12, List.forall_mem_cons.mpr ⟨lw_p13, List.forall_mem_cons.mpr ⟨lw_p14, List.forall_mem_cons.mpr ⟨lw_p15, fun _ h => absurd h List.not_mem_nil⟩⟩⟩⟩⟩⟩⟩⟩⟩⟩⟩⟩⟩⟩⟩⟩
theorem lw_p16 : lw_okq (⟨"LoanRoundsModel", "found", "(IJ)I"⟩, 15) := ⟨⟨by decide +kernel, by decide +kernel⟩, List.mem_of_getElem? (i := 539) (by decide +kernel), List.mem_of_getElem? (i := 608) (by decide +kernel), List.mem_of_getElem? (i := 609) (by decide +kernel)⟩
theorem lw_p17 : lw_okq (⟨"LoanRoundsModel", "isLive", "(I)Z"⟩, 15) := ⟨⟨by decide +kernel, by decide +kernel⟩, List.mem_of_getElem? (i := 539) (by decide +kernel), List.mem_of_getElem? (i := 612) (by decide +kernel), List.mem_of_getElem? (i := 613) (by decide +kernel)⟩
theorem lw_p18 : lw_okq (⟨"LoanRoundsModel", "lives", "()I"⟩, 15) := ⟨⟨by decide +kernel, by decide +kernel⟩, List.mem_of_getElem? (i := 539) (by decide +kernel), List.mem_of_getElem? (i := 616) (by decide +kernel), List.mem_of_getElem? (i := 617) (by decide +kernel)⟩
theorem lw_p19 : lw_okq (⟨"LoanRoundsModel", "firstOf", "(I)I"⟩, 15) := ⟨⟨by decide +kernel, by decide +kernel⟩, List.mem_of_getElem? (i := 539) (by decide +kernel), List.mem_of_getElem? (i := 624) (by decide +kernel), List.mem_of_getElem? (i := 625) (by decide +kernel)⟩
theorem lw_p20 : lw_okq (⟨"LoanRoundsModel", "mayBeHad", "(I)Z"⟩, 15) := ⟨⟨by decide +kernel, by decide +kernel⟩, List.mem_of_getElem? (i := 539) (by decide +kernel), List.mem_of_getElem? (i := 628) (by decide +kernel), List.mem_of_getElem? (i := 629) (by decide +kernel)⟩
theorem lw_p21 : lw_okq (⟨"LoanRoundsModel", "lentOf", "(I)I"⟩, 15) := ⟨⟨by decide +kernel, by decide +kernel⟩, List.mem_of_getElem? (i := 539) (by decide +kernel), List.mem_of_getElem? (i := 632) (by decide +kernel), List.mem_of_getElem? (i := 633) (by decide +kernel)⟩
theorem lw_p22 : lw_okq (⟨"LoanRoundsModel", "weight", "(I)I"⟩, 15) := ⟨⟨by decide +kernel, by decide +kernel⟩, List.mem_of_getElem? (i := 539) (by decide +kernel), List.mem_of_getElem? (i := 636) (by decide +kernel), List.mem_of_getElem? (i := 637) (by decide +kernel)⟩
theorem lw_p23 : lw_okq (⟨"LoanRoundsModel", "lentTo", "(I)I"⟩, 15) := ⟨⟨by decide +kernel, by decide +kernel⟩, List.mem_of_getElem? (i := 539) (by decide +kernel), List.mem_of_getElem? (i := 640) (by decide +kernel), List.mem_of_getElem? (i := 641) (by decide +kernel)⟩
theorem lw_p24 : lw_okq (⟨"LoanRoundsModel", "lentWith", "(I)I"⟩, 15) := ⟨⟨by decide +kernel, by decide +kernel⟩, List.mem_of_getElem? (i := 539) (by decide +kernel), List.mem_of_getElem? (i := 648) (by decide +kernel), List.mem_of_getElem? (i := 649) (by decide +kernel)⟩
theorem lw_p25 : lw_okq (⟨"LoanRoundsModel", "again", "(I)V"⟩, 15) := ⟨⟨by decide +kernel, by decide +kernel⟩, List.mem_of_getElem? (i := 539) (by decide +kernel), List.mem_of_getElem? (i := 656) (by decide +kernel), List.mem_of_getElem? (i := 657) (by decide +kernel)⟩
theorem lw_p26 : lw_okq (⟨"LoanRoundsModel", "isTask", "(I)Z"⟩, 15) := ⟨⟨by decide +kernel, by decide +kernel⟩, List.mem_of_getElem? (i := 539) (by decide +kernel), List.mem_of_getElem? (i := 668) (by decide +kernel), List.mem_of_getElem? (i := 669) (by decide +kernel)⟩
theorem lw_p27 : lw_okq (⟨"LoanRoundsModel", "waitingIn", "(I)I"⟩, 15) := ⟨⟨by decide +kernel, by decide +kernel⟩, List.mem_of_getElem? (i := 539) (by decide +kernel), List.mem_of_getElem? (i := 702) (by decide +kernel), List.mem_of_getElem? (i := 703) (by decide +kernel)⟩
theorem lw_p28 : lw_okq (⟨"LoanRoundsModel", "inState", "(I)I"⟩, 15) := ⟨⟨by decide +kernel, by decide +kernel⟩, List.mem_of_getElem? (i := 539) (by decide +kernel), List.mem_of_getElem? (i := 706) (by decide +kernel), List.mem_of_getElem? (i := 707) (by decide +kernel)⟩
def lw_privs_2 : List (MethodName × Nat) := [(⟨"LoanRoundsModel", "found", "(IJ)I"⟩, 15), (⟨"LoanRoundsModel", "isLive", "(I)Z"⟩, 15), (⟨"LoanRoundsModel", "lives", "()I"⟩, 15), (⟨"LoanRoundsModel", "firstOf", "(I)I"⟩, 15), (⟨"LoanRoundsModel", "mayBeHad", "(I)Z"⟩, 15), (⟨"LoanRoundsModel", "lentOf", "(I)I"⟩, 15), (⟨"LoanRoundsModel", "weight", "(I)I"⟩, 15), (⟨"LoanRoundsModel", "lentTo", "(I)I"⟩, 15), (⟨"LoanRoundsModel", "lentWith", "(I)I"⟩, 15), (⟨"LoanRoundsModel", "again", "(I)V"⟩, 15), (⟨"LoanRoundsModel", "isTask", "(I)Z"⟩, 15), (⟨"LoanRoundsModel", "waitingIn", "(I)I"⟩, 15), (⟨"LoanRoundsModel", "inState", "(I)I"⟩, 15)]
theorem lw_r2 : ∀ q ∈ lw_privs_2, lw_okq q := List.forall_mem_cons.mpr ⟨lw_p16, List.forall_mem_cons.mpr ⟨lw_p17, List.forall_mem_cons.mpr ⟨lw_p18, List.forall_mem_cons.mpr ⟨lw_p19, List.forall_mem_cons.mpr ⟨lw_p20, List.forall_mem_cons.mpr ⟨lw_p21, List.forall_mem_cons.mpr ⟨lw_p22, List.forall_mem_cons.mpr ⟨lw_p23, List.forall_mem_cons.mpr ⟨lw_p24, List.forall_mem_cons.mpr ⟨lw_p25, List.forall_mem_cons.mpr ⟨lw_p26, List.forall_mem_cons.mpr ⟨lw_p27, List.forall_mem_cons.mpr ⟨lw_p28, fun _ h => absurd h List.not_mem_nil⟩⟩⟩⟩⟩⟩⟩⟩⟩⟩⟩⟩⟩
def lw_privs : List (MethodName × Nat) := lw_privs_1 ++ (lw_privs_2)
def lw_tbl : List Cond := k2_sels lw_privs ++ tables_1
theorem lw_privs_ok : ∀ q ∈ lw_privs, lw_okq q := by
  show ∀ q ∈ lw_privs_1 ++ (lw_privs_2), lw_okq q
  exact List.forall_mem_append.mpr ⟨lw_r1, lw_r2⟩
end
section
def R_G : String := "LoanRounds$Group"
def F_G : u_T := fun k => match k with
  | 0 => ("LoanRounds$Group", "limit", "I", false)
  | _ => ("LoanRounds$Group", "lent", "I", false)
def ft_G : Nat → FieldType := fun k => match k with
  | 0 => .int
  | _ => .int
theorem fn_G : ∀ a, a < 2 → ∀ b, b < 2 → a ≠ b → (F_G a).2.1 ≠ (F_G b).2.1 := by decide +kernel
theorem ft_G_ok : ∀ k, k < 2 → parseFieldDescriptor (F_G k).2.2.1 = some (ft_G k) := by decide +kernel
def R_Q : String := "LoanRounds$Queue"
def F_Q : u_T := fun k => match k with
  | 0 => ("LoanRounds$Queue", "loan", "I", false)
  | 1 => ("LoanRounds$Queue", "most", "I", false)
  | 2 => ("LoanRounds$Queue", "base", "I", false)
  | 3 => ("LoanRounds$Queue", "top", "I", false)
  | 4 => ("LoanRounds$Queue", "growth", "I", false)
  | _ => ("LoanRounds$Queue", "memory", "I", false)
def ft_Q : Nat → FieldType := fun k => match k with
  | 0 => .int
  | 1 => .int
  | 2 => .int
  | 3 => .int
  | 4 => .int
  | _ => .int
theorem fn_Q : ∀ a, a < 6 → ∀ b, b < 6 → a ≠ b → (F_Q a).2.1 ≠ (F_Q b).2.1 := by decide +kernel
theorem ft_Q_ok : ∀ k, k < 6 → parseFieldDescriptor (F_Q k).2.2.1 = some (ft_Q k) := by decide +kernel
def R_T : String := "LoanRounds$Task"
def F_T : u_T := fun k => match k with
  | 0 => ("LoanRounds$Task", "number", "I", true)
  | 1 => ("LoanRounds$Task", "queue", "LLoanRounds$Queue;", true)
  | 2 => ("LoanRounds$Task", "rank", "I", true)
  | 3 => ("LoanRounds$Task", "group", "LLoanRounds$Group;", true)
  | 4 => ("LoanRounds$Task", "key", "J", true)
  | 5 => ("LoanRounds$Task", "state", "I", false)
  | 6 => ("LoanRounds$Task", "tries", "I", false)
  | 7 => ("LoanRounds$Task", "dueAt", "I", false)
  | 8 => ("LoanRounds$Task", "endsAt", "I", false)
  | 9 => ("LoanRounds$Task", "worker", "I", false)
  | 10 => ("LoanRounds$Task", "token", "I", false)
  | _ => ("LoanRounds$Task", "doneAt", "I", false)
def ft_T : Nat → FieldType := fun k => match k with
  | 0 => .int
  | 1 => .object "LoanRounds$Queue"
  | 2 => .int
  | 3 => .object "LoanRounds$Group"
  | 4 => .long
  | 5 => .int
  | 6 => .int
  | 7 => .int
  | 8 => .int
  | 9 => .int
  | 10 => .int
  | _ => .int
theorem fn_T : ∀ a, a < 12 → ∀ b, b < 12 → a ≠ b → (F_T a).2.1 ≠ (F_T b).2.1 := by decide +kernel
theorem ft_T_ok : ∀ k, k < 12 → parseFieldDescriptor (F_T k).2.2.1 = some (ft_T k) := by decide +kernel
def R_X : String := "LoanRounds"
def F_X : u_T := fun k => match k with
  | 0 => ("LoanRounds", "queues", "[LLoanRounds$Queue;", true)
  | 1 => ("LoanRounds", "groups", "[LLoanRounds$Group;", true)
  | 2 => ("LoanRounds", "tasks", "Ljava/util/ArrayList;", true)
  | 3 => ("LoanRounds", "time", "I", false)
  | _ => ("LoanRounds", "tokens", "I", false)
def ft_X : Nat → FieldType := fun k => match k with
  | 0 => .array (.object "LoanRounds$Queue")
  | 1 => .array (.object "LoanRounds$Group")
  | 2 => .object "java/util/ArrayList"
  | 3 => .int
  | _ => .int
theorem fn_X : ∀ a, a < 5 → ∀ b, b < 5 → a ≠ b → (F_X a).2.1 ≠ (F_X b).2.1 := by decide +kernel
theorem ft_X_ok : ∀ k, k < 5 → parseFieldDescriptor (F_X k).2.2.1 = some (ft_X k) := by decide +kernel
def R_M : String := "LoanRoundsModel"
def F_M : u_T := fun k => match k with
  | 0 => ("LoanRoundsModel", "thrown", "I", false)
  | 1 => ("LoanRoundsModel", "time", "I", false)
  | 2 => ("LoanRoundsModel", "tasks", "I", false)
  | 3 => ("LoanRoundsModel", "tokens", "I", false)
  | 4 => ("LoanRoundsModel", "queue", "[I", true)
  | 5 => ("LoanRoundsModel", "rank", "[I", true)
  | 6 => ("LoanRoundsModel", "group", "[I", true)
  | 7 => ("LoanRoundsModel", "key", "[J", true)
  | 8 => ("LoanRoundsModel", "tries", "[I", true)
  | 9 => ("LoanRoundsModel", "state", "[I", true)
  | 10 => ("LoanRoundsModel", "when", "[I", true)
  | 11 => ("LoanRoundsModel", "worker", "[I", true)
  | 12 => ("LoanRoundsModel", "token", "[I", true)
  | 13 => ("LoanRoundsModel", "told", "[I", true)
  | _ => ("LoanRoundsModel", "limit", "[I", true)
def ft_M : Nat → FieldType := fun k => match k with
  | 0 => .int
  | 1 => .int
  | 2 => .int
  | 3 => .int
  | 4 => .array .int
  | 5 => .array .int
  | 6 => .array .int
  | 7 => .array .long
  | 8 => .array .int
  | 9 => .array .int
  | 10 => .array .int
  | 11 => .array .int
  | 12 => .array .int
  | 13 => .array .int
  | _ => .array .int
theorem fn_M : ∀ a, a < 15 → ∀ b, b < 15 → a ≠ b → (F_M a).2.1 ≠ (F_M b).2.1 := by decide +kernel
theorem ft_M_ok : ∀ k, k < 15 → parseFieldDescriptor (F_M k).2.2.1 = some (ft_M k) := by decide +kernel
def R_A : String := "java/util/ArrayList"
def F_A : u_T := fun k => match k with
  | 0 => ("java/util/ArrayList", "elementData", "[Ljava/lang/Object;", false)
  | 1 => ("java/util/ArrayList", "size", "I", false)
  | _ => ("java/util/AbstractList", "modCount", "I", false)
def ft_A : Nat → FieldType := fun k => match k with
  | 0 => .array (.object "java/lang/Object")
  | 1 => .int
  | _ => .int
theorem fn_A : ∀ a, a < 3 → ∀ b, b < 3 → a ≠ b → (F_A a).2.1 ≠ (F_A b).2.1 := by decide +kernel
theorem ft_A_ok : ∀ k, k < 3 → parseFieldDescriptor (F_A k).2.2.1 = some (ft_A k) := by decide +kernel
def R_V : String := "java/util/AbstractList"
def R_W : String := "java/util/AbstractCollection"
def R_O : String := "java/util/Objects"
def R_P : String := "jdk/internal/util/Preconditions"
def R_S : String := "jdk/internal/util/ArraysSupport"
def R_Y : String := "java/util/Arrays"
def R_L : String := "LoanRoundsLaw"
abbrev vwCl : List vw_C := [(R_G, F_G, 2), (R_Q, F_Q, 6), (R_T, F_T, 12), (R_X, F_X, 5), (R_M, F_M, 15), (R_A, F_A, 3)]
abbrev b_X_init : ByteArray := prog_1_method_1_code
def y_X_init : MethodName := ⟨R_X, "<init>", "()V"⟩
abbrev b_A_init : ByteArray := prog_20_method_2_code
def y_A_init : MethodName := ⟨R_A, "<init>", "()V"⟩
abbrev b_V_init : ByteArray := prog_19_method_1_code
def y_V_init : MethodName := ⟨R_V, "<init>", "()V"⟩
abbrev b_W_init : ByteArray := prog_18_method_1_code
def y_W_init : MethodName := ⟨R_W, "<init>", "()V"⟩
abbrev b_Q_init : ByteArray := prog_3_method_1_code
def y_Q_init : MethodName := ⟨R_Q, "<init>", "()V"⟩
abbrev b_G_init : ByteArray := prog_2_method_1_code
def y_G_init : MethodName := ⟨R_G, "<init>", "()V"⟩
abbrev b_X_beat : ByteArray := prog_1_method_4_code
def y_X_beat : MethodName := ⟨R_X, "beat", "(I)Z"⟩
abbrev b_X_lentWith : ByteArray := prog_1_method_21_code
def y_X_lentWith : MethodName := ⟨R_X, "lentWith", "(I)LLoanRounds$Task;"⟩
abbrev b_A_size : ByteArray := prog_20_method_8_code
def y_A_size : MethodName := ⟨R_A, "size", "()I"⟩
abbrev b_A_get : ByteArray := prog_20_method_20_code
def y_A_get : MethodName := ⟨R_A, "get", "(I)Ljava/lang/Object;"⟩
abbrev b_O_checkIndex : ByteArray := prog_25_method_17_code
def y_O_checkIndex : MethodName := ⟨R_O, "checkIndex", "(II)I"⟩
abbrev b_P_checkIndex : ByteArray := prog_29_method_11_code
def y_P_checkIndex : MethodName := ⟨R_P, "checkIndex", "(IILjava/util/function/BiFunction;)I"⟩
abbrev b_A_elementData : ByteArray := prog_20_method_18_code
def y_A_elementData : MethodName := ⟨R_A, "elementData", "(I)Ljava/lang/Object;"⟩
abbrev b_X_cancel : ByteArray := prog_1_method_7_code
def y_X_cancel : MethodName := ⟨R_X, "cancel", "(I)Z"⟩
abbrev b_X_taskAt : ByteArray := prog_1_method_20_code
def y_X_taskAt : MethodName := ⟨R_X, "taskAt", "(I)LLoanRounds$Task;"⟩
abbrev b_X_within : ByteArray := prog_1_method_15_code
def y_X_within : MethodName := ⟨R_X, "within", "(III)Z"⟩
abbrev b_T_isLive : ByteArray := prog_4_method_2_code
def y_T_isLive : MethodName := ⟨R_T, "isLive", "()Z"⟩
abbrev b_T_become : ByteArray := prog_4_method_8_code
def y_T_become : MethodName := ⟨R_T, "become", "(I)V"⟩
abbrev b_X_revive : ByteArray := prog_1_method_8_code
def y_X_revive : MethodName := ⟨R_X, "revive", "(I)Z"⟩
abbrev b_X_liveTasks : ByteArray := prog_1_method_24_code
def y_X_liveTasks : MethodName := ⟨R_X, "liveTasks", "()I"⟩
abbrev b_X_tasksThatAre : ByteArray := prog_1_method_25_code
def y_X_tasksThatAre : MethodName := ⟨R_X, "tasksThatAre", "(I)I"⟩
abbrev b_T_becomeWaiting : ByteArray := prog_4_method_9_code
def y_T_becomeWaiting : MethodName := ⟨R_T, "becomeWaiting", "(I)V"⟩
abbrev b_X_set : ByteArray := prog_1_method_9_code
def y_X_set : MethodName := ⟨R_X, "set", "(III)Z"⟩
abbrev b_X_groupAt : ByteArray := prog_1_method_19_code
def y_X_groupAt : MethodName := ⟨R_X, "groupAt", "(I)LLoanRounds$Group;"⟩
abbrev b_X_changeLimit : ByteArray := prog_1_method_17_code
def y_X_changeLimit : MethodName := ⟨R_X, "changeLimit", "(LLoanRounds$Group;I)Z"⟩
abbrev b_X_queueAt : ByteArray := prog_1_method_18_code
def y_X_queueAt : MethodName := ⟨R_X, "queueAt", "(I)LLoanRounds$Queue;"⟩
abbrev b_Q_change : ByteArray := prog_3_method_2_code
def y_Q_change : MethodName := ⟨R_Q, "change", "(II)Z"⟩
abbrev b_Q_mayBe : ByteArray := prog_3_method_3_code
def y_Q_mayBe : MethodName := ⟨R_Q, "mayBe", "(II)Z"⟩
abbrev b_X_first : ByteArray := prog_1_method_11_code
def y_X_first : MethodName := ⟨R_X, "first", "(I)I"⟩
abbrev b_X_firstOf : ByteArray := prog_1_method_23_code
def y_X_firstOf : MethodName := ⟨R_X, "firstOf", "(LLoanRounds$Queue;)LLoanRounds$Task;"⟩
abbrev b_T_mayBeHad : ByteArray := prog_4_method_4_code
def y_T_mayBeHad : MethodName := ⟨R_T, "mayBeHad", "(I)Z"⟩
abbrev b_T_isDue : ByteArray := prog_4_method_3_code
def y_T_isDue : MethodName := ⟨R_T, "isDue", "(I)Z"⟩
abbrev b_T_goesBefore : ByteArray := prog_4_method_7_code
def y_T_goesBefore : MethodName := ⟨R_T, "goesBefore", "(LLoanRounds$Task;I)Z"⟩
abbrev b_T_weight : ByteArray := prog_4_method_6_code
def y_T_weight : MethodName := ⟨R_T, "weight", "(I)I"⟩
abbrev b_X_next : ByteArray := prog_1_method_12_code
def y_X_next : MethodName := ⟨R_X, "next", "()I"⟩
abbrev b_T_comesAt : ByteArray := prog_4_method_13_code
def y_T_comesAt : MethodName := ⟨R_T, "comesAt", "()I"⟩
abbrev b_X_count : ByteArray := prog_1_method_13_code
def y_X_count : MethodName := ⟨R_X, "count", "(I)I"⟩
abbrev b_X_countOfOne : ByteArray := prog_1_method_14_code
def y_X_countOfOne : MethodName := ⟨R_X, "countOfOne", "(I)I"⟩
abbrev b_X_isWorker : ByteArray := prog_1_method_16_code
def y_X_isWorker : MethodName := ⟨R_X, "isWorker", "(I)Z"⟩
abbrev b_X_lentTo : ByteArray := prog_1_method_26_code
def y_X_lentTo : MethodName := ⟨R_X, "lentTo", "(I)I"⟩
abbrev b_X_waitingIn : ByteArray := prog_1_method_27_code
def y_X_waitingIn : MethodName := ⟨R_X, "waitingIn", "(LLoanRounds$Queue;)I"⟩
abbrev b_L_add : ByteArray := method_3_code
def y_L_add : MethodName := ⟨R_L, "add", "(LLoanRounds;IIIJI[J)I"⟩
abbrev b_X_add : ByteArray := prog_1_method_2_code
def y_X_add : MethodName := ⟨R_X, "add", "(IIIJI)I"⟩
abbrev b_X_numberUnder : ByteArray := prog_1_method_22_code
def y_X_numberUnder : MethodName := ⟨R_X, "numberUnder", "(LLoanRounds$Queue;J)I"⟩
abbrev b_T_holdsKey : ByteArray := prog_4_method_5_code
def y_T_holdsKey : MethodName := ⟨R_T, "holdsKey", "(I)Z"⟩
abbrev b_T_init : ByteArray := prog_4_method_1_code
def y_T_init : MethodName := ⟨R_T, "<init>", "(ILLoanRounds$Queue;ILLoanRounds$Group;JI)V"⟩
abbrev b_A_add : ByteArray := prog_20_method_25_code
def y_A_add : MethodName := ⟨R_A, "add", "(Ljava/lang/Object;)Z"⟩
abbrev b_A_add3 : ByteArray := prog_20_method_24_code
def y_A_add3 : MethodName := ⟨R_A, "add", "(Ljava/lang/Object;[Ljava/lang/Object;I)V"⟩
abbrev b_A_grow : ByteArray := prog_20_method_7_code
def y_A_grow : MethodName := ⟨R_A, "grow", "()[Ljava/lang/Object;"⟩
abbrev b_A_grow1 : ByteArray := prog_20_method_6_code
def y_A_grow1 : MethodName := ⟨R_A, "grow", "(I)[Ljava/lang/Object;"⟩
abbrev b_S_newLength : ByteArray := prog_28_method_27_code
def y_S_newLength : MethodName := ⟨R_S, "newLength", "(III)I"⟩
abbrev b_S_hugeLength : ByteArray := prog_28_method_28_code
def y_S_hugeLength : MethodName := ⟨R_S, "hugeLength", "(II)I"⟩
abbrev b_Y_copyOf : ByteArray := prog_21_method_119_code
def y_Y_copyOf : MethodName := ⟨R_Y, "copyOf", "([Ljava/lang/Object;I)[Ljava/lang/Object;"⟩
abbrev b_Y_copyOf3 : ByteArray := prog_21_method_120_code
def y_Y_copyOf3 : MethodName := ⟨R_Y, "copyOf", "([Ljava/lang/Object;ILjava/lang/Class;)[Ljava/lang/Object;"⟩
abbrev b_L_lend : ByteArray := method_4_code
def y_L_lend : MethodName := ⟨R_L, "lend", "(LLoanRounds;II[J)I"⟩
abbrev b_X_lend : ByteArray := prog_1_method_3_code
def y_X_lend : MethodName := ⟨R_X, "lend", "(II)I"⟩
abbrev b_T_becomeLent : ByteArray := prog_4_method_10_code
def y_T_becomeLent : MethodName := ⟨R_T, "becomeLent", "(III)V"⟩
abbrev b_L_end : ByteArray := method_5_code
def y_L_end : MethodName := ⟨R_L, "end", "(LLoanRounds;II[J)I"⟩
abbrev b_X_end : ByteArray := prog_1_method_5_code
def y_X_end : MethodName := ⟨R_X, "end", "(II)I"⟩
abbrev b_T_becomeDone : ByteArray := prog_4_method_11_code
def y_T_becomeDone : MethodName := ⟨R_T, "becomeDone", "(I)V"⟩
abbrev b_T_tryAgain : ByteArray := prog_4_method_12_code
def y_T_tryAgain : MethodName := ⟨R_T, "tryAgain", "(I)V"⟩
abbrev b_Q_pauseAfter : ByteArray := prog_3_method_4_code
def y_Q_pauseAfter : MethodName := ⟨R_Q, "pauseAfter", "(I)I"⟩
abbrev b_L_tick : ByteArray := method_6_code
def y_L_tick : MethodName := ⟨R_L, "tick", "(LLoanRounds;I[J)I"⟩
abbrev b_X_tick : ByteArray := prog_1_method_6_code
def y_X_tick : MethodName := ⟨R_X, "tick", "(I)I"⟩
abbrev b_L_task : ByteArray := method_7_code
def y_L_task : MethodName := ⟨R_L, "task", "(LLoanRounds;II[J)I"⟩
abbrev b_X_task : ByteArray := prog_1_method_10_code
def y_X_task : MethodName := ⟨R_X, "task", "(II)I"⟩
abbrev b_M_init : ByteArray := prog_6_method_1_code
def y_M_init : MethodName := ⟨R_M, "<init>", "()V"⟩
abbrev b_M_thrown : ByteArray := prog_6_method_2_code
def y_M_thrown : MethodName := ⟨R_M, "thrown", "()I"⟩
abbrev b_M_add : ByteArray := prog_6_method_8_code
def y_M_add : MethodName := ⟨R_M, "add", "(IIIJI)I"⟩
abbrev b_M_within : ByteArray := prog_6_method_4_code
def y_M_within : MethodName := ⟨R_M, "within", "(III)Z"⟩
abbrev b_M_raise : ByteArray := prog_6_method_3_code
def y_M_raise : MethodName := ⟨R_M, "raise", "(I)I"⟩
abbrev b_M_found : ByteArray := prog_6_method_7_code
def y_M_found : MethodName := ⟨R_M, "found", "(IJ)I"⟩
abbrev b_M_isLive : ByteArray := prog_6_method_5_code
def y_M_isLive : MethodName := ⟨R_M, "isLive", "(I)Z"⟩
abbrev b_M_lives : ByteArray := prog_6_method_6_code
def y_M_lives : MethodName := ⟨R_M, "lives", "()I"⟩
abbrev b_M_lend : ByteArray := prog_6_method_14_code
def y_M_lend : MethodName := ⟨R_M, "lend", "(II)I"⟩
abbrev b_M_firstOf : ByteArray := prog_6_method_13_code
def y_M_firstOf : MethodName := ⟨R_M, "firstOf", "(I)I"⟩
abbrev b_M_mayBeHad : ByteArray := prog_6_method_12_code
def y_M_mayBeHad : MethodName := ⟨R_M, "mayBeHad", "(I)Z"⟩
abbrev b_M_lentOf : ByteArray := prog_6_method_9_code
def y_M_lentOf : MethodName := ⟨R_M, "lentOf", "(I)I"⟩
abbrev b_M_weight : ByteArray := prog_6_method_11_code
def y_M_weight : MethodName := ⟨R_M, "weight", "(I)I"⟩
abbrev b_M_lentTo : ByteArray := prog_6_method_10_code
def y_M_lentTo : MethodName := ⟨R_M, "lentTo", "(I)I"⟩
abbrev b_M_beat : ByteArray := prog_6_method_16_code
def y_M_beat : MethodName := ⟨R_M, "beat", "(I)Z"⟩
abbrev b_M_lentWith : ByteArray := prog_6_method_15_code
def y_M_lentWith : MethodName := ⟨R_M, "lentWith", "(I)I"⟩
abbrev b_M_end : ByteArray := prog_6_method_18_code
def y_M_end : MethodName := ⟨R_M, "end", "(II)I"⟩
abbrev b_M_again : ByteArray := prog_6_method_17_code
def y_M_again : MethodName := ⟨R_M, "again", "(I)V"⟩
abbrev b_M_tick : ByteArray := prog_6_method_19_code
def y_M_tick : MethodName := ⟨R_M, "tick", "(I)I"⟩
abbrev b_M_cancel : ByteArray := prog_6_method_21_code
def y_M_cancel : MethodName := ⟨R_M, "cancel", "(I)Z"⟩
abbrev b_M_isTask : ByteArray := prog_6_method_20_code
def y_M_isTask : MethodName := ⟨R_M, "isTask", "(I)Z"⟩
abbrev b_M_revive : ByteArray := prog_6_method_22_code
def y_M_revive : MethodName := ⟨R_M, "revive", "(I)Z"⟩
abbrev b_M_set : ByteArray := prog_6_method_25_code
def y_M_set : MethodName := ⟨R_M, "set", "(III)Z"⟩
abbrev b_M_least : ByteArray := prog_6_method_23_code
def y_M_least : MethodName := ⟨R_M, "least", "(I)I"⟩
abbrev b_M_greatest : ByteArray := prog_6_method_24_code
def y_M_greatest : MethodName := ⟨R_M, "greatest", "(I)I"⟩
abbrev b_M_task : ByteArray := prog_6_method_26_code
def y_M_task : MethodName := ⟨R_M, "task", "(II)I"⟩
abbrev b_M_first : ByteArray := prog_6_method_27_code
def y_M_first : MethodName := ⟨R_M, "first", "(I)I"⟩
abbrev b_M_next : ByteArray := prog_6_method_28_code
def y_M_next : MethodName := ⟨R_M, "next", "()I"⟩
abbrev b_M_count : ByteArray := prog_6_method_31_code
def y_M_count : MethodName := ⟨R_M, "count", "(I)I"⟩
abbrev b_M_waitingIn : ByteArray := prog_6_method_30_code
def y_M_waitingIn : MethodName := ⟨R_M, "waitingIn", "(I)I"⟩
abbrev b_M_inState : ByteArray := prog_6_method_29_code
def y_M_inState : MethodName := ⟨R_M, "inState", "(I)I"⟩
abbrev b_L_law : ByteArray := code
def y_L_law : MethodName := ⟨R_L, "law", "([I)Z"⟩
end
section
theorem d_X_init_0 : decode b_X_init 0 = .ok (.aload_n 0, 1) := by decide +kernel
theorem d_X_init_1 : decode b_X_init 1 = .ok (.invokespecial 1, 3) := by decide +kernel
theorem d_X_init_4 : decode b_X_init 4 = .ok (.aload_n 0, 1) := by decide +kernel
theorem d_X_init_5 : decode b_X_init 5 = .ok (.iconst 4, 1) := by decide +kernel
theorem d_X_init_6 : decode b_X_init 6 = .ok (.anewarray 9, 3) := by decide +kernel
theorem d_X_init_9 : decode b_X_init 9 = .ok (.putfield 11, 3) := by decide +kernel
theorem d_X_init_12 : decode b_X_init 12 = .ok (.aload_n 0, 1) := by decide +kernel
theorem d_X_init_13 : decode b_X_init 13 = .ok (.bipush 8, 2) := by decide +kernel
theorem d_X_init_15 : decode b_X_init 15 = .ok (.anewarray 15, 3) := by decide +kernel
theorem d_X_init_18 : decode b_X_init 18 = .ok (.putfield 17, 3) := by decide +kernel
theorem d_X_init_21 : decode b_X_init 21 = .ok (.aload_n 0, 1) := by decide +kernel
theorem d_X_init_22 : decode b_X_init 22 = .ok (.new 21, 3) := by decide +kernel
theorem d_X_init_25 : decode b_X_init 25 = .ok (.dup, 1) := by decide +kernel
theorem d_X_init_26 : decode b_X_init 26 = .ok (.invokespecial 23, 3) := by decide +kernel
theorem d_X_init_29 : decode b_X_init 29 = .ok (.putfield 24, 3) := by decide +kernel
theorem d_X_init_32 : decode b_X_init 32 = .ok (.aload_n 0, 1) := by decide +kernel
theorem d_X_init_33 : decode b_X_init 33 = .ok (.iconst 0, 1) := by decide +kernel
theorem d_X_init_34 : decode b_X_init 34 = .ok (.putfield 28, 3) := by decide +kernel
theorem d_X_init_37 : decode b_X_init 37 = .ok (.aload_n 0, 1) := by decide +kernel
theorem d_X_init_38 : decode b_X_init 38 = .ok (.iconst 0, 1) := by decide +kernel
theorem d_X_init_39 : decode b_X_init 39 = .ok (.putfield 32, 3) := by decide +kernel
theorem d_X_init_42 : decode b_X_init 42 = .ok (.iconst 0, 1) := by decide +kernel
theorem d_X_init_43 : decode b_X_init 43 = .ok (.istore_n 1, 1) := by decide +kernel
theorem d_X_init_44 : decode b_X_init 44 = .ok (.iload_n 1, 1) := by decide +kernel
theorem d_X_init_45 : decode b_X_init 45 = .ok (.aload_n 0, 1) := by decide +kernel
theorem d_X_init_46 : decode b_X_init 46 = .ok (.getfield 11, 3) := by decide +kernel
theorem d_X_init_49 : decode b_X_init 49 = .ok (.arraylength, 1) := by decide +kernel
theorem d_X_init_50 : decode b_X_init 50 = .ok (.if_icmp .ge 22, 3) := by decide +kernel
theorem d_X_init_53 : decode b_X_init 53 = .ok (.aload_n 0, 1) := by decide +kernel
theorem d_X_init_54 : decode b_X_init 54 = .ok (.getfield 11, 3) := by decide +kernel
theorem d_X_init_57 : decode b_X_init 57 = .ok (.iload_n 1, 1) := by decide +kernel
theorem d_X_init_58 : decode b_X_init 58 = .ok (.new 9, 3) := by decide +kernel
theorem d_X_init_61 : decode b_X_init 61 = .ok (.dup, 1) := by decide +kernel
theorem d_X_init_62 : decode b_X_init 62 = .ok (.invokespecial 35, 3) := by decide +kernel
theorem d_X_init_65 : decode b_X_init 65 = .ok (.aastore, 1) := by decide +kernel
theorem d_X_init_66 : decode b_X_init 66 = .ok (.iinc 1 1, 3) := by decide +kernel
theorem d_X_init_69 : decode b_X_init 69 = .ok (.goto (-25), 3) := by decide +kernel
theorem d_X_init_72 : decode b_X_init 72 = .ok (.iconst 0, 1) := by decide +kernel
theorem d_X_init_73 : decode b_X_init 73 = .ok (.istore_n 1, 1) := by decide +kernel
theorem d_X_init_74 : decode b_X_init 74 = .ok (.iload_n 1, 1) := by decide +kernel
theorem d_X_init_75 : decode b_X_init 75 = .ok (.aload_n 0, 1) := by decide +kernel
theorem d_X_init_76 : decode b_X_init 76 = .ok (.getfield 17, 3) := by decide +kernel
theorem d_X_init_79 : decode b_X_init 79 = .ok (.arraylength, 1) := by decide +kernel
theorem d_X_init_80 : decode b_X_init 80 = .ok (.if_icmp .ge 22, 3) := by decide +kernel
theorem d_X_init_83 : decode b_X_init 83 = .ok (.aload_n 0, 1) := by decide +kernel
theorem d_X_init_84 : decode b_X_init 84 = .ok (.getfield 17, 3) := by decide +kernel
theorem d_X_init_87 : decode b_X_init 87 = .ok (.iload_n 1, 1) := by decide +kernel
theorem d_X_init_88 : decode b_X_init 88 = .ok (.new 15, 3) := by decide +kernel
theorem d_X_init_91 : decode b_X_init 91 = .ok (.dup, 1) := by decide +kernel
theorem d_X_init_92 : decode b_X_init 92 = .ok (.invokespecial 36, 3) := by decide +kernel
theorem d_X_init_95 : decode b_X_init 95 = .ok (.aastore, 1) := by decide +kernel
theorem d_X_init_96 : decode b_X_init 96 = .ok (.iinc 1 1, 3) := by decide +kernel
theorem d_X_init_99 : decode b_X_init 99 = .ok (.goto (-25), 3) := by decide +kernel
theorem d_X_init_102 : decode b_X_init 102 = .ok (.return_, 1) := by decide +kernel
theorem d_A_init_0 : decode b_A_init 0 = .ok (.aload_n 0, 1) := by decide +kernel
theorem d_A_init_1 : decode b_A_init 1 = .ok (.invokespecial 1, 3) := by decide +kernel
theorem d_A_init_4 : decode b_A_init 4 = .ok (.aload_n 0, 1) := by decide +kernel
theorem d_A_init_5 : decode b_A_init 5 = .ok (.getstatic 39, 3) := by decide +kernel
theorem d_A_init_8 : decode b_A_init 8 = .ok (.putfield 9, 3) := by decide +kernel
theorem d_A_init_11 : decode b_A_init 11 = .ok (.return_, 1) := by decide +kernel
theorem d_V_init_0 : decode b_V_init 0 = .ok (.aload_n 0, 1) := by decide +kernel
theorem d_V_init_1 : decode b_V_init 1 = .ok (.invokespecial 1, 3) := by decide +kernel
theorem d_V_init_4 : decode b_V_init 4 = .ok (.aload_n 0, 1) := by decide +kernel
theorem d_V_init_5 : decode b_V_init 5 = .ok (.iconst 0, 1) := by decide +kernel
theorem d_V_init_6 : decode b_V_init 6 = .ok (.putfield 7, 3) := by decide +kernel
theorem d_V_init_9 : decode b_V_init 9 = .ok (.return_, 1) := by decide +kernel
theorem d_W_init_0 : decode b_W_init 0 = .ok (.aload_n 0, 1) := by decide +kernel
theorem d_W_init_1 : decode b_W_init 1 = .ok (.invokespecial 1, 3) := by decide +kernel
theorem d_W_init_4 : decode b_W_init 4 = .ok (.return_, 1) := by decide +kernel
theorem d_Q_init_0 : decode b_Q_init 0 = .ok (.aload_n 0, 1) := by decide +kernel
theorem d_Q_init_1 : decode b_Q_init 1 = .ok (.invokespecial 3, 3) := by decide +kernel
theorem d_Q_init_4 : decode b_Q_init 4 = .ok (.aload_n 0, 1) := by decide +kernel
theorem d_Q_init_5 : decode b_Q_init 5 = .ok (.bipush 10, 2) := by decide +kernel
theorem d_Q_init_7 : decode b_Q_init 7 = .ok (.putfield 9, 3) := by decide +kernel
theorem d_Q_init_10 : decode b_Q_init 10 = .ok (.aload_n 0, 1) := by decide +kernel
theorem d_Q_init_11 : decode b_Q_init 11 = .ok (.iconst 5, 1) := by decide +kernel
theorem d_Q_init_12 : decode b_Q_init 12 = .ok (.putfield 15, 3) := by decide +kernel
theorem d_Q_init_15 : decode b_Q_init 15 = .ok (.aload_n 0, 1) := by decide +kernel
theorem d_Q_init_16 : decode b_Q_init 16 = .ok (.iconst 1, 1) := by decide +kernel
theorem d_Q_init_17 : decode b_Q_init 17 = .ok (.putfield 18, 3) := by decide +kernel
theorem d_Q_init_20 : decode b_Q_init 20 = .ok (.aload_n 0, 1) := by decide +kernel
theorem d_Q_init_21 : decode b_Q_init 21 = .ok (.bipush 60, 2) := by decide +kernel
theorem d_Q_init_23 : decode b_Q_init 23 = .ok (.putfield 21, 3) := by decide +kernel
theorem d_Q_init_26 : decode b_Q_init 26 = .ok (.aload_n 0, 1) := by decide +kernel
theorem d_Q_init_27 : decode b_Q_init 27 = .ok (.iconst 0, 1) := by decide +kernel
theorem d_Q_init_28 : decode b_Q_init 28 = .ok (.putfield 24, 3) := by decide +kernel
theorem d_Q_init_31 : decode b_Q_init 31 = .ok (.aload_n 0, 1) := by decide +kernel
theorem d_Q_init_32 : decode b_Q_init 32 = .ok (.iconst 0, 1) := by decide +kernel
theorem d_Q_init_33 : decode b_Q_init 33 = .ok (.putfield 27, 3) := by decide +kernel
theorem d_Q_init_36 : decode b_Q_init 36 = .ok (.return_, 1) := by decide +kernel
theorem d_G_init_0 : decode b_G_init 0 = .ok (.aload_n 0, 1) := by decide +kernel
theorem d_G_init_1 : decode b_G_init 1 = .ok (.invokespecial 3, 3) := by decide +kernel
theorem d_G_init_4 : decode b_G_init 4 = .ok (.aload_n 0, 1) := by decide +kernel
theorem d_G_init_5 : decode b_G_init 5 = .ok (.bipush 8, 2) := by decide +kernel
theorem d_G_init_7 : decode b_G_init 7 = .ok (.putfield 9, 3) := by decide +kernel
theorem d_G_init_10 : decode b_G_init 10 = .ok (.aload_n 0, 1) := by decide +kernel
theorem d_G_init_11 : decode b_G_init 11 = .ok (.iconst 0, 1) := by decide +kernel
theorem d_G_init_12 : decode b_G_init 12 = .ok (.putfield 15, 3) := by decide +kernel
theorem d_G_init_15 : decode b_G_init 15 = .ok (.return_, 1) := by decide +kernel
theorem d_X_beat_0 : decode b_X_beat 0 = .ok (.aload_n 0, 1) := by decide +kernel
theorem d_X_beat_1 : decode b_X_beat 1 = .ok (.iload_n 1, 1) := by decide +kernel
theorem d_X_beat_2 : decode b_X_beat 2 = .ok (.invokevirtual 101, 3) := by decide +kernel
theorem d_X_beat_5 : decode b_X_beat 5 = .ok (.astore_n 2, 1) := by decide +kernel
theorem d_X_beat_6 : decode b_X_beat 6 = .ok (.aload_n 2, 1) := by decide +kernel
theorem d_X_beat_7 : decode b_X_beat 7 = .ok (.ifnonnull 5, 3) := by decide +kernel
theorem d_X_beat_10 : decode b_X_beat 10 = .ok (.iconst 0, 1) := by decide +kernel
theorem d_X_beat_11 : decode b_X_beat 11 = .ok (.ireturn, 1) := by decide +kernel
theorem d_X_beat_12 : decode b_X_beat 12 = .ok (.aload_n 2, 1) := by decide +kernel
theorem d_X_beat_13 : decode b_X_beat 13 = .ok (.aload_n 0, 1) := by decide +kernel
theorem d_X_beat_14 : decode b_X_beat 14 = .ok (.getfield 28, 3) := by decide +kernel
theorem d_X_beat_17 : decode b_X_beat 17 = .ok (.aload_n 2, 1) := by decide +kernel
theorem d_X_beat_18 : decode b_X_beat 18 = .ok (.getfield 105, 3) := by decide +kernel
theorem d_X_beat_21 : decode b_X_beat 21 = .ok (.getfield 109, 3) := by decide +kernel
theorem d_X_beat_24 : decode b_X_beat 24 = .ok (.iadd, 1) := by decide +kernel
theorem d_X_beat_25 : decode b_X_beat 25 = .ok (.putfield 112, 3) := by decide +kernel
theorem d_X_beat_28 : decode b_X_beat 28 = .ok (.iconst 1, 1) := by decide +kernel
theorem d_X_beat_29 : decode b_X_beat 29 = .ok (.ireturn, 1) := by decide +kernel
theorem d_X_lentWith_0 : decode b_X_lentWith 0 = .ok (.iconst 0, 1) := by decide +kernel
theorem d_X_lentWith_1 : decode b_X_lentWith 1 = .ok (.istore_n 2, 1) := by decide +kernel
theorem d_X_lentWith_2 : decode b_X_lentWith 2 = .ok (.iload_n 2, 1) := by decide +kernel
theorem d_X_lentWith_3 : decode b_X_lentWith 3 = .ok (.aload_n 0, 1) := by decide +kernel
theorem d_X_lentWith_4 : decode b_X_lentWith 4 = .ok (.getfield 24, 3) := by decide +kernel
theorem d_X_lentWith_7 : decode b_X_lentWith 7 = .ok (.invokevirtual 66, 3) := by decide +kernel
theorem d_X_lentWith_10 : decode b_X_lentWith 10 = .ok (.if_icmp .ge 39, 3) := by decide +kernel
theorem d_X_lentWith_13 : decode b_X_lentWith 13 = .ok (.aload_n 0, 1) := by decide +kernel
theorem d_X_lentWith_14 : decode b_X_lentWith 14 = .ok (.getfield 24, 3) := by decide +kernel
theorem d_X_lentWith_17 : decode b_X_lentWith 17 = .ok (.iload_n 2, 1) := by decide +kernel
theorem d_X_lentWith_18 : decode b_X_lentWith 18 = .ok (.invokevirtual 140, 3) := by decide +kernel
theorem d_X_lentWith_21 : decode b_X_lentWith 21 = .ok (.checkcast 74, 3) := by decide +kernel
theorem d_X_lentWith_24 : decode b_X_lentWith 24 = .ok (.astore_n 3, 1) := by decide +kernel
theorem d_X_lentWith_25 : decode b_X_lentWith 25 = .ok (.aload_n 3, 1) := by decide +kernel
theorem d_X_lentWith_26 : decode b_X_lentWith 26 = .ok (.getfield 144, 3) := by decide +kernel
theorem d_X_lentWith_29 : decode b_X_lentWith 29 = .ok (.iconst 1, 1) := by decide +kernel
theorem d_X_lentWith_30 : decode b_X_lentWith 30 = .ok (.if_icmp .ne 13, 3) := by decide +kernel
theorem d_X_lentWith_33 : decode b_X_lentWith 33 = .ok (.aload_n 3, 1) := by decide +kernel
theorem d_X_lentWith_34 : decode b_X_lentWith 34 = .ok (.getfield 173, 3) := by decide +kernel
theorem d_X_lentWith_37 : decode b_X_lentWith 37 = .ok (.iload_n 1, 1) := by decide +kernel
theorem d_X_lentWith_38 : decode b_X_lentWith 38 = .ok (.if_icmp .ne 5, 3) := by decide +kernel
theorem d_X_lentWith_41 : decode b_X_lentWith 41 = .ok (.aload_n 3, 1) := by decide +kernel
theorem d_X_lentWith_42 : decode b_X_lentWith 42 = .ok (.areturn, 1) := by decide +kernel
theorem d_X_lentWith_43 : decode b_X_lentWith 43 = .ok (.iinc 2 1, 3) := by decide +kernel
theorem d_X_lentWith_46 : decode b_X_lentWith 46 = .ok (.goto (-44), 3) := by decide +kernel
theorem d_X_lentWith_49 : decode b_X_lentWith 49 = .ok (.aconst_null, 1) := by decide +kernel
theorem d_X_lentWith_50 : decode b_X_lentWith 50 = .ok (.areturn, 1) := by decide +kernel
theorem d_A_size_0 : decode b_A_size 0 = .ok (.aload_n 0, 1) := by decide +kernel
theorem d_A_size_1 : decode b_A_size 1 = .ok (.getfield 48, 3) := by decide +kernel
theorem d_A_size_4 : decode b_A_size 4 = .ok (.ireturn, 1) := by decide +kernel
theorem d_A_get_0 : decode b_A_get 0 = .ok (.iload_n 1, 1) := by decide +kernel
theorem d_A_get_1 : decode b_A_get 1 = .ok (.aload_n 0, 1) := by decide +kernel
theorem d_A_get_2 : decode b_A_get 2 = .ok (.getfield 48, 3) := by decide +kernel
theorem d_A_get_5 : decode b_A_get 5 = .ok (.invokestatic 118, 3) := by decide +kernel
theorem d_A_get_8 : decode b_A_get 8 = .ok (.pop, 1) := by decide +kernel
theorem d_A_get_9 : decode b_A_get 9 = .ok (.aload_n 0, 1) := by decide +kernel
theorem d_A_get_10 : decode b_A_get 10 = .ok (.iload_n 1, 1) := by decide +kernel
theorem d_A_get_11 : decode b_A_get 11 = .ok (.invokevirtual 123, 3) := by decide +kernel
theorem d_A_get_14 : decode b_A_get 14 = .ok (.areturn, 1) := by decide +kernel
theorem d_O_checkIndex_0 : decode b_O_checkIndex 0 = .ok (.iload_n 0, 1) := by decide +kernel
theorem d_O_checkIndex_1 : decode b_O_checkIndex 1 = .ok (.iload_n 1, 1) := by decide +kernel
theorem d_O_checkIndex_2 : decode b_O_checkIndex 2 = .ok (.aconst_null, 1) := by decide +kernel
theorem d_O_checkIndex_3 : decode b_O_checkIndex 3 = .ok (.invokestatic 105, 3) := by decide +kernel
theorem d_O_checkIndex_6 : decode b_O_checkIndex 6 = .ok (.ireturn, 1) := by decide +kernel
theorem d_P_checkIndex_0 : decode b_P_checkIndex 0 = .ok (.iload_n 0, 1) := by decide +kernel
theorem d_P_checkIndex_1 : decode b_P_checkIndex 1 = .ok (.ifCond .lt 8, 3) := by decide +kernel
theorem d_P_checkIndex_4 : decode b_P_checkIndex 4 = .ok (.iload_n 0, 1) := by decide +kernel
theorem d_P_checkIndex_5 : decode b_P_checkIndex 5 = .ok (.iload_n 1, 1) := by decide +kernel
theorem d_P_checkIndex_6 : decode b_P_checkIndex 6 = .ok (.if_icmp .lt 10, 3) := by decide +kernel
theorem d_P_checkIndex_9 : decode b_P_checkIndex 9 = .ok (.aload_n 2, 1) := by decide +kernel
theorem d_P_checkIndex_10 : decode b_P_checkIndex 10 = .ok (.iload_n 0, 1) := by decide +kernel
theorem d_P_checkIndex_11 : decode b_P_checkIndex 11 = .ok (.iload_n 1, 1) := by decide +kernel
theorem d_P_checkIndex_12 : decode b_P_checkIndex 12 = .ok (.invokestatic 95, 3) := by decide +kernel
theorem d_P_checkIndex_15 : decode b_P_checkIndex 15 = .ok (.athrow, 1) := by decide +kernel
theorem d_P_checkIndex_16 : decode b_P_checkIndex 16 = .ok (.iload_n 0, 1) := by decide +kernel
theorem d_P_checkIndex_17 : decode b_P_checkIndex 17 = .ok (.ireturn, 1) := by decide +kernel
theorem d_A_elementData_0 : decode b_A_elementData 0 = .ok (.aload_n 0, 1) := by decide +kernel
theorem d_A_elementData_1 : decode b_A_elementData 1 = .ok (.getfield 9, 3) := by decide +kernel
theorem d_A_elementData_4 : decode b_A_elementData 4 = .ok (.iload_n 1, 1) := by decide +kernel
theorem d_A_elementData_5 : decode b_A_elementData 5 = .ok (.aaload, 1) := by decide +kernel
theorem d_A_elementData_6 : decode b_A_elementData 6 = .ok (.areturn, 1) := by decide +kernel
theorem d_X_cancel_0 : decode b_X_cancel 0 = .ok (.aload_n 0, 1) := by decide +kernel
theorem d_X_cancel_1 : decode b_X_cancel 1 = .ok (.iload_n 1, 1) := by decide +kernel
theorem d_X_cancel_2 : decode b_X_cancel 2 = .ok (.invokevirtual 147, 3) := by decide +kernel
theorem d_X_cancel_5 : decode b_X_cancel 5 = .ok (.astore_n 2, 1) := by decide +kernel
theorem d_X_cancel_6 : decode b_X_cancel 6 = .ok (.aload_n 2, 1) := by decide +kernel
theorem d_X_cancel_7 : decode b_X_cancel 7 = .ok (.ifnull 10, 3) := by decide +kernel
theorem d_X_cancel_10 : decode b_X_cancel 10 = .ok (.aload_n 2, 1) := by decide +kernel
theorem d_X_cancel_11 : decode b_X_cancel 11 = .ok (.invokevirtual 150, 3) := by decide +kernel
theorem d_X_cancel_14 : decode b_X_cancel 14 = .ok (.ifCond .ne 5, 3) := by decide +kernel
theorem d_X_cancel_17 : decode b_X_cancel 17 = .ok (.iconst 0, 1) := by decide +kernel
theorem d_X_cancel_18 : decode b_X_cancel 18 = .ok (.ireturn, 1) := by decide +kernel
theorem d_X_cancel_19 : decode b_X_cancel 19 = .ok (.aload_n 2, 1) := by decide +kernel
theorem d_X_cancel_20 : decode b_X_cancel 20 = .ok (.iconst 4, 1) := by decide +kernel
theorem d_X_cancel_21 : decode b_X_cancel 21 = .ok (.invokevirtual 154, 3) := by decide +kernel
theorem d_X_cancel_24 : decode b_X_cancel 24 = .ok (.iconst 1, 1) := by decide +kernel
theorem d_X_cancel_25 : decode b_X_cancel 25 = .ok (.ireturn, 1) := by decide +kernel
theorem d_X_taskAt_0 : decode b_X_taskAt 0 = .ok (.iload_n 1, 1) := by decide +kernel
theorem d_X_taskAt_1 : decode b_X_taskAt 1 = .ok (.iconst 0, 1) := by decide +kernel
theorem d_X_taskAt_2 : decode b_X_taskAt 2 = .ok (.aload_n 0, 1) := by decide +kernel
theorem d_X_taskAt_3 : decode b_X_taskAt 3 = .ok (.getfield 24, 3) := by decide +kernel
theorem d_X_taskAt_6 : decode b_X_taskAt 6 = .ok (.invokevirtual 66, 3) := by decide +kernel
theorem d_X_taskAt_9 : decode b_X_taskAt 9 = .ok (.iconst 1, 1) := by decide +kernel
theorem d_X_taskAt_10 : decode b_X_taskAt 10 = .ok (.isub, 1) := by decide +kernel
theorem d_X_taskAt_11 : decode b_X_taskAt 11 = .ok (.invokestatic 41, 3) := by decide +kernel
theorem d_X_taskAt_14 : decode b_X_taskAt 14 = .ok (.ifCond .eq 17, 3) := by decide +kernel
theorem d_X_taskAt_17 : decode b_X_taskAt 17 = .ok (.aload_n 0, 1) := by decide +kernel
theorem d_X_taskAt_18 : decode b_X_taskAt 18 = .ok (.getfield 24, 3) := by decide +kernel
theorem d_X_taskAt_21 : decode b_X_taskAt 21 = .ok (.iload_n 1, 1) := by decide +kernel
theorem d_X_taskAt_22 : decode b_X_taskAt 22 = .ok (.invokevirtual 140, 3) := by decide +kernel
theorem d_X_taskAt_25 : decode b_X_taskAt 25 = .ok (.checkcast 74, 3) := by decide +kernel
theorem d_X_taskAt_28 : decode b_X_taskAt 28 = .ok (.goto 4, 3) := by decide +kernel
theorem d_X_taskAt_31 : decode b_X_taskAt 31 = .ok (.aconst_null, 1) := by decide +kernel
theorem d_X_taskAt_32 : decode b_X_taskAt 32 = .ok (.areturn, 1) := by decide +kernel
theorem d_X_within_0 : decode b_X_within 0 = .ok (.iload_n 0, 1) := by decide +kernel
theorem d_X_within_1 : decode b_X_within 1 = .ok (.iload_n 1, 1) := by decide +kernel
theorem d_X_within_2 : decode b_X_within 2 = .ok (.if_icmp .lt 12, 3) := by decide +kernel
theorem d_X_within_5 : decode b_X_within 5 = .ok (.iload_n 0, 1) := by decide +kernel
theorem d_X_within_6 : decode b_X_within 6 = .ok (.iload_n 2, 1) := by decide +kernel
theorem d_X_within_7 : decode b_X_within 7 = .ok (.if_icmp .gt 7, 3) := by decide +kernel
theorem d_X_within_10 : decode b_X_within 10 = .ok (.iconst 1, 1) := by decide +kernel
theorem d_X_within_11 : decode b_X_within 11 = .ok (.goto 4, 3) := by decide +kernel
theorem d_X_within_14 : decode b_X_within 14 = .ok (.iconst 0, 1) := by decide +kernel
theorem d_X_within_15 : decode b_X_within 15 = .ok (.ireturn, 1) := by decide +kernel
theorem d_T_isLive_0 : decode b_T_isLive 0 = .ok (.aload_n 0, 1) := by decide +kernel
theorem d_T_isLive_1 : decode b_T_isLive 1 = .ok (.getfield 9, 3) := by decide +kernel
theorem d_T_isLive_4 : decode b_T_isLive 4 = .ok (.ifCond .eq 11, 3) := by decide +kernel
theorem d_T_isLive_7 : decode b_T_isLive 7 = .ok (.aload_n 0, 1) := by decide +kernel
theorem d_T_isLive_8 : decode b_T_isLive 8 = .ok (.getfield 9, 3) := by decide +kernel
theorem d_T_isLive_11 : decode b_T_isLive 11 = .ok (.iconst 1, 1) := by decide +kernel
theorem d_T_isLive_12 : decode b_T_isLive 12 = .ok (.if_icmp .ne 7, 3) := by decide +kernel
theorem d_T_isLive_15 : decode b_T_isLive 15 = .ok (.iconst 1, 1) := by decide +kernel
theorem d_T_isLive_16 : decode b_T_isLive 16 = .ok (.goto 4, 3) := by decide +kernel
theorem d_T_isLive_19 : decode b_T_isLive 19 = .ok (.iconst 0, 1) := by decide +kernel
theorem d_T_isLive_20 : decode b_T_isLive 20 = .ok (.ireturn, 1) := by decide +kernel
theorem d_T_become_0 : decode b_T_become 0 = .ok (.aload_n 0, 1) := by decide +kernel
theorem d_T_become_1 : decode b_T_become 1 = .ok (.getfield 40, 3) := by decide +kernel
theorem d_T_become_4 : decode b_T_become 4 = .ok (.ifnull 24, 3) := by decide +kernel
theorem d_T_become_7 : decode b_T_become 7 = .ok (.aload_n 0, 1) := by decide +kernel
theorem d_T_become_8 : decode b_T_become 8 = .ok (.getfield 9, 3) := by decide +kernel
theorem d_T_become_11 : decode b_T_become 11 = .ok (.iconst 1, 1) := by decide +kernel
theorem d_T_become_12 : decode b_T_become 12 = .ok (.if_icmp .ne 16, 3) := by decide +kernel
theorem d_T_become_15 : decode b_T_become 15 = .ok (.aload_n 0, 1) := by decide +kernel
theorem d_T_become_16 : decode b_T_become 16 = .ok (.getfield 40, 3) := by decide +kernel
theorem d_T_become_19 : decode b_T_become 19 = .ok (.dup, 1) := by decide +kernel
theorem d_T_become_20 : decode b_T_become 20 = .ok (.getfield 55, 3) := by decide +kernel
theorem d_T_become_23 : decode b_T_become 23 = .ok (.iconst 1, 1) := by decide +kernel
theorem d_T_become_24 : decode b_T_become 24 = .ok (.isub, 1) := by decide +kernel
theorem d_T_become_25 : decode b_T_become 25 = .ok (.putfield 55, 3) := by decide +kernel
theorem d_T_become_28 : decode b_T_become 28 = .ok (.aload_n 0, 1) := by decide +kernel
theorem d_T_become_29 : decode b_T_become 29 = .ok (.getfield 40, 3) := by decide +kernel
theorem d_T_become_32 : decode b_T_become 32 = .ok (.ifnull 21, 3) := by decide +kernel
theorem d_T_become_35 : decode b_T_become 35 = .ok (.iload_n 1, 1) := by decide +kernel
theorem d_T_become_36 : decode b_T_become 36 = .ok (.iconst 1, 1) := by decide +kernel
theorem d_T_become_37 : decode b_T_become 37 = .ok (.if_icmp .ne 16, 3) := by decide +kernel
theorem d_T_become_40 : decode b_T_become 40 = .ok (.aload_n 0, 1) := by decide +kernel
theorem d_T_become_41 : decode b_T_become 41 = .ok (.getfield 40, 3) := by decide +kernel
theorem d_T_become_44 : decode b_T_become 44 = .ok (.dup, 1) := by decide +kernel
theorem d_T_become_45 : decode b_T_become 45 = .ok (.getfield 55, 3) := by decide +kernel
theorem d_T_become_48 : decode b_T_become 48 = .ok (.iconst 1, 1) := by decide +kernel
theorem d_T_become_49 : decode b_T_become 49 = .ok (.iadd, 1) := by decide +kernel
theorem d_T_become_50 : decode b_T_become 50 = .ok (.putfield 55, 3) := by decide +kernel
theorem d_T_become_53 : decode b_T_become 53 = .ok (.aload_n 0, 1) := by decide +kernel
theorem d_T_become_54 : decode b_T_become 54 = .ok (.iload_n 1, 1) := by decide +kernel
theorem d_T_become_55 : decode b_T_become 55 = .ok (.putfield 9, 3) := by decide +kernel
theorem d_T_become_58 : decode b_T_become 58 = .ok (.return_, 1) := by decide +kernel
theorem d_X_revive_0 : decode b_X_revive 0 = .ok (.aload_n 0, 1) := by decide +kernel
theorem d_X_revive_1 : decode b_X_revive 1 = .ok (.iload_n 1, 1) := by decide +kernel
theorem d_X_revive_2 : decode b_X_revive 2 = .ok (.invokevirtual 147, 3) := by decide +kernel
theorem d_X_revive_5 : decode b_X_revive 5 = .ok (.astore_n 2, 1) := by decide +kernel
theorem d_X_revive_6 : decode b_X_revive 6 = .ok (.aload_n 2, 1) := by decide +kernel
theorem d_X_revive_7 : decode b_X_revive 7 = .ok (.ifnull 20, 3) := by decide +kernel
theorem d_X_revive_10 : decode b_X_revive 10 = .ok (.aload_n 2, 1) := by decide +kernel
theorem d_X_revive_11 : decode b_X_revive 11 = .ok (.getfield 144, 3) := by decide +kernel
theorem d_X_revive_14 : decode b_X_revive 14 = .ok (.iconst 3, 1) := by decide +kernel
theorem d_X_revive_15 : decode b_X_revive 15 = .ok (.if_icmp .ne 12, 3) := by decide +kernel
theorem d_X_revive_18 : decode b_X_revive 18 = .ok (.aload_n 0, 1) := by decide +kernel
theorem d_X_revive_19 : decode b_X_revive 19 = .ok (.invokevirtual 62, 3) := by decide +kernel
theorem d_X_revive_22 : decode b_X_revive 22 = .ok (.bipush 64, 2) := by decide +kernel
theorem d_X_revive_24 : decode b_X_revive 24 = .ok (.if_icmp .lt 5, 3) := by decide +kernel
theorem d_X_revive_27 : decode b_X_revive 27 = .ok (.iconst 0, 1) := by decide +kernel
theorem d_X_revive_28 : decode b_X_revive 28 = .ok (.ireturn, 1) := by decide +kernel
theorem d_X_revive_29 : decode b_X_revive 29 = .ok (.aload_n 2, 1) := by decide +kernel
theorem d_X_revive_30 : decode b_X_revive 30 = .ok (.aload_n 0, 1) := by decide +kernel
theorem d_X_revive_31 : decode b_X_revive 31 = .ok (.getfield 28, 3) := by decide +kernel
theorem d_X_revive_34 : decode b_X_revive 34 = .ok (.invokevirtual 127, 3) := by decide +kernel
theorem d_X_revive_37 : decode b_X_revive 37 = .ok (.aload_n 2, 1) := by decide +kernel
theorem d_X_revive_38 : decode b_X_revive 38 = .ok (.iconst 0, 1) := by decide +kernel
theorem d_X_revive_39 : decode b_X_revive 39 = .ok (.putfield 130, 3) := by decide +kernel
theorem d_X_revive_42 : decode b_X_revive 42 = .ok (.iconst 1, 1) := by decide +kernel
theorem d_X_revive_43 : decode b_X_revive 43 = .ok (.ireturn, 1) := by decide +kernel
theorem d_X_liveTasks_0 : decode b_X_liveTasks 0 = .ok (.aload_n 0, 1) := by decide +kernel
theorem d_X_liveTasks_1 : decode b_X_liveTasks 1 = .ok (.iconst 0, 1) := by decide +kernel
theorem d_X_liveTasks_2 : decode b_X_liveTasks 2 = .ok (.invokevirtual 187, 3) := by decide +kernel
theorem d_X_liveTasks_5 : decode b_X_liveTasks 5 = .ok (.aload_n 0, 1) := by decide +kernel
theorem d_X_liveTasks_6 : decode b_X_liveTasks 6 = .ok (.iconst 1, 1) := by decide +kernel
theorem d_X_liveTasks_7 : decode b_X_liveTasks 7 = .ok (.invokevirtual 187, 3) := by decide +kernel
theorem d_X_liveTasks_10 : decode b_X_liveTasks 10 = .ok (.iadd, 1) := by decide +kernel
theorem d_X_liveTasks_11 : decode b_X_liveTasks 11 = .ok (.ireturn, 1) := by decide +kernel
theorem d_X_tasksThatAre_0 : decode b_X_tasksThatAre 0 = .ok (.iconst 0, 1) := by decide +kernel
theorem d_X_tasksThatAre_1 : decode b_X_tasksThatAre 1 = .ok (.istore_n 2, 1) := by decide +kernel
theorem d_X_tasksThatAre_2 : decode b_X_tasksThatAre 2 = .ok (.iconst 0, 1) := by decide +kernel
theorem d_X_tasksThatAre_3 : decode b_X_tasksThatAre 3 = .ok (.istore_n 3, 1) := by decide +kernel
theorem d_X_tasksThatAre_4 : decode b_X_tasksThatAre 4 = .ok (.iload_n 3, 1) := by decide +kernel
theorem d_X_tasksThatAre_5 : decode b_X_tasksThatAre 5 = .ok (.aload_n 0, 1) := by decide +kernel
theorem d_X_tasksThatAre_6 : decode b_X_tasksThatAre 6 = .ok (.getfield 24, 3) := by decide +kernel
theorem d_X_tasksThatAre_9 : decode b_X_tasksThatAre 9 = .ok (.invokevirtual 66, 3) := by decide +kernel
theorem d_X_tasksThatAre_12 : decode b_X_tasksThatAre 12 = .ok (.if_icmp .ge 30, 3) := by decide +kernel
theorem d_X_tasksThatAre_15 : decode b_X_tasksThatAre 15 = .ok (.aload_n 0, 1) := by decide +kernel
theorem d_X_tasksThatAre_16 : decode b_X_tasksThatAre 16 = .ok (.getfield 24, 3) := by decide +kernel
theorem d_X_tasksThatAre_19 : decode b_X_tasksThatAre 19 = .ok (.iload_n 3, 1) := by decide +kernel
theorem d_X_tasksThatAre_20 : decode b_X_tasksThatAre 20 = .ok (.invokevirtual 140, 3) := by decide +kernel
theorem d_X_tasksThatAre_23 : decode b_X_tasksThatAre 23 = .ok (.checkcast 74, 3) := by decide +kernel
theorem d_X_tasksThatAre_26 : decode b_X_tasksThatAre 26 = .ok (.getfield 144, 3) := by decide +kernel
theorem d_X_tasksThatAre_29 : decode b_X_tasksThatAre 29 = .ok (.iload_n 1, 1) := by decide +kernel
theorem d_X_tasksThatAre_30 : decode b_X_tasksThatAre 30 = .ok (.if_icmp .ne 6, 3) := by decide +kernel
theorem d_X_tasksThatAre_33 : decode b_X_tasksThatAre 33 = .ok (.iinc 2 1, 3) := by decide +kernel
theorem d_X_tasksThatAre_36 : decode b_X_tasksThatAre 36 = .ok (.iinc 3 1, 3) := by decide +kernel
theorem d_X_tasksThatAre_39 : decode b_X_tasksThatAre 39 = .ok (.goto (-35), 3) := by decide +kernel
theorem d_X_tasksThatAre_42 : decode b_X_tasksThatAre 42 = .ok (.iload_n 2, 1) := by decide +kernel
theorem d_X_tasksThatAre_43 : decode b_X_tasksThatAre 43 = .ok (.ireturn, 1) := by decide +kernel
theorem d_T_becomeWaiting_0 : decode b_T_becomeWaiting 0 = .ok (.aload_n 0, 1) := by decide +kernel
theorem d_T_becomeWaiting_1 : decode b_T_becomeWaiting 1 = .ok (.iconst 0, 1) := by decide +kernel
theorem d_T_becomeWaiting_2 : decode b_T_becomeWaiting 2 = .ok (.invokevirtual 85, 3) := by decide +kernel
theorem d_T_becomeWaiting_5 : decode b_T_becomeWaiting 5 = .ok (.aload_n 0, 1) := by decide +kernel
theorem d_T_becomeWaiting_6 : decode b_T_becomeWaiting 6 = .ok (.iload_n 1, 1) := by decide +kernel
theorem d_T_becomeWaiting_7 : decode b_T_becomeWaiting 7 = .ok (.putfield 48, 3) := by decide +kernel
theorem d_T_becomeWaiting_10 : decode b_T_becomeWaiting 10 = .ok (.return_, 1) := by decide +kernel
theorem d_X_set_0 : decode b_X_set 0 = .ok (.iload_n 1, 1) := by decide +kernel
theorem d_X_set_1 : decode b_X_set 1 = .ok (.bipush 6, 2) := by decide +kernel
theorem d_X_set_3 : decode b_X_set 3 = .ok (.if_icmp .ne 13, 3) := by decide +kernel
theorem d_X_set_6 : decode b_X_set 6 = .ok (.aload_n 0, 1) := by decide +kernel
theorem d_X_set_7 : decode b_X_set 7 = .ok (.iload_n 2, 1) := by decide +kernel
theorem d_X_set_8 : decode b_X_set 8 = .ok (.invokevirtual 52, 3) := by decide +kernel
theorem d_X_set_11 : decode b_X_set 11 = .ok (.iload_n 3, 1) := by decide +kernel
theorem d_X_set_12 : decode b_X_set 12 = .ok (.invokestatic 157, 3) := by decide +kernel
theorem d_X_set_15 : decode b_X_set 15 = .ok (.ireturn, 1) := by decide +kernel
theorem d_X_set_16 : decode b_X_set 16 = .ok (.aload_n 0, 1) := by decide +kernel
theorem d_X_set_17 : decode b_X_set 17 = .ok (.iload_n 2, 1) := by decide +kernel
theorem d_X_set_18 : decode b_X_set 18 = .ok (.invokevirtual 37, 3) := by decide +kernel
theorem d_X_set_21 : decode b_X_set 21 = .ok (.astore 4, 2) := by decide +kernel
theorem d_X_set_23 : decode b_X_set 23 = .ok (.aload 4, 2) := by decide +kernel
theorem d_X_set_25 : decode b_X_set 25 = .ok (.ifnull 17, 3) := by decide +kernel
theorem d_X_set_28 : decode b_X_set 28 = .ok (.aload 4, 2) := by decide +kernel
theorem d_X_set_30 : decode b_X_set 30 = .ok (.iload_n 1, 1) := by decide +kernel
theorem d_X_set_31 : decode b_X_set 31 = .ok (.iload_n 3, 1) := by decide +kernel
theorem d_X_set_32 : decode b_X_set 32 = .ok (.invokevirtual 161, 3) := by decide +kernel
theorem d_X_set_35 : decode b_X_set 35 = .ok (.ifCond .eq 7, 3) := by decide +kernel
theorem d_X_set_38 : decode b_X_set 38 = .ok (.iconst 1, 1) := by decide +kernel
theorem d_X_set_39 : decode b_X_set 39 = .ok (.goto 4, 3) := by decide +kernel
theorem d_X_set_42 : decode b_X_set 42 = .ok (.iconst 0, 1) := by decide +kernel
theorem d_X_set_43 : decode b_X_set 43 = .ok (.ireturn, 1) := by decide +kernel
theorem d_X_groupAt_0 : decode b_X_groupAt 0 = .ok (.iload_n 1, 1) := by decide +kernel
theorem d_X_groupAt_1 : decode b_X_groupAt 1 = .ok (.iconst 0, 1) := by decide +kernel
theorem d_X_groupAt_2 : decode b_X_groupAt 2 = .ok (.aload_n 0, 1) := by decide +kernel
theorem d_X_groupAt_3 : decode b_X_groupAt 3 = .ok (.getfield 17, 3) := by decide +kernel
theorem d_X_groupAt_6 : decode b_X_groupAt 6 = .ok (.arraylength, 1) := by decide +kernel
theorem d_X_groupAt_7 : decode b_X_groupAt 7 = .ok (.iconst 1, 1) := by decide +kernel
theorem d_X_groupAt_8 : decode b_X_groupAt 8 = .ok (.isub, 1) := by decide +kernel
theorem d_X_groupAt_9 : decode b_X_groupAt 9 = .ok (.invokestatic 41, 3) := by decide +kernel
theorem d_X_groupAt_12 : decode b_X_groupAt 12 = .ok (.ifCond .eq 12, 3) := by decide +kernel
theorem d_X_groupAt_15 : decode b_X_groupAt 15 = .ok (.aload_n 0, 1) := by decide +kernel
theorem d_X_groupAt_16 : decode b_X_groupAt 16 = .ok (.getfield 17, 3) := by decide +kernel
theorem d_X_groupAt_19 : decode b_X_groupAt 19 = .ok (.iload_n 1, 1) := by decide +kernel
theorem d_X_groupAt_20 : decode b_X_groupAt 20 = .ok (.aaload, 1) := by decide +kernel
theorem d_X_groupAt_21 : decode b_X_groupAt 21 = .ok (.goto 4, 3) := by decide +kernel
theorem d_X_groupAt_24 : decode b_X_groupAt 24 = .ok (.aconst_null, 1) := by decide +kernel
theorem d_X_groupAt_25 : decode b_X_groupAt 25 = .ok (.areturn, 1) := by decide +kernel
theorem d_X_changeLimit_0 : decode b_X_changeLimit 0 = .ok (.aload_n 0, 1) := by decide +kernel
theorem d_X_changeLimit_1 : decode b_X_changeLimit 1 = .ok (.ifnull 13, 3) := by decide +kernel
theorem d_X_changeLimit_4 : decode b_X_changeLimit 4 = .ok (.iload_n 1, 1) := by decide +kernel
theorem d_X_changeLimit_5 : decode b_X_changeLimit 5 = .ok (.iconst 0, 1) := by decide +kernel
theorem d_X_changeLimit_6 : decode b_X_changeLimit 6 = .ok (.bipush 8, 2) := by decide +kernel
theorem d_X_changeLimit_8 : decode b_X_changeLimit 8 = .ok (.invokestatic 41, 3) := by decide +kernel
theorem d_X_changeLimit_11 : decode b_X_changeLimit 11 = .ok (.ifCond .ne 5, 3) := by decide +kernel
theorem d_X_changeLimit_14 : decode b_X_changeLimit 14 = .ok (.iconst 0, 1) := by decide +kernel
theorem d_X_changeLimit_15 : decode b_X_changeLimit 15 = .ok (.ireturn, 1) := by decide +kernel
theorem d_X_changeLimit_16 : decode b_X_changeLimit 16 = .ok (.aload_n 0, 1) := by decide +kernel
theorem d_X_changeLimit_17 : decode b_X_changeLimit 17 = .ok (.iload_n 1, 1) := by decide +kernel
theorem d_X_changeLimit_18 : decode b_X_changeLimit 18 = .ok (.putfield 200, 3) := by decide +kernel
theorem d_X_changeLimit_21 : decode b_X_changeLimit 21 = .ok (.iconst 1, 1) := by decide +kernel
theorem d_X_changeLimit_22 : decode b_X_changeLimit 22 = .ok (.ireturn, 1) := by decide +kernel
theorem d_X_queueAt_0 : decode b_X_queueAt 0 = .ok (.iload_n 1, 1) := by decide +kernel
theorem d_X_queueAt_1 : decode b_X_queueAt 1 = .ok (.iconst 0, 1) := by decide +kernel
theorem d_X_queueAt_2 : decode b_X_queueAt 2 = .ok (.aload_n 0, 1) := by decide +kernel
theorem d_X_queueAt_3 : decode b_X_queueAt 3 = .ok (.getfield 11, 3) := by decide +kernel
theorem d_X_queueAt_6 : decode b_X_queueAt 6 = .ok (.arraylength, 1) := by decide +kernel
theorem d_X_queueAt_7 : decode b_X_queueAt 7 = .ok (.iconst 1, 1) := by decide +kernel
theorem d_X_queueAt_8 : decode b_X_queueAt 8 = .ok (.isub, 1) := by decide +kernel
theorem d_X_queueAt_9 : decode b_X_queueAt 9 = .ok (.invokestatic 41, 3) := by decide +kernel
theorem d_X_queueAt_12 : decode b_X_queueAt 12 = .ok (.ifCond .eq 12, 3) := by decide +kernel
theorem d_X_queueAt_15 : decode b_X_queueAt 15 = .ok (.aload_n 0, 1) := by decide +kernel
theorem d_X_queueAt_16 : decode b_X_queueAt 16 = .ok (.getfield 11, 3) := by decide +kernel
theorem d_X_queueAt_19 : decode b_X_queueAt 19 = .ok (.iload_n 1, 1) := by decide +kernel
theorem d_X_queueAt_20 : decode b_X_queueAt 20 = .ok (.aaload, 1) := by decide +kernel
theorem d_X_queueAt_21 : decode b_X_queueAt 21 = .ok (.goto 4, 3) := by decide +kernel
theorem d_X_queueAt_24 : decode b_X_queueAt 24 = .ok (.aconst_null, 1) := by decide +kernel
theorem d_X_queueAt_25 : decode b_X_queueAt 25 = .ok (.areturn, 1) := by decide +kernel
theorem d_Q_change_0 : decode b_Q_change 0 = .ok (.iload_n 1, 1) := by decide +kernel
theorem d_Q_change_1 : decode b_Q_change 1 = .ok (.iload_n 2, 1) := by decide +kernel
theorem d_Q_change_2 : decode b_Q_change 2 = .ok (.invokestatic 30, 3) := by decide +kernel
theorem d_Q_change_5 : decode b_Q_change 5 = .ok (.ifCond .ne 5, 3) := by decide +kernel
theorem d_Q_change_8 : decode b_Q_change 8 = .ok (.iconst 0, 1) := by decide +kernel
theorem d_Q_change_9 : decode b_Q_change 9 = .ok (.ireturn, 1) := by decide +kernel
theorem d_Q_change_10 : decode b_Q_change 10 = .ok (.iload_n 1, 1) := by decide +kernel
theorem d_Q_change_11 : decode b_Q_change 11 = .ok (.tableswitch 85 0 5 #[37, 45, 53, 61, 69, 77], 37) := by decide +kernel
theorem d_Q_change_48 : decode b_Q_change 48 = .ok (.aload_n 0, 1) := by decide +kernel
theorem d_Q_change_49 : decode b_Q_change 49 = .ok (.iload_n 2, 1) := by decide +kernel
theorem d_Q_change_50 : decode b_Q_change 50 = .ok (.putfield 9, 3) := by decide +kernel
theorem d_Q_change_53 : decode b_Q_change 53 = .ok (.goto 45, 3) := by decide +kernel
theorem d_Q_change_56 : decode b_Q_change 56 = .ok (.aload_n 0, 1) := by decide +kernel
theorem d_Q_change_57 : decode b_Q_change 57 = .ok (.iload_n 2, 1) := by decide +kernel
theorem d_Q_change_58 : decode b_Q_change 58 = .ok (.putfield 15, 3) := by decide +kernel
theorem d_Q_change_61 : decode b_Q_change 61 = .ok (.goto 37, 3) := by decide +kernel
theorem d_Q_change_64 : decode b_Q_change 64 = .ok (.aload_n 0, 1) := by decide +kernel
theorem d_Q_change_65 : decode b_Q_change 65 = .ok (.iload_n 2, 1) := by decide +kernel
theorem d_Q_change_66 : decode b_Q_change 66 = .ok (.putfield 18, 3) := by decide +kernel
theorem d_Q_change_69 : decode b_Q_change 69 = .ok (.goto 29, 3) := by decide +kernel
theorem d_Q_change_72 : decode b_Q_change 72 = .ok (.aload_n 0, 1) := by decide +kernel
theorem d_Q_change_73 : decode b_Q_change 73 = .ok (.iload_n 2, 1) := by decide +kernel
theorem d_Q_change_74 : decode b_Q_change 74 = .ok (.putfield 21, 3) := by decide +kernel
theorem d_Q_change_77 : decode b_Q_change 77 = .ok (.goto 21, 3) := by decide +kernel
theorem d_Q_change_80 : decode b_Q_change 80 = .ok (.aload_n 0, 1) := by decide +kernel
theorem d_Q_change_81 : decode b_Q_change 81 = .ok (.iload_n 2, 1) := by decide +kernel
theorem d_Q_change_82 : decode b_Q_change 82 = .ok (.putfield 24, 3) := by decide +kernel
theorem d_Q_change_85 : decode b_Q_change 85 = .ok (.goto 13, 3) := by decide +kernel
theorem d_Q_change_88 : decode b_Q_change 88 = .ok (.aload_n 0, 1) := by decide +kernel
theorem d_Q_change_89 : decode b_Q_change 89 = .ok (.iload_n 2, 1) := by decide +kernel
theorem d_Q_change_90 : decode b_Q_change 90 = .ok (.putfield 27, 3) := by decide +kernel
theorem d_Q_change_93 : decode b_Q_change 93 = .ok (.goto 5, 3) := by decide +kernel
theorem d_Q_change_96 : decode b_Q_change 96 = .ok (.iconst 0, 1) := by decide +kernel
theorem d_Q_change_97 : decode b_Q_change 97 = .ok (.ireturn, 1) := by decide +kernel
theorem d_Q_change_98 : decode b_Q_change 98 = .ok (.iconst 1, 1) := by decide +kernel
theorem d_Q_change_99 : decode b_Q_change 99 = .ok (.ireturn, 1) := by decide +kernel
theorem d_Q_mayBe_0 : decode b_Q_mayBe 0 = .ok (.iload_n 0, 1) := by decide +kernel
theorem d_Q_mayBe_1 : decode b_Q_mayBe 1 = .ok (.tableswitch 90 0 5 #[39, 48, 56, 64, 73, 81], 39) := by decide +kernel
theorem d_Q_mayBe_40 : decode b_Q_mayBe 40 = .ok (.iload_n 1, 1) := by decide +kernel
theorem d_Q_mayBe_41 : decode b_Q_mayBe 41 = .ok (.iconst 1, 1) := by decide +kernel
theorem d_Q_mayBe_42 : decode b_Q_mayBe 42 = .ok (.sipush 200, 3) := by decide +kernel
theorem d_Q_mayBe_45 : decode b_Q_mayBe 45 = .ok (.invokestatic 34, 3) := by decide +kernel
theorem d_Q_mayBe_48 : decode b_Q_mayBe 48 = .ok (.ireturn, 1) := by decide +kernel
theorem d_Q_mayBe_49 : decode b_Q_mayBe 49 = .ok (.iload_n 1, 1) := by decide +kernel
theorem d_Q_mayBe_50 : decode b_Q_mayBe 50 = .ok (.iconst 1, 1) := by decide +kernel
theorem d_Q_mayBe_51 : decode b_Q_mayBe 51 = .ok (.bipush 20, 2) := by decide +kernel
theorem d_Q_mayBe_53 : decode b_Q_mayBe 53 = .ok (.invokestatic 34, 3) := by decide +kernel
theorem d_Q_mayBe_56 : decode b_Q_mayBe 56 = .ok (.ireturn, 1) := by decide +kernel
theorem d_Q_mayBe_57 : decode b_Q_mayBe 57 = .ok (.iload_n 1, 1) := by decide +kernel
theorem d_Q_mayBe_58 : decode b_Q_mayBe 58 = .ok (.iconst 1, 1) := by decide +kernel
theorem d_Q_mayBe_59 : decode b_Q_mayBe 59 = .ok (.bipush 100, 2) := by decide +kernel
theorem d_Q_mayBe_61 : decode b_Q_mayBe 61 = .ok (.invokestatic 34, 3) := by decide +kernel
theorem d_Q_mayBe_64 : decode b_Q_mayBe 64 = .ok (.ireturn, 1) := by decide +kernel
theorem d_Q_mayBe_65 : decode b_Q_mayBe 65 = .ok (.iload_n 1, 1) := by decide +kernel
theorem d_Q_mayBe_66 : decode b_Q_mayBe 66 = .ok (.iconst 1, 1) := by decide +kernel
theorem d_Q_mayBe_67 : decode b_Q_mayBe 67 = .ok (.sipush 1000, 3) := by decide +kernel
theorem d_Q_mayBe_70 : decode b_Q_mayBe 70 = .ok (.invokestatic 34, 3) := by decide +kernel
theorem d_Q_mayBe_73 : decode b_Q_mayBe 73 = .ok (.ireturn, 1) := by decide +kernel
theorem d_Q_mayBe_74 : decode b_Q_mayBe 74 = .ok (.iload_n 1, 1) := by decide +kernel
theorem d_Q_mayBe_75 : decode b_Q_mayBe 75 = .ok (.iconst 0, 1) := by decide +kernel
theorem d_Q_mayBe_76 : decode b_Q_mayBe 76 = .ok (.bipush 100, 2) := by decide +kernel
theorem d_Q_mayBe_78 : decode b_Q_mayBe 78 = .ok (.invokestatic 34, 3) := by decide +kernel
theorem d_Q_mayBe_81 : decode b_Q_mayBe 81 = .ok (.ireturn, 1) := by decide +kernel
theorem d_Q_mayBe_82 : decode b_Q_mayBe 82 = .ok (.iload_n 1, 1) := by decide +kernel
theorem d_Q_mayBe_83 : decode b_Q_mayBe 83 = .ok (.iconst 0, 1) := by decide +kernel
theorem d_Q_mayBe_84 : decode b_Q_mayBe 84 = .ok (.sipush 1000, 3) := by decide +kernel
theorem d_Q_mayBe_87 : decode b_Q_mayBe 87 = .ok (.invokestatic 34, 3) := by decide +kernel
theorem d_Q_mayBe_90 : decode b_Q_mayBe 90 = .ok (.ireturn, 1) := by decide +kernel
theorem d_Q_mayBe_91 : decode b_Q_mayBe 91 = .ok (.iconst 0, 1) := by decide +kernel
theorem d_Q_mayBe_92 : decode b_Q_mayBe 92 = .ok (.ireturn, 1) := by decide +kernel
theorem d_X_first_0 : decode b_X_first 0 = .ok (.aload_n 0, 1) := by decide +kernel
theorem d_X_first_1 : decode b_X_first 1 = .ok (.iload_n 1, 1) := by decide +kernel
theorem d_X_first_2 : decode b_X_first 2 = .ok (.invokevirtual 37, 3) := by decide +kernel
theorem d_X_first_5 : decode b_X_first 5 = .ok (.astore_n 2, 1) := by decide +kernel
theorem d_X_first_6 : decode b_X_first 6 = .ok (.aload_n 2, 1) := by decide +kernel
theorem d_X_first_7 : decode b_X_first 7 = .ok (.ifnonnull 7, 3) := by decide +kernel
theorem d_X_first_10 : decode b_X_first 10 = .ok (.aconst_null, 1) := by decide +kernel
theorem d_X_first_11 : decode b_X_first 11 = .ok (.goto 8, 3) := by decide +kernel
theorem d_X_first_14 : decode b_X_first 14 = .ok (.aload_n 0, 1) := by decide +kernel
theorem d_X_first_15 : decode b_X_first 15 = .ok (.aload_n 2, 1) := by decide +kernel
theorem d_X_first_16 : decode b_X_first 16 = .ok (.invokevirtual 89, 3) := by decide +kernel
theorem d_X_first_19 : decode b_X_first 19 = .ok (.astore_n 3, 1) := by decide +kernel
theorem d_X_first_20 : decode b_X_first 20 = .ok (.aload_n 3, 1) := by decide +kernel
theorem d_X_first_21 : decode b_X_first 21 = .ok (.ifnonnull 7, 3) := by decide +kernel
theorem d_X_first_24 : decode b_X_first 24 = .ok (.iconst (-1), 1) := by decide +kernel
theorem d_X_first_25 : decode b_X_first 25 = .ok (.goto 7, 3) := by decide +kernel
theorem d_X_first_28 : decode b_X_first 28 = .ok (.aload_n 3, 1) := by decide +kernel
theorem d_X_first_29 : decode b_X_first 29 = .ok (.getfield 135, 3) := by decide +kernel
theorem d_X_first_32 : decode b_X_first 32 = .ok (.ireturn, 1) := by decide +kernel
theorem d_X_firstOf_0 : decode b_X_firstOf 0 = .ok (.aconst_null, 1) := by decide +kernel
theorem d_X_firstOf_1 : decode b_X_firstOf 1 = .ok (.astore_n 2, 1) := by decide +kernel
theorem d_X_firstOf_2 : decode b_X_firstOf 2 = .ok (.iconst 0, 1) := by decide +kernel
theorem d_X_firstOf_3 : decode b_X_firstOf 3 = .ok (.istore_n 3, 1) := by decide +kernel
theorem d_X_firstOf_4 : decode b_X_firstOf 4 = .ok (.iload_n 3, 1) := by decide +kernel
theorem d_X_firstOf_5 : decode b_X_firstOf 5 = .ok (.aload_n 0, 1) := by decide +kernel
theorem d_X_firstOf_6 : decode b_X_firstOf 6 = .ok (.getfield 24, 3) := by decide +kernel
theorem d_X_firstOf_9 : decode b_X_firstOf 9 = .ok (.invokevirtual 66, 3) := by decide +kernel
theorem d_X_firstOf_12 : decode b_X_firstOf 12 = .ok (.if_icmp .ge 63, 3) := by decide +kernel
theorem d_X_firstOf_15 : decode b_X_firstOf 15 = .ok (.aload_n 0, 1) := by decide +kernel
theorem d_X_firstOf_16 : decode b_X_firstOf 16 = .ok (.getfield 24, 3) := by decide +kernel
theorem d_X_firstOf_19 : decode b_X_firstOf 19 = .ok (.iload_n 3, 1) := by decide +kernel
theorem d_X_firstOf_20 : decode b_X_firstOf 20 = .ok (.invokevirtual 140, 3) := by decide +kernel
theorem d_X_firstOf_23 : decode b_X_firstOf 23 = .ok (.checkcast 74, 3) := by decide +kernel
theorem d_X_firstOf_26 : decode b_X_firstOf 26 = .ok (.astore 4, 2) := by decide +kernel
theorem d_X_firstOf_28 : decode b_X_firstOf 28 = .ok (.aload 4, 2) := by decide +kernel
theorem d_X_firstOf_30 : decode b_X_firstOf 30 = .ok (.getfield 105, 3) := by decide +kernel
theorem d_X_firstOf_33 : decode b_X_firstOf 33 = .ok (.aload_n 1, 1) := by decide +kernel
theorem d_X_firstOf_34 : decode b_X_firstOf 34 = .ok (.if_acmp .ne 35, 3) := by decide +kernel
theorem d_X_firstOf_37 : decode b_X_firstOf 37 = .ok (.aload 4, 2) := by decide +kernel
theorem d_X_firstOf_39 : decode b_X_firstOf 39 = .ok (.aload_n 0, 1) := by decide +kernel
theorem d_X_firstOf_40 : decode b_X_firstOf 40 = .ok (.getfield 28, 3) := by decide +kernel
theorem d_X_firstOf_43 : decode b_X_firstOf 43 = .ok (.invokevirtual 210, 3) := by decide +kernel
theorem d_X_firstOf_46 : decode b_X_firstOf 46 = .ok (.ifCond .eq 23, 3) := by decide +kernel
theorem d_X_firstOf_49 : decode b_X_firstOf 49 = .ok (.aload_n 2, 1) := by decide +kernel
theorem d_X_firstOf_50 : decode b_X_firstOf 50 = .ok (.ifnull 16, 3) := by decide +kernel
theorem d_X_firstOf_53 : decode b_X_firstOf 53 = .ok (.aload 4, 2) := by decide +kernel
theorem d_X_firstOf_55 : decode b_X_firstOf 55 = .ok (.aload_n 2, 1) := by decide +kernel
theorem d_X_firstOf_56 : decode b_X_firstOf 56 = .ok (.aload_n 0, 1) := by decide +kernel
theorem d_X_firstOf_57 : decode b_X_firstOf 57 = .ok (.getfield 28, 3) := by decide +kernel
theorem d_X_firstOf_60 : decode b_X_firstOf 60 = .ok (.invokevirtual 213, 3) := by decide +kernel
theorem d_X_firstOf_63 : decode b_X_firstOf 63 = .ok (.ifCond .eq 6, 3) := by decide +kernel
theorem d_X_firstOf_66 : decode b_X_firstOf 66 = .ok (.aload 4, 2) := by decide +kernel
theorem d_X_firstOf_68 : decode b_X_firstOf 68 = .ok (.astore_n 2, 1) := by decide +kernel
theorem d_X_firstOf_69 : decode b_X_firstOf 69 = .ok (.iinc 3 1, 3) := by decide +kernel
theorem d_X_firstOf_72 : decode b_X_firstOf 72 = .ok (.goto (-68), 3) := by decide +kernel
theorem d_X_firstOf_75 : decode b_X_firstOf 75 = .ok (.aload_n 2, 1) := by decide +kernel
theorem d_X_firstOf_76 : decode b_X_firstOf 76 = .ok (.areturn, 1) := by decide +kernel
theorem d_T_mayBeHad_0 : decode b_T_mayBeHad 0 = .ok (.aload_n 0, 1) := by decide +kernel
theorem d_T_mayBeHad_1 : decode b_T_mayBeHad 1 = .ok (.iload_n 1, 1) := by decide +kernel
theorem d_T_mayBeHad_2 : decode b_T_mayBeHad 2 = .ok (.invokevirtual 51, 3) := by decide +kernel
theorem d_T_mayBeHad_5 : decode b_T_mayBeHad 5 = .ok (.ifCond .eq 31, 3) := by decide +kernel
theorem d_T_mayBeHad_8 : decode b_T_mayBeHad 8 = .ok (.aload_n 0, 1) := by decide +kernel
theorem d_T_mayBeHad_9 : decode b_T_mayBeHad 9 = .ok (.getfield 40, 3) := by decide +kernel
theorem d_T_mayBeHad_12 : decode b_T_mayBeHad 12 = .ok (.ifnull 20, 3) := by decide +kernel
theorem d_T_mayBeHad_15 : decode b_T_mayBeHad 15 = .ok (.aload_n 0, 1) := by decide +kernel
theorem d_T_mayBeHad_16 : decode b_T_mayBeHad 16 = .ok (.getfield 40, 3) := by decide +kernel
theorem d_T_mayBeHad_19 : decode b_T_mayBeHad 19 = .ok (.getfield 55, 3) := by decide +kernel
theorem d_T_mayBeHad_22 : decode b_T_mayBeHad 22 = .ok (.aload_n 0, 1) := by decide +kernel
theorem d_T_mayBeHad_23 : decode b_T_mayBeHad 23 = .ok (.getfield 40, 3) := by decide +kernel
theorem d_T_mayBeHad_26 : decode b_T_mayBeHad 26 = .ok (.getfield 60, 3) := by decide +kernel
theorem d_T_mayBeHad_29 : decode b_T_mayBeHad 29 = .ok (.if_icmp .ge 7, 3) := by decide +kernel
theorem d_T_mayBeHad_32 : decode b_T_mayBeHad 32 = .ok (.iconst 1, 1) := by decide +kernel
theorem d_T_mayBeHad_33 : decode b_T_mayBeHad 33 = .ok (.goto 4, 3) := by decide +kernel
theorem d_T_mayBeHad_36 : decode b_T_mayBeHad 36 = .ok (.iconst 0, 1) := by decide +kernel
theorem d_T_mayBeHad_37 : decode b_T_mayBeHad 37 = .ok (.ireturn, 1) := by decide +kernel
theorem d_T_isDue_0 : decode b_T_isDue 0 = .ok (.aload_n 0, 1) := by decide +kernel
theorem d_T_isDue_1 : decode b_T_isDue 1 = .ok (.getfield 9, 3) := by decide +kernel
theorem d_T_isDue_4 : decode b_T_isDue 4 = .ok (.ifCond .ne 15, 3) := by decide +kernel
theorem d_T_isDue_7 : decode b_T_isDue 7 = .ok (.aload_n 0, 1) := by decide +kernel
theorem d_T_isDue_8 : decode b_T_isDue 8 = .ok (.getfield 48, 3) := by decide +kernel
theorem d_T_isDue_11 : decode b_T_isDue 11 = .ok (.iload_n 1, 1) := by decide +kernel
theorem d_T_isDue_12 : decode b_T_isDue 12 = .ok (.if_icmp .gt 7, 3) := by decide +kernel
theorem d_T_isDue_15 : decode b_T_isDue 15 = .ok (.iconst 1, 1) := by decide +kernel
theorem d_T_isDue_16 : decode b_T_isDue 16 = .ok (.goto 4, 3) := by decide +kernel
theorem d_T_isDue_19 : decode b_T_isDue 19 = .ok (.iconst 0, 1) := by decide +kernel
theorem d_T_isDue_20 : decode b_T_isDue 20 = .ok (.ireturn, 1) := by decide +kernel
theorem d_T_goesBefore_0 : decode b_T_goesBefore 0 = .ok (.aload_n 0, 1) := by decide +kernel
theorem d_T_goesBefore_1 : decode b_T_goesBefore 1 = .ok (.iload_n 2, 1) := by decide +kernel
theorem d_T_goesBefore_2 : decode b_T_goesBefore 2 = .ok (.invokevirtual 81, 3) := by decide +kernel
theorem d_T_goesBefore_5 : decode b_T_goesBefore 5 = .ok (.istore_n 3, 1) := by decide +kernel
theorem d_T_goesBefore_6 : decode b_T_goesBefore 6 = .ok (.aload_n 1, 1) := by decide +kernel
theorem d_T_goesBefore_7 : decode b_T_goesBefore 7 = .ok (.iload_n 2, 1) := by decide +kernel
theorem d_T_goesBefore_8 : decode b_T_goesBefore 8 = .ok (.invokevirtual 81, 3) := by decide +kernel
theorem d_T_goesBefore_11 : decode b_T_goesBefore 11 = .ok (.istore 4, 2) := by decide +kernel
theorem d_T_goesBefore_13 : decode b_T_goesBefore 13 = .ok (.iload_n 3, 1) := by decide +kernel
theorem d_T_goesBefore_14 : decode b_T_goesBefore 14 = .ok (.iload 4, 2) := by decide +kernel
theorem d_T_goesBefore_16 : decode b_T_goesBefore 16 = .ok (.if_icmp .eq 15, 3) := by decide +kernel
theorem d_T_goesBefore_19 : decode b_T_goesBefore 19 = .ok (.iload_n 3, 1) := by decide +kernel
theorem d_T_goesBefore_20 : decode b_T_goesBefore 20 = .ok (.iload 4, 2) := by decide +kernel
theorem d_T_goesBefore_22 : decode b_T_goesBefore 22 = .ok (.if_icmp .le 7, 3) := by decide +kernel
theorem d_T_goesBefore_25 : decode b_T_goesBefore 25 = .ok (.iconst 1, 1) := by decide +kernel
theorem d_T_goesBefore_26 : decode b_T_goesBefore 26 = .ok (.goto 4, 3) := by decide +kernel
theorem d_T_goesBefore_29 : decode b_T_goesBefore 29 = .ok (.iconst 0, 1) := by decide +kernel
theorem d_T_goesBefore_30 : decode b_T_goesBefore 30 = .ok (.ireturn, 1) := by decide +kernel
theorem d_T_goesBefore_31 : decode b_T_goesBefore 31 = .ok (.aload_n 0, 1) := by decide +kernel
theorem d_T_goesBefore_32 : decode b_T_goesBefore 32 = .ok (.getfield 48, 3) := by decide +kernel
theorem d_T_goesBefore_35 : decode b_T_goesBefore 35 = .ok (.aload_n 1, 1) := by decide +kernel
theorem d_T_goesBefore_36 : decode b_T_goesBefore 36 = .ok (.getfield 48, 3) := by decide +kernel
theorem d_T_goesBefore_39 : decode b_T_goesBefore 39 = .ok (.if_icmp .eq 22, 3) := by decide +kernel
theorem d_T_goesBefore_42 : decode b_T_goesBefore 42 = .ok (.aload_n 0, 1) := by decide +kernel
theorem d_T_goesBefore_43 : decode b_T_goesBefore 43 = .ok (.getfield 48, 3) := by decide +kernel
theorem d_T_goesBefore_46 : decode b_T_goesBefore 46 = .ok (.aload_n 1, 1) := by decide +kernel
theorem d_T_goesBefore_47 : decode b_T_goesBefore 47 = .ok (.getfield 48, 3) := by decide +kernel
theorem d_T_goesBefore_50 : decode b_T_goesBefore 50 = .ok (.if_icmp .ge 7, 3) := by decide +kernel
theorem d_T_goesBefore_53 : decode b_T_goesBefore 53 = .ok (.iconst 1, 1) := by decide +kernel
theorem d_T_goesBefore_54 : decode b_T_goesBefore 54 = .ok (.goto 23, 3) := by decide +kernel
theorem d_T_goesBefore_57 : decode b_T_goesBefore 57 = .ok (.iconst 0, 1) := by decide +kernel
theorem d_T_goesBefore_58 : decode b_T_goesBefore 58 = .ok (.goto 19, 3) := by decide +kernel
theorem d_T_goesBefore_61 : decode b_T_goesBefore 61 = .ok (.aload_n 0, 1) := by decide +kernel
theorem d_T_goesBefore_62 : decode b_T_goesBefore 62 = .ok (.getfield 30, 3) := by decide +kernel
theorem d_T_goesBefore_65 : decode b_T_goesBefore 65 = .ok (.aload_n 1, 1) := by decide +kernel
theorem d_T_goesBefore_66 : decode b_T_goesBefore 66 = .ok (.getfield 30, 3) := by decide +kernel
theorem d_T_goesBefore_69 : decode b_T_goesBefore 69 = .ok (.if_icmp .ge 7, 3) := by decide +kernel
theorem d_T_goesBefore_72 : decode b_T_goesBefore 72 = .ok (.iconst 1, 1) := by decide +kernel
theorem d_T_goesBefore_73 : decode b_T_goesBefore 73 = .ok (.goto 4, 3) := by decide +kernel
theorem d_T_goesBefore_76 : decode b_T_goesBefore 76 = .ok (.iconst 0, 1) := by decide +kernel
theorem d_T_goesBefore_77 : decode b_T_goesBefore 77 = .ok (.ireturn, 1) := by decide +kernel
theorem d_T_weight_0 : decode b_T_weight 0 = .ok (.aload_n 0, 1) := by decide +kernel
theorem d_T_weight_1 : decode b_T_weight 1 = .ok (.getfield 33, 3) := by decide +kernel
theorem d_T_weight_4 : decode b_T_weight 4 = .ok (.getfield 72, 3) := by decide +kernel
theorem d_T_weight_7 : decode b_T_weight 7 = .ok (.ifCond .le 20, 3) := by decide +kernel
theorem d_T_weight_10 : decode b_T_weight 10 = .ok (.iload_n 1, 1) := by decide +kernel
theorem d_T_weight_11 : decode b_T_weight 11 = .ok (.aload_n 0, 1) := by decide +kernel
theorem d_T_weight_12 : decode b_T_weight 12 = .ok (.getfield 48, 3) := by decide +kernel
theorem d_T_weight_15 : decode b_T_weight 15 = .ok (.isub, 1) := by decide +kernel
theorem d_T_weight_16 : decode b_T_weight 16 = .ok (.aload_n 0, 1) := by decide +kernel
theorem d_T_weight_17 : decode b_T_weight 17 = .ok (.getfield 33, 3) := by decide +kernel
theorem d_T_weight_20 : decode b_T_weight 20 = .ok (.getfield 72, 3) := by decide +kernel
theorem d_T_weight_23 : decode b_T_weight 23 = .ok (.idiv, 1) := by decide +kernel
theorem d_T_weight_24 : decode b_T_weight 24 = .ok (.goto 4, 3) := by decide +kernel
theorem d_T_weight_27 : decode b_T_weight 27 = .ok (.iconst 0, 1) := by decide +kernel
theorem d_T_weight_28 : decode b_T_weight 28 = .ok (.istore_n 2, 1) := by decide +kernel
theorem d_T_weight_29 : decode b_T_weight 29 = .ok (.aload_n 0, 1) := by decide +kernel
theorem d_T_weight_30 : decode b_T_weight 30 = .ok (.getfield 37, 3) := by decide +kernel
theorem d_T_weight_33 : decode b_T_weight 33 = .ok (.iload_n 2, 1) := by decide +kernel
theorem d_T_weight_34 : decode b_T_weight 34 = .ok (.iadd, 1) := by decide +kernel
theorem d_T_weight_35 : decode b_T_weight 35 = .ok (.bipush 9, 2) := by decide +kernel
theorem d_T_weight_37 : decode b_T_weight 37 = .ok (.invokestatic 75, 3) := by decide +kernel
theorem d_T_weight_40 : decode b_T_weight 40 = .ok (.ireturn, 1) := by decide +kernel
theorem d_X_next_0 : decode b_X_next 0 = .ok (.iconst (-1), 1) := by decide +kernel
theorem d_X_next_1 : decode b_X_next 1 = .ok (.istore_n 1, 1) := by decide +kernel
theorem d_X_next_2 : decode b_X_next 2 = .ok (.iconst 0, 1) := by decide +kernel
theorem d_X_next_3 : decode b_X_next 3 = .ok (.istore_n 2, 1) := by decide +kernel
theorem d_X_next_4 : decode b_X_next 4 = .ok (.iload_n 2, 1) := by decide +kernel
theorem d_X_next_5 : decode b_X_next 5 = .ok (.aload_n 0, 1) := by decide +kernel
theorem d_X_next_6 : decode b_X_next 6 = .ok (.getfield 24, 3) := by decide +kernel
theorem d_X_next_9 : decode b_X_next 9 = .ok (.invokevirtual 66, 3) := by decide +kernel
theorem d_X_next_12 : decode b_X_next 12 = .ok (.if_icmp .ge 44, 3) := by decide +kernel
theorem d_X_next_15 : decode b_X_next 15 = .ok (.aload_n 0, 1) := by decide +kernel
theorem d_X_next_16 : decode b_X_next 16 = .ok (.getfield 24, 3) := by decide +kernel
theorem d_X_next_19 : decode b_X_next 19 = .ok (.iload_n 2, 1) := by decide +kernel
theorem d_X_next_20 : decode b_X_next 20 = .ok (.invokevirtual 140, 3) := by decide +kernel
theorem d_X_next_23 : decode b_X_next 23 = .ok (.checkcast 74, 3) := by decide +kernel
theorem d_X_next_26 : decode b_X_next 26 = .ok (.invokevirtual 184, 3) := by decide +kernel
theorem d_X_next_29 : decode b_X_next 29 = .ok (.istore_n 3, 1) := by decide +kernel
theorem d_X_next_30 : decode b_X_next 30 = .ok (.iload_n 3, 1) := by decide +kernel
theorem d_X_next_31 : decode b_X_next 31 = .ok (.aload_n 0, 1) := by decide +kernel
theorem d_X_next_32 : decode b_X_next 32 = .ok (.getfield 28, 3) := by decide +kernel
theorem d_X_next_35 : decode b_X_next 35 = .ok (.if_icmp .le 15, 3) := by decide +kernel
theorem d_X_next_38 : decode b_X_next 38 = .ok (.iload_n 1, 1) := by decide +kernel
theorem d_X_next_39 : decode b_X_next 39 = .ok (.iconst (-1), 1) := by decide +kernel
theorem d_X_next_40 : decode b_X_next 40 = .ok (.if_icmp .eq 8, 3) := by decide +kernel
theorem d_X_next_43 : decode b_X_next 43 = .ok (.iload_n 3, 1) := by decide +kernel
theorem d_X_next_44 : decode b_X_next 44 = .ok (.iload_n 1, 1) := by decide +kernel
theorem d_X_next_45 : decode b_X_next 45 = .ok (.if_icmp .ge 5, 3) := by decide +kernel
theorem d_X_next_48 : decode b_X_next 48 = .ok (.iload_n 3, 1) := by decide +kernel
theorem d_X_next_49 : decode b_X_next 49 = .ok (.istore_n 1, 1) := by decide +kernel
theorem d_X_next_50 : decode b_X_next 50 = .ok (.iinc 2 1, 3) := by decide +kernel
theorem d_X_next_53 : decode b_X_next 53 = .ok (.goto (-49), 3) := by decide +kernel
theorem d_X_next_56 : decode b_X_next 56 = .ok (.iload_n 1, 1) := by decide +kernel
theorem d_X_next_57 : decode b_X_next 57 = .ok (.ireturn, 1) := by decide +kernel
theorem d_T_comesAt_0 : decode b_T_comesAt 0 = .ok (.aload_n 0, 1) := by decide +kernel
theorem d_T_comesAt_1 : decode b_T_comesAt 1 = .ok (.getfield 9, 3) := by decide +kernel
theorem d_T_comesAt_4 : decode b_T_comesAt 4 = .ok (.ifCond .ne 8, 3) := by decide +kernel
theorem d_T_comesAt_7 : decode b_T_comesAt 7 = .ok (.aload_n 0, 1) := by decide +kernel
theorem d_T_comesAt_8 : decode b_T_comesAt 8 = .ok (.getfield 48, 3) := by decide +kernel
theorem d_T_comesAt_11 : decode b_T_comesAt 11 = .ok (.ireturn, 1) := by decide +kernel
theorem d_T_comesAt_12 : decode b_T_comesAt 12 = .ok (.aload_n 0, 1) := by decide +kernel
theorem d_T_comesAt_13 : decode b_T_comesAt 13 = .ok (.getfield 9, 3) := by decide +kernel
theorem d_T_comesAt_16 : decode b_T_comesAt 16 = .ok (.iconst 1, 1) := by decide +kernel
theorem d_T_comesAt_17 : decode b_T_comesAt 17 = .ok (.if_icmp .ne 10, 3) := by decide +kernel
theorem d_T_comesAt_20 : decode b_T_comesAt 20 = .ok (.aload_n 0, 1) := by decide +kernel
theorem d_T_comesAt_21 : decode b_T_comesAt 21 = .ok (.getfield 18, 3) := by decide +kernel
theorem d_T_comesAt_24 : decode b_T_comesAt 24 = .ok (.goto 4, 3) := by decide +kernel
theorem d_T_comesAt_27 : decode b_T_comesAt 27 = .ok (.iconst (-1), 1) := by decide +kernel
theorem d_T_comesAt_28 : decode b_T_comesAt 28 = .ok (.ireturn, 1) := by decide +kernel
theorem d_X_count_0 : decode b_X_count 0 = .ok (.iload_n 1, 1) := by decide +kernel
theorem d_X_count_1 : decode b_X_count 1 = .ok (.tableswitch 65 0 4 #[35, 40, 48, 53, 59], 35) := by decide +kernel
theorem d_X_count_36 : decode b_X_count 36 = .ok (.aload_n 0, 1) := by decide +kernel
theorem d_X_count_37 : decode b_X_count 37 = .ok (.getfield 28, 3) := by decide +kernel
theorem d_X_count_40 : decode b_X_count 40 = .ok (.ireturn, 1) := by decide +kernel
theorem d_X_count_41 : decode b_X_count 41 = .ok (.aload_n 0, 1) := by decide +kernel
theorem d_X_count_42 : decode b_X_count 42 = .ok (.getfield 24, 3) := by decide +kernel
theorem d_X_count_45 : decode b_X_count 45 = .ok (.invokevirtual 66, 3) := by decide +kernel
theorem d_X_count_48 : decode b_X_count 48 = .ok (.ireturn, 1) := by decide +kernel
theorem d_X_count_49 : decode b_X_count 49 = .ok (.aload_n 0, 1) := by decide +kernel
theorem d_X_count_50 : decode b_X_count 50 = .ok (.invokevirtual 62, 3) := by decide +kernel
theorem d_X_count_53 : decode b_X_count 53 = .ok (.ireturn, 1) := by decide +kernel
theorem d_X_count_54 : decode b_X_count 54 = .ok (.aload_n 0, 1) := by decide +kernel
theorem d_X_count_55 : decode b_X_count 55 = .ok (.iconst 1, 1) := by decide +kernel
theorem d_X_count_56 : decode b_X_count 56 = .ok (.invokevirtual 187, 3) := by decide +kernel
theorem d_X_count_59 : decode b_X_count 59 = .ok (.ireturn, 1) := by decide +kernel
theorem d_X_count_60 : decode b_X_count 60 = .ok (.aload_n 0, 1) := by decide +kernel
theorem d_X_count_61 : decode b_X_count 61 = .ok (.iconst 3, 1) := by decide +kernel
theorem d_X_count_62 : decode b_X_count 62 = .ok (.invokevirtual 187, 3) := by decide +kernel
theorem d_X_count_65 : decode b_X_count 65 = .ok (.ireturn, 1) := by decide +kernel
theorem d_X_count_66 : decode b_X_count 66 = .ok (.aload_n 0, 1) := by decide +kernel
theorem d_X_count_67 : decode b_X_count 67 = .ok (.iload_n 1, 1) := by decide +kernel
theorem d_X_count_68 : decode b_X_count 68 = .ok (.invokevirtual 190, 3) := by decide +kernel
theorem d_X_count_71 : decode b_X_count 71 = .ok (.ireturn, 1) := by decide +kernel
theorem d_X_countOfOne_0 : decode b_X_countOfOne 0 = .ok (.iload_n 1, 1) := by decide +kernel
theorem d_X_countOfOne_1 : decode b_X_countOfOne 1 = .ok (.iconst 5, 1) := by decide +kernel
theorem d_X_countOfOne_2 : decode b_X_countOfOne 2 = .ok (.isub, 1) := by decide +kernel
theorem d_X_countOfOne_3 : decode b_X_countOfOne 3 = .ok (.invokestatic 83, 3) := by decide +kernel
theorem d_X_countOfOne_6 : decode b_X_countOfOne 6 = .ok (.ifCond .eq 11, 3) := by decide +kernel
theorem d_X_countOfOne_9 : decode b_X_countOfOne 9 = .ok (.aload_n 0, 1) := by decide +kernel
theorem d_X_countOfOne_10 : decode b_X_countOfOne 10 = .ok (.iload_n 1, 1) := by decide +kernel
theorem d_X_countOfOne_11 : decode b_X_countOfOne 11 = .ok (.iconst 5, 1) := by decide +kernel
theorem d_X_countOfOne_12 : decode b_X_countOfOne 12 = .ok (.isub, 1) := by decide +kernel
theorem d_X_countOfOne_13 : decode b_X_countOfOne 13 = .ok (.invokevirtual 93, 3) := by decide +kernel
theorem d_X_countOfOne_16 : decode b_X_countOfOne 16 = .ok (.ireturn, 1) := by decide +kernel
theorem d_X_countOfOne_17 : decode b_X_countOfOne 17 = .ok (.aload_n 0, 1) := by decide +kernel
theorem d_X_countOfOne_18 : decode b_X_countOfOne 18 = .ok (.iload_n 1, 1) := by decide +kernel
theorem d_X_countOfOne_19 : decode b_X_countOfOne 19 = .ok (.bipush 13, 2) := by decide +kernel
theorem d_X_countOfOne_21 : decode b_X_countOfOne 21 = .ok (.isub, 1) := by decide +kernel
theorem d_X_countOfOne_22 : decode b_X_countOfOne 22 = .ok (.invokevirtual 52, 3) := by decide +kernel
theorem d_X_countOfOne_25 : decode b_X_countOfOne 25 = .ok (.astore_n 2, 1) := by decide +kernel
theorem d_X_countOfOne_26 : decode b_X_countOfOne 26 = .ok (.aload_n 2, 1) := by decide +kernel
theorem d_X_countOfOne_27 : decode b_X_countOfOne 27 = .ok (.ifnull 8, 3) := by decide +kernel
theorem d_X_countOfOne_30 : decode b_X_countOfOne 30 = .ok (.aload_n 2, 1) := by decide +kernel
theorem d_X_countOfOne_31 : decode b_X_countOfOne 31 = .ok (.getfield 193, 3) := by decide +kernel
theorem d_X_countOfOne_34 : decode b_X_countOfOne 34 = .ok (.ireturn, 1) := by decide +kernel
theorem d_X_countOfOne_35 : decode b_X_countOfOne 35 = .ok (.aload_n 0, 1) := by decide +kernel
theorem d_X_countOfOne_36 : decode b_X_countOfOne 36 = .ok (.iload_n 1, 1) := by decide +kernel
theorem d_X_countOfOne_37 : decode b_X_countOfOne 37 = .ok (.bipush 21, 2) := by decide +kernel
theorem d_X_countOfOne_39 : decode b_X_countOfOne 39 = .ok (.isub, 1) := by decide +kernel
theorem d_X_countOfOne_40 : decode b_X_countOfOne 40 = .ok (.invokevirtual 37, 3) := by decide +kernel
theorem d_X_countOfOne_43 : decode b_X_countOfOne 43 = .ok (.astore_n 3, 1) := by decide +kernel
theorem d_X_countOfOne_44 : decode b_X_countOfOne 44 = .ok (.aload_n 3, 1) := by decide +kernel
theorem d_X_countOfOne_45 : decode b_X_countOfOne 45 = .ok (.ifnonnull 7, 3) := by decide +kernel
theorem d_X_countOfOne_48 : decode b_X_countOfOne 48 = .ok (.iconst (-1), 1) := by decide +kernel
theorem d_X_countOfOne_49 : decode b_X_countOfOne 49 = .ok (.goto 8, 3) := by decide +kernel
theorem d_X_countOfOne_52 : decode b_X_countOfOne 52 = .ok (.aload_n 0, 1) := by decide +kernel
theorem d_X_countOfOne_53 : decode b_X_countOfOne 53 = .ok (.aload_n 3, 1) := by decide +kernel
theorem d_X_countOfOne_54 : decode b_X_countOfOne 54 = .ok (.invokevirtual 196, 3) := by decide +kernel
theorem d_X_countOfOne_57 : decode b_X_countOfOne 57 = .ok (.ireturn, 1) := by decide +kernel
theorem d_X_isWorker_0 : decode b_X_isWorker 0 = .ok (.iload_n 0, 1) := by decide +kernel
theorem d_X_isWorker_1 : decode b_X_isWorker 1 = .ok (.iconst 0, 1) := by decide +kernel
theorem d_X_isWorker_2 : decode b_X_isWorker 2 = .ok (.bipush 7, 2) := by decide +kernel
theorem d_X_isWorker_4 : decode b_X_isWorker 4 = .ok (.invokestatic 41, 3) := by decide +kernel
theorem d_X_isWorker_7 : decode b_X_isWorker 7 = .ok (.ireturn, 1) := by decide +kernel
theorem d_X_lentTo_0 : decode b_X_lentTo 0 = .ok (.iconst 0, 1) := by decide +kernel
theorem d_X_lentTo_1 : decode b_X_lentTo 1 = .ok (.istore_n 2, 1) := by decide +kernel
theorem d_X_lentTo_2 : decode b_X_lentTo 2 = .ok (.iconst 0, 1) := by decide +kernel
theorem d_X_lentTo_3 : decode b_X_lentTo 3 = .ok (.istore_n 3, 1) := by decide +kernel
theorem d_X_lentTo_4 : decode b_X_lentTo 4 = .ok (.iload_n 3, 1) := by decide +kernel
theorem d_X_lentTo_5 : decode b_X_lentTo 5 = .ok (.aload_n 0, 1) := by decide +kernel
theorem d_X_lentTo_6 : decode b_X_lentTo 6 = .ok (.getfield 24, 3) := by decide +kernel
theorem d_X_lentTo_9 : decode b_X_lentTo 9 = .ok (.invokevirtual 66, 3) := by decide +kernel
theorem d_X_lentTo_12 : decode b_X_lentTo 12 = .ok (.if_icmp .ge 43, 3) := by decide +kernel
theorem d_X_lentTo_15 : decode b_X_lentTo 15 = .ok (.aload_n 0, 1) := by decide +kernel
theorem d_X_lentTo_16 : decode b_X_lentTo 16 = .ok (.getfield 24, 3) := by decide +kernel
theorem d_X_lentTo_19 : decode b_X_lentTo 19 = .ok (.iload_n 3, 1) := by decide +kernel
theorem d_X_lentTo_20 : decode b_X_lentTo 20 = .ok (.invokevirtual 140, 3) := by decide +kernel
theorem d_X_lentTo_23 : decode b_X_lentTo 23 = .ok (.checkcast 74, 3) := by decide +kernel
theorem d_X_lentTo_26 : decode b_X_lentTo 26 = .ok (.astore 4, 2) := by decide +kernel
theorem d_X_lentTo_28 : decode b_X_lentTo 28 = .ok (.aload 4, 2) := by decide +kernel
theorem d_X_lentTo_30 : decode b_X_lentTo 30 = .ok (.getfield 144, 3) := by decide +kernel
theorem d_X_lentTo_33 : decode b_X_lentTo 33 = .ok (.iconst 1, 1) := by decide +kernel
theorem d_X_lentTo_34 : decode b_X_lentTo 34 = .ok (.if_icmp .ne 15, 3) := by decide +kernel
theorem d_X_lentTo_37 : decode b_X_lentTo 37 = .ok (.aload 4, 2) := by decide +kernel
theorem d_X_lentTo_39 : decode b_X_lentTo 39 = .ok (.getfield 170, 3) := by decide +kernel
theorem d_X_lentTo_42 : decode b_X_lentTo 42 = .ok (.iload_n 1, 1) := by decide +kernel
theorem d_X_lentTo_43 : decode b_X_lentTo 43 = .ok (.if_icmp .ne 6, 3) := by decide +kernel
theorem d_X_lentTo_46 : decode b_X_lentTo 46 = .ok (.iinc 2 1, 3) := by decide +kernel
theorem d_X_lentTo_49 : decode b_X_lentTo 49 = .ok (.iinc 3 1, 3) := by decide +kernel
theorem d_X_lentTo_52 : decode b_X_lentTo 52 = .ok (.goto (-48), 3) := by decide +kernel
theorem d_X_lentTo_55 : decode b_X_lentTo 55 = .ok (.iload_n 2, 1) := by decide +kernel
theorem d_X_lentTo_56 : decode b_X_lentTo 56 = .ok (.ireturn, 1) := by decide +kernel
theorem d_X_waitingIn_0 : decode b_X_waitingIn 0 = .ok (.iconst 0, 1) := by decide +kernel
theorem d_X_waitingIn_1 : decode b_X_waitingIn 1 = .ok (.istore_n 2, 1) := by decide +kernel
theorem d_X_waitingIn_2 : decode b_X_waitingIn 2 = .ok (.iconst 0, 1) := by decide +kernel
theorem d_X_waitingIn_3 : decode b_X_waitingIn 3 = .ok (.istore_n 3, 1) := by decide +kernel
theorem d_X_waitingIn_4 : decode b_X_waitingIn 4 = .ok (.iload_n 3, 1) := by decide +kernel
theorem d_X_waitingIn_5 : decode b_X_waitingIn 5 = .ok (.aload_n 0, 1) := by decide +kernel
theorem d_X_waitingIn_6 : decode b_X_waitingIn 6 = .ok (.getfield 24, 3) := by decide +kernel
theorem d_X_waitingIn_9 : decode b_X_waitingIn 9 = .ok (.invokevirtual 66, 3) := by decide +kernel
theorem d_X_waitingIn_12 : decode b_X_waitingIn 12 = .ok (.if_icmp .ge 42, 3) := by decide +kernel
theorem d_X_waitingIn_15 : decode b_X_waitingIn 15 = .ok (.aload_n 0, 1) := by decide +kernel
theorem d_X_waitingIn_16 : decode b_X_waitingIn 16 = .ok (.getfield 24, 3) := by decide +kernel
theorem d_X_waitingIn_19 : decode b_X_waitingIn 19 = .ok (.iload_n 3, 1) := by decide +kernel
theorem d_X_waitingIn_20 : decode b_X_waitingIn 20 = .ok (.invokevirtual 140, 3) := by decide +kernel
theorem d_X_waitingIn_23 : decode b_X_waitingIn 23 = .ok (.checkcast 74, 3) := by decide +kernel
theorem d_X_waitingIn_26 : decode b_X_waitingIn 26 = .ok (.astore 4, 2) := by decide +kernel
theorem d_X_waitingIn_28 : decode b_X_waitingIn 28 = .ok (.aload 4, 2) := by decide +kernel
theorem d_X_waitingIn_30 : decode b_X_waitingIn 30 = .ok (.getfield 144, 3) := by decide +kernel
theorem d_X_waitingIn_33 : decode b_X_waitingIn 33 = .ok (.ifCond .ne 15, 3) := by decide +kernel
theorem d_X_waitingIn_36 : decode b_X_waitingIn 36 = .ok (.aload 4, 2) := by decide +kernel
theorem d_X_waitingIn_38 : decode b_X_waitingIn 38 = .ok (.getfield 105, 3) := by decide +kernel
theorem d_X_waitingIn_41 : decode b_X_waitingIn 41 = .ok (.aload_n 1, 1) := by decide +kernel
theorem d_X_waitingIn_42 : decode b_X_waitingIn 42 = .ok (.if_acmp .ne 6, 3) := by decide +kernel
theorem d_X_waitingIn_45 : decode b_X_waitingIn 45 = .ok (.iinc 2 1, 3) := by decide +kernel
theorem d_X_waitingIn_48 : decode b_X_waitingIn 48 = .ok (.iinc 3 1, 3) := by decide +kernel
theorem d_X_waitingIn_51 : decode b_X_waitingIn 51 = .ok (.goto (-47), 3) := by decide +kernel
theorem d_X_waitingIn_54 : decode b_X_waitingIn 54 = .ok (.iload_n 2, 1) := by decide +kernel
theorem d_X_waitingIn_55 : decode b_X_waitingIn 55 = .ok (.ireturn, 1) := by decide +kernel
theorem d_L_add_0 : decode b_L_add 0 = .ok (.aload 7, 2) := by decide +kernel
theorem d_L_add_2 : decode b_L_add 2 = .ok (.iconst 0, 1) := by decide +kernel
theorem d_L_add_3 : decode b_L_add 3 = .ok (.aload_n 0, 1) := by decide +kernel
theorem d_L_add_4 : decode b_L_add 4 = .ok (.iload_n 1, 1) := by decide +kernel
theorem d_L_add_5 : decode b_L_add 5 = .ok (.iload_n 2, 1) := by decide +kernel
theorem d_L_add_6 : decode b_L_add 6 = .ok (.iload_n 3, 1) := by decide +kernel
theorem d_L_add_7 : decode b_L_add 7 = .ok (.lload 4, 2) := by decide +kernel
theorem d_L_add_9 : decode b_L_add 9 = .ok (.iload 6, 2) := by decide +kernel
theorem d_L_add_11 : decode b_L_add 11 = .ok (.invokevirtual 7, 3) := by decide +kernel
theorem d_L_add_14 : decode b_L_add 14 = .ok (.i2l, 1) := by decide +kernel
theorem d_L_add_15 : decode b_L_add 15 = .ok (.lastore, 1) := by decide +kernel
theorem d_L_add_16 : decode b_L_add 16 = .ok (.goto 11, 3) := by decide +kernel
theorem d_L_add_19 : decode b_L_add 19 = .ok (.astore 8, 2) := by decide +kernel
theorem d_L_add_21 : decode b_L_add 21 = .ok (.iconst 1, 1) := by decide +kernel
theorem d_L_add_22 : decode b_L_add 22 = .ok (.ireturn, 1) := by decide +kernel
theorem d_L_add_23 : decode b_L_add 23 = .ok (.astore 8, 2) := by decide +kernel
theorem d_L_add_25 : decode b_L_add 25 = .ok (.iconst 2, 1) := by decide +kernel
theorem d_L_add_26 : decode b_L_add 26 = .ok (.ireturn, 1) := by decide +kernel
theorem d_L_add_27 : decode b_L_add 27 = .ok (.iconst 0, 1) := by decide +kernel
end
section
theorem d_L_add_28 : decode b_L_add 28 = .ok (.ireturn, 1) := by decide +kernel
theorem d_X_add_0 : decode b_X_add 0 = .ok (.aload_n 0, 1) := by decide +kernel
theorem d_X_add_1 : decode b_X_add 1 = .ok (.iload_n 1, 1) := by decide +kernel
theorem d_X_add_2 : decode b_X_add 2 = .ok (.invokevirtual 37, 3) := by decide +kernel
theorem d_X_add_5 : decode b_X_add 5 = .ok (.astore 7, 2) := by decide +kernel
theorem d_X_add_7 : decode b_X_add 7 = .ok (.aload 7, 2) := by decide +kernel
theorem d_X_add_9 : decode b_X_add 9 = .ok (.ifnull 24, 3) := by decide +kernel
theorem d_X_add_12 : decode b_X_add 12 = .ok (.iload_n 2, 1) := by decide +kernel
theorem d_X_add_13 : decode b_X_add 13 = .ok (.iconst 0, 1) := by decide +kernel
theorem d_X_add_14 : decode b_X_add 14 = .ok (.iconst 3, 1) := by decide +kernel
theorem d_X_add_15 : decode b_X_add 15 = .ok (.invokestatic 41, 3) := by decide +kernel
theorem d_X_add_18 : decode b_X_add 18 = .ok (.ifCond .eq 15, 3) := by decide +kernel
theorem d_X_add_21 : decode b_X_add 21 = .ok (.iload 6, 2) := by decide +kernel
theorem d_X_add_23 : decode b_X_add 23 = .ok (.iconst 0, 1) := by decide +kernel
theorem d_X_add_24 : decode b_X_add 24 = .ok (.sipush 1000, 3) := by decide +kernel
theorem d_X_add_27 : decode b_X_add 27 = .ok (.invokestatic 41, 3) := by decide +kernel
theorem d_X_add_30 : decode b_X_add 30 = .ok (.ifCond .ne 13, 3) := by decide +kernel
theorem d_X_add_33 : decode b_X_add 33 = .ok (.new 45, 3) := by decide +kernel
theorem d_X_add_36 : decode b_X_add 36 = .ok (.dup, 1) := by decide +kernel
theorem d_X_add_37 : decode b_X_add 37 = .ok (.ldc 47, 2) := by decide +kernel
theorem d_X_add_39 : decode b_X_add 39 = .ok (.invokespecial 49, 3) := by decide +kernel
theorem d_X_add_42 : decode b_X_add 42 = .ok (.athrow, 1) := by decide +kernel
theorem d_X_add_43 : decode b_X_add 43 = .ok (.iload_n 3, 1) := by decide +kernel
theorem d_X_add_44 : decode b_X_add 44 = .ok (.iconst (-1), 1) := by decide +kernel
theorem d_X_add_45 : decode b_X_add 45 = .ok (.if_icmp .eq 21, 3) := by decide +kernel
theorem d_X_add_48 : decode b_X_add 48 = .ok (.aload_n 0, 1) := by decide +kernel
theorem d_X_add_49 : decode b_X_add 49 = .ok (.iload_n 3, 1) := by decide +kernel
theorem d_X_add_50 : decode b_X_add 50 = .ok (.invokevirtual 52, 3) := by decide +kernel
theorem d_X_add_53 : decode b_X_add 53 = .ok (.ifnonnull 13, 3) := by decide +kernel
theorem d_X_add_56 : decode b_X_add 56 = .ok (.new 45, 3) := by decide +kernel
theorem d_X_add_59 : decode b_X_add 59 = .ok (.dup, 1) := by decide +kernel
theorem d_X_add_60 : decode b_X_add 60 = .ok (.ldc 56, 2) := by decide +kernel
theorem d_X_add_62 : decode b_X_add 62 = .ok (.invokespecial 49, 3) := by decide +kernel
theorem d_X_add_65 : decode b_X_add 65 = .ok (.athrow, 1) := by decide +kernel
theorem d_X_add_66 : decode b_X_add 66 = .ok (.lload 4, 2) := by decide +kernel
theorem d_X_add_68 : decode b_X_add 68 = .ok (.lconst 0, 1) := by decide +kernel
theorem d_X_add_69 : decode b_X_add 69 = .ok (.lcmp, 1) := by decide +kernel
theorem d_X_add_70 : decode b_X_add 70 = .ok (.ifCond .ne 7, 3) := by decide +kernel
theorem d_X_add_73 : decode b_X_add 73 = .ok (.iconst (-1), 1) := by decide +kernel
theorem d_X_add_74 : decode b_X_add 74 = .ok (.goto 11, 3) := by decide +kernel
theorem d_X_add_77 : decode b_X_add 77 = .ok (.aload_n 0, 1) := by decide +kernel
theorem d_X_add_78 : decode b_X_add 78 = .ok (.aload 7, 2) := by decide +kernel
theorem d_X_add_80 : decode b_X_add 80 = .ok (.lload 4, 2) := by decide +kernel
theorem d_X_add_82 : decode b_X_add 82 = .ok (.invokevirtual 58, 3) := by decide +kernel
theorem d_X_add_85 : decode b_X_add 85 = .ok (.istore 8, 2) := by decide +kernel
theorem d_X_add_87 : decode b_X_add 87 = .ok (.iload 8, 2) := by decide +kernel
theorem d_X_add_89 : decode b_X_add 89 = .ok (.iconst (-1), 1) := by decide +kernel
theorem d_X_add_90 : decode b_X_add 90 = .ok (.if_icmp .eq 6, 3) := by decide +kernel
theorem d_X_add_93 : decode b_X_add 93 = .ok (.iload 8, 2) := by decide +kernel
theorem d_X_add_95 : decode b_X_add 95 = .ok (.ireturn, 1) := by decide +kernel
theorem d_X_add_96 : decode b_X_add 96 = .ok (.aload_n 0, 1) := by decide +kernel
theorem d_X_add_97 : decode b_X_add 97 = .ok (.invokevirtual 62, 3) := by decide +kernel
theorem d_X_add_100 : decode b_X_add 100 = .ok (.bipush 64, 2) := by decide +kernel
theorem d_X_add_102 : decode b_X_add 102 = .ok (.if_icmp .ge 16, 3) := by decide +kernel
theorem d_X_add_105 : decode b_X_add 105 = .ok (.aload_n 0, 1) := by decide +kernel
theorem d_X_add_106 : decode b_X_add 106 = .ok (.getfield 24, 3) := by decide +kernel
theorem d_X_add_109 : decode b_X_add 109 = .ok (.invokevirtual 66, 3) := by decide +kernel
theorem d_X_add_112 : decode b_X_add 112 = .ok (.sipush 400, 3) := by decide +kernel
theorem d_X_add_115 : decode b_X_add 115 = .ok (.if_icmp .lt 13, 3) := by decide +kernel
theorem d_X_add_118 : decode b_X_add 118 = .ok (.new 69, 3) := by decide +kernel
theorem d_X_add_121 : decode b_X_add 121 = .ok (.dup, 1) := by decide +kernel
theorem d_X_add_122 : decode b_X_add 122 = .ok (.ldc 71, 2) := by decide +kernel
theorem d_X_add_124 : decode b_X_add 124 = .ok (.invokespecial 73, 3) := by decide +kernel
theorem d_X_add_127 : decode b_X_add 127 = .ok (.athrow, 1) := by decide +kernel
theorem d_X_add_128 : decode b_X_add 128 = .ok (.aload_n 0, 1) := by decide +kernel
theorem d_X_add_129 : decode b_X_add 129 = .ok (.getfield 24, 3) := by decide +kernel
theorem d_X_add_132 : decode b_X_add 132 = .ok (.invokevirtual 66, 3) := by decide +kernel
theorem d_X_add_135 : decode b_X_add 135 = .ok (.istore 9, 2) := by decide +kernel
theorem d_X_add_137 : decode b_X_add 137 = .ok (.aload_n 0, 1) := by decide +kernel
theorem d_X_add_138 : decode b_X_add 138 = .ok (.getfield 24, 3) := by decide +kernel
theorem d_X_add_141 : decode b_X_add 141 = .ok (.new 74, 3) := by decide +kernel
theorem d_X_add_144 : decode b_X_add 144 = .ok (.dup, 1) := by decide +kernel
theorem d_X_add_145 : decode b_X_add 145 = .ok (.iload 9, 2) := by decide +kernel
theorem d_X_add_147 : decode b_X_add 147 = .ok (.aload 7, 2) := by decide +kernel
theorem d_X_add_149 : decode b_X_add 149 = .ok (.iload_n 2, 1) := by decide +kernel
theorem d_X_add_150 : decode b_X_add 150 = .ok (.aload_n 0, 1) := by decide +kernel
theorem d_X_add_151 : decode b_X_add 151 = .ok (.iload_n 3, 1) := by decide +kernel
theorem d_X_add_152 : decode b_X_add 152 = .ok (.invokevirtual 52, 3) := by decide +kernel
theorem d_X_add_155 : decode b_X_add 155 = .ok (.lload 4, 2) := by decide +kernel
theorem d_X_add_157 : decode b_X_add 157 = .ok (.aload_n 0, 1) := by decide +kernel
theorem d_X_add_158 : decode b_X_add 158 = .ok (.getfield 28, 3) := by decide +kernel
theorem d_X_add_161 : decode b_X_add 161 = .ok (.iload 6, 2) := by decide +kernel
theorem d_X_add_163 : decode b_X_add 163 = .ok (.iadd, 1) := by decide +kernel
theorem d_X_add_164 : decode b_X_add 164 = .ok (.invokespecial 76, 3) := by decide +kernel
theorem d_X_add_167 : decode b_X_add 167 = .ok (.invokevirtual 79, 3) := by decide +kernel
theorem d_X_add_170 : decode b_X_add 170 = .ok (.pop, 1) := by decide +kernel
theorem d_X_add_171 : decode b_X_add 171 = .ok (.iload 9, 2) := by decide +kernel
theorem d_X_add_173 : decode b_X_add 173 = .ok (.ireturn, 1) := by decide +kernel
theorem d_X_numberUnder_0 : decode b_X_numberUnder 0 = .ok (.aload_n 0, 1) := by decide +kernel
theorem d_X_numberUnder_1 : decode b_X_numberUnder 1 = .ok (.getfield 24, 3) := by decide +kernel
theorem d_X_numberUnder_4 : decode b_X_numberUnder 4 = .ok (.invokevirtual 66, 3) := by decide +kernel
theorem d_X_numberUnder_7 : decode b_X_numberUnder 7 = .ok (.iconst 1, 1) := by decide +kernel
theorem d_X_numberUnder_8 : decode b_X_numberUnder 8 = .ok (.isub, 1) := by decide +kernel
theorem d_X_numberUnder_9 : decode b_X_numberUnder 9 = .ok (.istore 4, 2) := by decide +kernel
theorem d_X_numberUnder_11 : decode b_X_numberUnder 11 = .ok (.iload 4, 2) := by decide +kernel
theorem d_X_numberUnder_13 : decode b_X_numberUnder 13 = .ok (.ifCond .lt 57, 3) := by decide +kernel
theorem d_X_numberUnder_16 : decode b_X_numberUnder 16 = .ok (.aload_n 0, 1) := by decide +kernel
theorem d_X_numberUnder_17 : decode b_X_numberUnder 17 = .ok (.getfield 24, 3) := by decide +kernel
theorem d_X_numberUnder_20 : decode b_X_numberUnder 20 = .ok (.iload 4, 2) := by decide +kernel
theorem d_X_numberUnder_22 : decode b_X_numberUnder 22 = .ok (.invokevirtual 140, 3) := by decide +kernel
theorem d_X_numberUnder_25 : decode b_X_numberUnder 25 = .ok (.checkcast 74, 3) := by decide +kernel
theorem d_X_numberUnder_28 : decode b_X_numberUnder 28 = .ok (.astore 5, 2) := by decide +kernel
theorem d_X_numberUnder_30 : decode b_X_numberUnder 30 = .ok (.aload 5, 2) := by decide +kernel
theorem d_X_numberUnder_32 : decode b_X_numberUnder 32 = .ok (.getfield 105, 3) := by decide +kernel
theorem d_X_numberUnder_35 : decode b_X_numberUnder 35 = .ok (.aload_n 1, 1) := by decide +kernel
theorem d_X_numberUnder_36 : decode b_X_numberUnder 36 = .ok (.if_acmp .ne 28, 3) := by decide +kernel
theorem d_X_numberUnder_39 : decode b_X_numberUnder 39 = .ok (.aload 5, 2) := by decide +kernel
theorem d_X_numberUnder_41 : decode b_X_numberUnder 41 = .ok (.getfield 203, 3) := by decide +kernel
theorem d_X_numberUnder_44 : decode b_X_numberUnder 44 = .ok (.lload_n 2, 1) := by decide +kernel
theorem d_X_numberUnder_45 : decode b_X_numberUnder 45 = .ok (.lcmp, 1) := by decide +kernel
theorem d_X_numberUnder_46 : decode b_X_numberUnder 46 = .ok (.ifCond .ne 18, 3) := by decide +kernel
theorem d_X_numberUnder_49 : decode b_X_numberUnder 49 = .ok (.aload 5, 2) := by decide +kernel
theorem d_X_numberUnder_51 : decode b_X_numberUnder 51 = .ok (.aload_n 0, 1) := by decide +kernel
theorem d_X_numberUnder_52 : decode b_X_numberUnder 52 = .ok (.getfield 28, 3) := by decide +kernel
theorem d_X_numberUnder_55 : decode b_X_numberUnder 55 = .ok (.invokevirtual 207, 3) := by decide +kernel
theorem d_X_numberUnder_58 : decode b_X_numberUnder 58 = .ok (.ifCond .eq 6, 3) := by decide +kernel
theorem d_X_numberUnder_61 : decode b_X_numberUnder 61 = .ok (.iload 4, 2) := by decide +kernel
theorem d_X_numberUnder_63 : decode b_X_numberUnder 63 = .ok (.ireturn, 1) := by decide +kernel
theorem d_X_numberUnder_64 : decode b_X_numberUnder 64 = .ok (.iinc 4 (-1), 3) := by decide +kernel
theorem d_X_numberUnder_67 : decode b_X_numberUnder 67 = .ok (.goto (-56), 3) := by decide +kernel
theorem d_X_numberUnder_70 : decode b_X_numberUnder 70 = .ok (.iconst (-1), 1) := by decide +kernel
theorem d_X_numberUnder_71 : decode b_X_numberUnder 71 = .ok (.ireturn, 1) := by decide +kernel
theorem d_T_holdsKey_0 : decode b_T_holdsKey 0 = .ok (.aload_n 0, 1) := by decide +kernel
theorem d_T_holdsKey_1 : decode b_T_holdsKey 1 = .ok (.invokevirtual 63, 3) := by decide +kernel
theorem d_T_holdsKey_4 : decode b_T_holdsKey 4 = .ok (.ifCond .ne 27, 3) := by decide +kernel
theorem d_T_holdsKey_7 : decode b_T_holdsKey 7 = .ok (.aload_n 0, 1) := by decide +kernel
theorem d_T_holdsKey_8 : decode b_T_holdsKey 8 = .ok (.getfield 9, 3) := by decide +kernel
theorem d_T_holdsKey_11 : decode b_T_holdsKey 11 = .ok (.iconst 2, 1) := by decide +kernel
theorem d_T_holdsKey_12 : decode b_T_holdsKey 12 = .ok (.if_icmp .ne 23, 3) := by decide +kernel
theorem d_T_holdsKey_15 : decode b_T_holdsKey 15 = .ok (.iload_n 1, 1) := by decide +kernel
theorem d_T_holdsKey_16 : decode b_T_holdsKey 16 = .ok (.aload_n 0, 1) := by decide +kernel
theorem d_T_holdsKey_17 : decode b_T_holdsKey 17 = .ok (.getfield 27, 3) := by decide +kernel
theorem d_T_holdsKey_20 : decode b_T_holdsKey 20 = .ok (.isub, 1) := by decide +kernel
theorem d_T_holdsKey_21 : decode b_T_holdsKey 21 = .ok (.aload_n 0, 1) := by decide +kernel
theorem d_T_holdsKey_22 : decode b_T_holdsKey 22 = .ok (.getfield 33, 3) := by decide +kernel
theorem d_T_holdsKey_25 : decode b_T_holdsKey 25 = .ok (.getfield 67, 3) := by decide +kernel
theorem d_T_holdsKey_28 : decode b_T_holdsKey 28 = .ok (.if_icmp .gt 7, 3) := by decide +kernel
theorem d_T_holdsKey_31 : decode b_T_holdsKey 31 = .ok (.iconst 1, 1) := by decide +kernel
theorem d_T_holdsKey_32 : decode b_T_holdsKey 32 = .ok (.goto 4, 3) := by decide +kernel
theorem d_T_holdsKey_35 : decode b_T_holdsKey 35 = .ok (.iconst 0, 1) := by decide +kernel
theorem d_T_holdsKey_36 : decode b_T_holdsKey 36 = .ok (.ireturn, 1) := by decide +kernel
theorem d_T_init_0 : decode b_T_init 0 = .ok (.aload_n 0, 1) := by decide +kernel
theorem d_T_init_1 : decode b_T_init 1 = .ok (.invokespecial 3, 3) := by decide +kernel
theorem d_T_init_4 : decode b_T_init 4 = .ok (.aload_n 0, 1) := by decide +kernel
theorem d_T_init_5 : decode b_T_init 5 = .ok (.iconst 0, 1) := by decide +kernel
theorem d_T_init_6 : decode b_T_init 6 = .ok (.putfield 9, 3) := by decide +kernel
theorem d_T_init_9 : decode b_T_init 9 = .ok (.aload_n 0, 1) := by decide +kernel
theorem d_T_init_10 : decode b_T_init 10 = .ok (.iconst 0, 1) := by decide +kernel
theorem d_T_init_11 : decode b_T_init 11 = .ok (.putfield 15, 3) := by decide +kernel
theorem d_T_init_14 : decode b_T_init 14 = .ok (.aload_n 0, 1) := by decide +kernel
theorem d_T_init_15 : decode b_T_init 15 = .ok (.iconst (-1), 1) := by decide +kernel
theorem d_T_init_16 : decode b_T_init 16 = .ok (.putfield 18, 3) := by decide +kernel
theorem d_T_init_19 : decode b_T_init 19 = .ok (.aload_n 0, 1) := by decide +kernel
theorem d_T_init_20 : decode b_T_init 20 = .ok (.iconst (-1), 1) := by decide +kernel
theorem d_T_init_21 : decode b_T_init 21 = .ok (.putfield 21, 3) := by decide +kernel
theorem d_T_init_24 : decode b_T_init 24 = .ok (.aload_n 0, 1) := by decide +kernel
theorem d_T_init_25 : decode b_T_init 25 = .ok (.iconst (-1), 1) := by decide +kernel
theorem d_T_init_26 : decode b_T_init 26 = .ok (.putfield 24, 3) := by decide +kernel
theorem d_T_init_29 : decode b_T_init 29 = .ok (.aload_n 0, 1) := by decide +kernel
theorem d_T_init_30 : decode b_T_init 30 = .ok (.iconst (-1), 1) := by decide +kernel
theorem d_T_init_31 : decode b_T_init 31 = .ok (.putfield 27, 3) := by decide +kernel
theorem d_T_init_34 : decode b_T_init 34 = .ok (.aload_n 0, 1) := by decide +kernel
theorem d_T_init_35 : decode b_T_init 35 = .ok (.iload_n 1, 1) := by decide +kernel
theorem d_T_init_36 : decode b_T_init 36 = .ok (.putfield 30, 3) := by decide +kernel
theorem d_T_init_39 : decode b_T_init 39 = .ok (.aload_n 0, 1) := by decide +kernel
theorem d_T_init_40 : decode b_T_init 40 = .ok (.aload_n 2, 1) := by decide +kernel
theorem d_T_init_41 : decode b_T_init 41 = .ok (.putfield 33, 3) := by decide +kernel
theorem d_T_init_44 : decode b_T_init 44 = .ok (.aload_n 0, 1) := by decide +kernel
theorem d_T_init_45 : decode b_T_init 45 = .ok (.iload_n 3, 1) := by decide +kernel
theorem d_T_init_46 : decode b_T_init 46 = .ok (.putfield 37, 3) := by decide +kernel
theorem d_T_init_49 : decode b_T_init 49 = .ok (.aload_n 0, 1) := by decide +kernel
theorem d_T_init_50 : decode b_T_init 50 = .ok (.aload 4, 2) := by decide +kernel
theorem d_T_init_52 : decode b_T_init 52 = .ok (.putfield 40, 3) := by decide +kernel
theorem d_T_init_55 : decode b_T_init 55 = .ok (.aload_n 0, 1) := by decide +kernel
theorem d_T_init_56 : decode b_T_init 56 = .ok (.lload 5, 2) := by decide +kernel
theorem d_T_init_58 : decode b_T_init 58 = .ok (.putfield 44, 3) := by decide +kernel
theorem d_T_init_61 : decode b_T_init 61 = .ok (.aload_n 0, 1) := by decide +kernel
theorem d_T_init_62 : decode b_T_init 62 = .ok (.iload 7, 2) := by decide +kernel
theorem d_T_init_64 : decode b_T_init 64 = .ok (.putfield 48, 3) := by decide +kernel
theorem d_T_init_67 : decode b_T_init 67 = .ok (.return_, 1) := by decide +kernel
theorem d_A_add_0 : decode b_A_add 0 = .ok (.aload_n 0, 1) := by decide +kernel
theorem d_A_add_1 : decode b_A_add 1 = .ok (.dup, 1) := by decide +kernel
theorem d_A_add_2 : decode b_A_add 2 = .ok (.getfield 63, 3) := by decide +kernel
theorem d_A_add_5 : decode b_A_add 5 = .ok (.iconst 1, 1) := by decide +kernel
theorem d_A_add_6 : decode b_A_add 6 = .ok (.iadd, 1) := by decide +kernel
theorem d_A_add_7 : decode b_A_add 7 = .ok (.putfield 63, 3) := by decide +kernel
theorem d_A_add_10 : decode b_A_add 10 = .ok (.aload_n 0, 1) := by decide +kernel
theorem d_A_add_11 : decode b_A_add 11 = .ok (.aload_n 1, 1) := by decide +kernel
theorem d_A_add_12 : decode b_A_add 12 = .ok (.aload_n 0, 1) := by decide +kernel
theorem d_A_add_13 : decode b_A_add 13 = .ok (.getfield 9, 3) := by decide +kernel
theorem d_A_add_16 : decode b_A_add 16 = .ok (.aload_n 0, 1) := by decide +kernel
theorem d_A_add_17 : decode b_A_add 17 = .ok (.getfield 48, 3) := by decide +kernel
theorem d_A_add_20 : decode b_A_add 20 = .ok (.invokevirtual 131, 3) := by decide +kernel
theorem d_A_add_23 : decode b_A_add 23 = .ok (.iconst 1, 1) := by decide +kernel
theorem d_A_add_24 : decode b_A_add 24 = .ok (.ireturn, 1) := by decide +kernel
theorem d_A_add3_0 : decode b_A_add3 0 = .ok (.iload_n 3, 1) := by decide +kernel
theorem d_A_add3_1 : decode b_A_add3 1 = .ok (.aload_n 2, 1) := by decide +kernel
theorem d_A_add3_2 : decode b_A_add3 2 = .ok (.arraylength, 1) := by decide +kernel
theorem d_A_add3_3 : decode b_A_add3 3 = .ok (.if_icmp .ne 8, 3) := by decide +kernel
theorem d_A_add3_6 : decode b_A_add3 6 = .ok (.aload_n 0, 1) := by decide +kernel
theorem d_A_add3_7 : decode b_A_add3 7 = .ok (.invokevirtual 129, 3) := by decide +kernel
theorem d_A_add3_10 : decode b_A_add3 10 = .ok (.astore_n 2, 1) := by decide +kernel
theorem d_A_add3_11 : decode b_A_add3 11 = .ok (.aload_n 2, 1) := by decide +kernel
theorem d_A_add3_12 : decode b_A_add3 12 = .ok (.iload_n 3, 1) := by decide +kernel
theorem d_A_add3_13 : decode b_A_add3 13 = .ok (.aload_n 1, 1) := by decide +kernel
theorem d_A_add3_14 : decode b_A_add3 14 = .ok (.aastore, 1) := by decide +kernel
theorem d_A_add3_15 : decode b_A_add3 15 = .ok (.aload_n 0, 1) := by decide +kernel
theorem d_A_add3_16 : decode b_A_add3 16 = .ok (.iload_n 3, 1) := by decide +kernel
theorem d_A_add3_17 : decode b_A_add3 17 = .ok (.iconst 1, 1) := by decide +kernel
theorem d_A_add3_18 : decode b_A_add3 18 = .ok (.iadd, 1) := by decide +kernel
theorem d_A_add3_19 : decode b_A_add3 19 = .ok (.putfield 48, 3) := by decide +kernel
theorem d_A_add3_22 : decode b_A_add3 22 = .ok (.return_, 1) := by decide +kernel
theorem d_A_grow_0 : decode b_A_grow 0 = .ok (.aload_n 0, 1) := by decide +kernel
theorem d_A_grow_1 : decode b_A_grow 1 = .ok (.aload_n 0, 1) := by decide +kernel
theorem d_A_grow_2 : decode b_A_grow 2 = .ok (.getfield 48, 3) := by decide +kernel
theorem d_A_grow_5 : decode b_A_grow 5 = .ok (.iconst 1, 1) := by decide +kernel
theorem d_A_grow_6 : decode b_A_grow 6 = .ok (.iadd, 1) := by decide +kernel
theorem d_A_grow_7 : decode b_A_grow 7 = .ok (.invokevirtual 69, 3) := by decide +kernel
theorem d_A_grow_10 : decode b_A_grow 10 = .ok (.areturn, 1) := by decide +kernel
theorem d_A_grow1_0 : decode b_A_grow1 0 = .ok (.aload_n 0, 1) := by decide +kernel
theorem d_A_grow1_1 : decode b_A_grow1 1 = .ok (.getfield 9, 3) := by decide +kernel
theorem d_A_grow1_4 : decode b_A_grow1 4 = .ok (.arraylength, 1) := by decide +kernel
theorem d_A_grow1_5 : decode b_A_grow1 5 = .ok (.istore_n 2, 1) := by decide +kernel
theorem d_A_grow1_6 : decode b_A_grow1 6 = .ok (.iload_n 2, 1) := by decide +kernel
theorem d_A_grow1_7 : decode b_A_grow1 7 = .ok (.ifCond .gt 13, 3) := by decide +kernel
theorem d_A_grow1_10 : decode b_A_grow1 10 = .ok (.aload_n 0, 1) := by decide +kernel
theorem d_A_grow1_11 : decode b_A_grow1 11 = .ok (.getfield 9, 3) := by decide +kernel
theorem d_A_grow1_14 : decode b_A_grow1 14 = .ok (.getstatic 39, 3) := by decide +kernel
theorem d_A_grow1_17 : decode b_A_grow1 17 = .ok (.if_acmp .eq 28, 3) := by decide +kernel
theorem d_A_grow1_20 : decode b_A_grow1 20 = .ok (.iload_n 2, 1) := by decide +kernel
theorem d_A_grow1_21 : decode b_A_grow1 21 = .ok (.iload_n 1, 1) := by decide +kernel
theorem d_A_grow1_22 : decode b_A_grow1 22 = .ok (.iload_n 2, 1) := by decide +kernel
theorem d_A_grow1_23 : decode b_A_grow1 23 = .ok (.isub, 1) := by decide +kernel
theorem d_A_grow1_24 : decode b_A_grow1 24 = .ok (.iload_n 2, 1) := by decide +kernel
theorem d_A_grow1_25 : decode b_A_grow1 25 = .ok (.iconst 1, 1) := by decide +kernel
theorem d_A_grow1_26 : decode b_A_grow1 26 = .ok (.ishr, 1) := by decide +kernel
theorem d_A_grow1_27 : decode b_A_grow1 27 = .ok (.invokestatic 73, 3) := by decide +kernel
theorem d_A_grow1_30 : decode b_A_grow1 30 = .ok (.istore_n 3, 1) := by decide +kernel
theorem d_A_grow1_31 : decode b_A_grow1 31 = .ok (.aload_n 0, 1) := by decide +kernel
theorem d_A_grow1_32 : decode b_A_grow1 32 = .ok (.aload_n 0, 1) := by decide +kernel
theorem d_A_grow1_33 : decode b_A_grow1 33 = .ok (.getfield 9, 3) := by decide +kernel
theorem d_A_grow1_36 : decode b_A_grow1 36 = .ok (.iload_n 3, 1) := by decide +kernel
theorem d_A_grow1_37 : decode b_A_grow1 37 = .ok (.invokestatic 66, 3) := by decide +kernel
theorem d_A_grow1_40 : decode b_A_grow1 40 = .ok (.dup_x1, 1) := by decide +kernel
theorem d_A_grow1_41 : decode b_A_grow1 41 = .ok (.putfield 9, 3) := by decide +kernel
theorem d_A_grow1_44 : decode b_A_grow1 44 = .ok (.areturn, 1) := by decide +kernel
theorem d_A_grow1_45 : decode b_A_grow1 45 = .ok (.aload_n 0, 1) := by decide +kernel
theorem d_A_grow1_46 : decode b_A_grow1 46 = .ok (.bipush 10, 2) := by decide +kernel
theorem d_A_grow1_48 : decode b_A_grow1 48 = .ok (.iload_n 1, 1) := by decide +kernel
theorem d_A_grow1_49 : decode b_A_grow1 49 = .ok (.invokestatic 79, 3) := by decide +kernel
theorem d_A_grow1_52 : decode b_A_grow1 52 = .ok (.anewarray 7, 3) := by decide +kernel
theorem d_A_grow1_55 : decode b_A_grow1 55 = .ok (.dup_x1, 1) := by decide +kernel
theorem d_A_grow1_56 : decode b_A_grow1 56 = .ok (.putfield 9, 3) := by decide +kernel
theorem d_A_grow1_59 : decode b_A_grow1 59 = .ok (.areturn, 1) := by decide +kernel
theorem d_S_newLength_0 : decode b_S_newLength 0 = .ok (.iload_n 0, 1) := by decide +kernel
theorem d_S_newLength_1 : decode b_S_newLength 1 = .ok (.iload_n 1, 1) := by decide +kernel
theorem d_S_newLength_2 : decode b_S_newLength 2 = .ok (.iload_n 2, 1) := by decide +kernel
theorem d_S_newLength_3 : decode b_S_newLength 3 = .ok (.invokestatic 194, 3) := by decide +kernel
theorem d_S_newLength_6 : decode b_S_newLength 6 = .ok (.iadd, 1) := by decide +kernel
theorem d_S_newLength_7 : decode b_S_newLength 7 = .ok (.istore_n 3, 1) := by decide +kernel
theorem d_S_newLength_8 : decode b_S_newLength 8 = .ok (.iconst 0, 1) := by decide +kernel
theorem d_S_newLength_9 : decode b_S_newLength 9 = .ok (.iload_n 3, 1) := by decide +kernel
theorem d_S_newLength_10 : decode b_S_newLength 10 = .ok (.if_icmp .ge 11, 3) := by decide +kernel
theorem d_S_newLength_13 : decode b_S_newLength 13 = .ok (.iload_n 3, 1) := by decide +kernel
theorem d_S_newLength_14 : decode b_S_newLength 14 = .ok (.ldc 200, 2) := by decide +kernel
theorem d_S_newLength_16 : decode b_S_newLength 16 = .ok (.if_icmp .gt 5, 3) := by decide +kernel
theorem d_S_newLength_19 : decode b_S_newLength 19 = .ok (.iload_n 3, 1) := by decide +kernel
theorem d_S_newLength_20 : decode b_S_newLength 20 = .ok (.ireturn, 1) := by decide +kernel
theorem d_S_newLength_21 : decode b_S_newLength 21 = .ok (.iload_n 0, 1) := by decide +kernel
theorem d_S_newLength_22 : decode b_S_newLength 22 = .ok (.iload_n 1, 1) := by decide +kernel
theorem d_S_newLength_23 : decode b_S_newLength 23 = .ok (.invokestatic 201, 3) := by decide +kernel
theorem d_S_newLength_26 : decode b_S_newLength 26 = .ok (.ireturn, 1) := by decide +kernel
theorem d_Y_copyOf_0 : decode b_Y_copyOf 0 = .ok (.aload_n 0, 1) := by decide +kernel
theorem d_Y_copyOf_1 : decode b_Y_copyOf 1 = .ok (.iload_n 1, 1) := by decide +kernel
theorem d_Y_copyOf_2 : decode b_Y_copyOf 2 = .ok (.aload_n 0, 1) := by decide +kernel
theorem d_Y_copyOf_3 : decode b_Y_copyOf 3 = .ok (.invokevirtual 86, 3) := by decide +kernel
theorem d_Y_copyOf_6 : decode b_Y_copyOf 6 = .ok (.invokestatic 300, 3) := by decide +kernel
theorem d_Y_copyOf_9 : decode b_Y_copyOf 9 = .ok (.areturn, 1) := by decide +kernel
theorem d_Y_copyOf3_0 : decode b_Y_copyOf3 0 = .ok (.aload_n 2, 1) := by decide +kernel
theorem d_Y_copyOf3_1 : decode b_Y_copyOf3 1 = .ok (.ldc 110, 2) := by decide +kernel
theorem d_Y_copyOf3_3 : decode b_Y_copyOf3 3 = .ok (.if_acmp .ne 10, 3) := by decide +kernel
theorem d_Y_copyOf3_6 : decode b_Y_copyOf3 6 = .ok (.iload_n 1, 1) := by decide +kernel
theorem d_Y_copyOf3_7 : decode b_Y_copyOf3 7 = .ok (.anewarray 2, 3) := by decide +kernel
theorem d_Y_copyOf3_10 : decode b_Y_copyOf3 10 = .ok (.goto 14, 3) := by decide +kernel
theorem d_Y_copyOf3_13 : decode b_Y_copyOf3 13 = .ok (.aload_n 2, 1) := by decide +kernel
theorem d_Y_copyOf3_14 : decode b_Y_copyOf3 14 = .ok (.invokevirtual 90, 3) := by decide +kernel
theorem d_Y_copyOf3_17 : decode b_Y_copyOf3 17 = .ok (.iload_n 1, 1) := by decide +kernel
theorem d_Y_copyOf3_18 : decode b_Y_copyOf3 18 = .ok (.invokestatic 95, 3) := by decide +kernel
theorem d_Y_copyOf3_21 : decode b_Y_copyOf3 21 = .ok (.checkcast 110, 3) := by decide +kernel
theorem d_Y_copyOf3_24 : decode b_Y_copyOf3 24 = .ok (.astore_n 3, 1) := by decide +kernel
theorem d_Y_copyOf3_25 : decode b_Y_copyOf3 25 = .ok (.aload_n 0, 1) := by decide +kernel
theorem d_Y_copyOf3_26 : decode b_Y_copyOf3 26 = .ok (.iconst 0, 1) := by decide +kernel
theorem d_Y_copyOf3_27 : decode b_Y_copyOf3 27 = .ok (.aload_n 3, 1) := by decide +kernel
theorem d_Y_copyOf3_28 : decode b_Y_copyOf3 28 = .ok (.iconst 0, 1) := by decide +kernel
theorem d_Y_copyOf3_29 : decode b_Y_copyOf3 29 = .ok (.aload_n 0, 1) := by decide +kernel
theorem d_Y_copyOf3_30 : decode b_Y_copyOf3 30 = .ok (.arraylength, 1) := by decide +kernel
theorem d_Y_copyOf3_31 : decode b_Y_copyOf3 31 = .ok (.iload_n 1, 1) := by decide +kernel
theorem d_Y_copyOf3_32 : decode b_Y_copyOf3 32 = .ok (.invokestatic 304, 3) := by decide +kernel
theorem d_Y_copyOf3_35 : decode b_Y_copyOf3 35 = .ok (.invokestatic 150, 3) := by decide +kernel
theorem d_Y_copyOf3_38 : decode b_Y_copyOf3 38 = .ok (.aload_n 3, 1) := by decide +kernel
theorem d_Y_copyOf3_39 : decode b_Y_copyOf3 39 = .ok (.areturn, 1) := by decide +kernel
theorem d_L_lend_0 : decode b_L_lend 0 = .ok (.aload_n 3, 1) := by decide +kernel
theorem d_L_lend_1 : decode b_L_lend 1 = .ok (.iconst 0, 1) := by decide +kernel
theorem d_L_lend_2 : decode b_L_lend 2 = .ok (.aload_n 0, 1) := by decide +kernel
theorem d_L_lend_3 : decode b_L_lend 3 = .ok (.iload_n 1, 1) := by decide +kernel
theorem d_L_lend_4 : decode b_L_lend 4 = .ok (.iload_n 2, 1) := by decide +kernel
theorem d_L_lend_5 : decode b_L_lend 5 = .ok (.invokevirtual 17, 3) := by decide +kernel
theorem d_L_lend_8 : decode b_L_lend 8 = .ok (.i2l, 1) := by decide +kernel
theorem d_L_lend_9 : decode b_L_lend 9 = .ok (.lastore, 1) := by decide +kernel
theorem d_L_lend_10 : decode b_L_lend 10 = .ok (.goto 7, 3) := by decide +kernel
theorem d_L_lend_13 : decode b_L_lend 13 = .ok (.astore 4, 2) := by decide +kernel
theorem d_L_lend_15 : decode b_L_lend 15 = .ok (.iconst 1, 1) := by decide +kernel
theorem d_L_lend_16 : decode b_L_lend 16 = .ok (.ireturn, 1) := by decide +kernel
theorem d_L_lend_17 : decode b_L_lend 17 = .ok (.iconst 0, 1) := by decide +kernel
theorem d_L_lend_18 : decode b_L_lend 18 = .ok (.ireturn, 1) := by decide +kernel
theorem d_X_lend_0 : decode b_X_lend 0 = .ok (.aload_n 0, 1) := by decide +kernel
theorem d_X_lend_1 : decode b_X_lend 1 = .ok (.iload_n 2, 1) := by decide +kernel
theorem d_X_lend_2 : decode b_X_lend 2 = .ok (.invokevirtual 37, 3) := by decide +kernel
theorem d_X_lend_5 : decode b_X_lend 5 = .ok (.astore_n 3, 1) := by decide +kernel
theorem d_X_lend_6 : decode b_X_lend 6 = .ok (.aload_n 3, 1) := by decide +kernel
theorem d_X_lend_7 : decode b_X_lend 7 = .ok (.ifnull 10, 3) := by decide +kernel
theorem d_X_lend_10 : decode b_X_lend 10 = .ok (.iload_n 1, 1) := by decide +kernel
theorem d_X_lend_11 : decode b_X_lend 11 = .ok (.invokestatic 83, 3) := by decide +kernel
theorem d_X_lend_14 : decode b_X_lend 14 = .ok (.ifCond .ne 13, 3) := by decide +kernel
theorem d_X_lend_17 : decode b_X_lend 17 = .ok (.new 45, 3) := by decide +kernel
theorem d_X_lend_20 : decode b_X_lend 20 = .ok (.dup, 1) := by decide +kernel
theorem d_X_lend_21 : decode b_X_lend 21 = .ok (.ldc 87, 2) := by decide +kernel
theorem d_X_lend_23 : decode b_X_lend 23 = .ok (.invokespecial 49, 3) := by decide +kernel
theorem d_X_lend_26 : decode b_X_lend 26 = .ok (.athrow, 1) := by decide +kernel
theorem d_X_lend_27 : decode b_X_lend 27 = .ok (.aload_n 0, 1) := by decide +kernel
theorem d_X_lend_28 : decode b_X_lend 28 = .ok (.aload_n 3, 1) := by decide +kernel
theorem d_X_lend_29 : decode b_X_lend 29 = .ok (.invokevirtual 89, 3) := by decide +kernel
theorem d_X_lend_32 : decode b_X_lend 32 = .ok (.astore 4, 2) := by decide +kernel
theorem d_X_lend_34 : decode b_X_lend 34 = .ok (.aload 4, 2) := by decide +kernel
theorem d_X_lend_36 : decode b_X_lend 36 = .ok (.ifnull 12, 3) := by decide +kernel
theorem d_X_lend_39 : decode b_X_lend 39 = .ok (.aload_n 0, 1) := by decide +kernel
theorem d_X_lend_40 : decode b_X_lend 40 = .ok (.iload_n 1, 1) := by decide +kernel
theorem d_X_lend_41 : decode b_X_lend 41 = .ok (.invokevirtual 93, 3) := by decide +kernel
theorem d_X_lend_44 : decode b_X_lend 44 = .ok (.iconst 4, 1) := by decide +kernel
theorem d_X_lend_45 : decode b_X_lend 45 = .ok (.if_icmp .lt 5, 3) := by decide +kernel
theorem d_X_lend_48 : decode b_X_lend 48 = .ok (.iconst (-1), 1) := by decide +kernel
theorem d_X_lend_49 : decode b_X_lend 49 = .ok (.ireturn, 1) := by decide +kernel
theorem d_X_lend_50 : decode b_X_lend 50 = .ok (.aload_n 0, 1) := by decide +kernel
theorem d_X_lend_51 : decode b_X_lend 51 = .ok (.dup, 1) := by decide +kernel
theorem d_X_lend_52 : decode b_X_lend 52 = .ok (.getfield 32, 3) := by decide +kernel
theorem d_X_lend_55 : decode b_X_lend 55 = .ok (.dup_x1, 1) := by decide +kernel
theorem d_X_lend_56 : decode b_X_lend 56 = .ok (.iconst 1, 1) := by decide +kernel
theorem d_X_lend_57 : decode b_X_lend 57 = .ok (.iadd, 1) := by decide +kernel
theorem d_X_lend_58 : decode b_X_lend 58 = .ok (.putfield 32, 3) := by decide +kernel
theorem d_X_lend_61 : decode b_X_lend 61 = .ok (.istore 5, 2) := by decide +kernel
theorem d_X_lend_63 : decode b_X_lend 63 = .ok (.aload 4, 2) := by decide +kernel
theorem d_X_lend_65 : decode b_X_lend 65 = .ok (.iload_n 1, 1) := by decide +kernel
theorem d_X_lend_66 : decode b_X_lend 66 = .ok (.iload 5, 2) := by decide +kernel
theorem d_X_lend_68 : decode b_X_lend 68 = .ok (.aload_n 0, 1) := by decide +kernel
theorem d_X_lend_69 : decode b_X_lend 69 = .ok (.getfield 28, 3) := by decide +kernel
theorem d_X_lend_72 : decode b_X_lend 72 = .ok (.invokevirtual 97, 3) := by decide +kernel
theorem d_X_lend_75 : decode b_X_lend 75 = .ok (.iload 5, 2) := by decide +kernel
theorem d_X_lend_77 : decode b_X_lend 77 = .ok (.ireturn, 1) := by decide +kernel
theorem d_T_becomeLent_0 : decode b_T_becomeLent 0 = .ok (.aload_n 0, 1) := by decide +kernel
theorem d_T_becomeLent_1 : decode b_T_becomeLent 1 = .ok (.iconst 1, 1) := by decide +kernel
theorem d_T_becomeLent_2 : decode b_T_becomeLent 2 = .ok (.invokevirtual 85, 3) := by decide +kernel
theorem d_T_becomeLent_5 : decode b_T_becomeLent 5 = .ok (.aload_n 0, 1) := by decide +kernel
theorem d_T_becomeLent_6 : decode b_T_becomeLent 6 = .ok (.dup, 1) := by decide +kernel
theorem d_T_becomeLent_7 : decode b_T_becomeLent 7 = .ok (.getfield 15, 3) := by decide +kernel
theorem d_T_becomeLent_10 : decode b_T_becomeLent 10 = .ok (.iconst 1, 1) := by decide +kernel
theorem d_T_becomeLent_11 : decode b_T_becomeLent 11 = .ok (.iadd, 1) := by decide +kernel
theorem d_T_becomeLent_12 : decode b_T_becomeLent 12 = .ok (.putfield 15, 3) := by decide +kernel
theorem d_T_becomeLent_15 : decode b_T_becomeLent 15 = .ok (.aload_n 0, 1) := by decide +kernel
theorem d_T_becomeLent_16 : decode b_T_becomeLent 16 = .ok (.iload_n 1, 1) := by decide +kernel
theorem d_T_becomeLent_17 : decode b_T_becomeLent 17 = .ok (.putfield 21, 3) := by decide +kernel
theorem d_T_becomeLent_20 : decode b_T_becomeLent 20 = .ok (.aload_n 0, 1) := by decide +kernel
theorem d_T_becomeLent_21 : decode b_T_becomeLent 21 = .ok (.iload_n 2, 1) := by decide +kernel
theorem d_T_becomeLent_22 : decode b_T_becomeLent 22 = .ok (.putfield 24, 3) := by decide +kernel
theorem d_T_becomeLent_25 : decode b_T_becomeLent 25 = .ok (.aload_n 0, 1) := by decide +kernel
theorem d_T_becomeLent_26 : decode b_T_becomeLent 26 = .ok (.iload_n 3, 1) := by decide +kernel
theorem d_T_becomeLent_27 : decode b_T_becomeLent 27 = .ok (.aload_n 0, 1) := by decide +kernel
theorem d_T_becomeLent_28 : decode b_T_becomeLent 28 = .ok (.getfield 33, 3) := by decide +kernel
theorem d_T_becomeLent_31 : decode b_T_becomeLent 31 = .ok (.getfield 89, 3) := by decide +kernel
theorem d_T_becomeLent_34 : decode b_T_becomeLent 34 = .ok (.iadd, 1) := by decide +kernel
theorem d_T_becomeLent_35 : decode b_T_becomeLent 35 = .ok (.putfield 18, 3) := by decide +kernel
theorem d_T_becomeLent_38 : decode b_T_becomeLent 38 = .ok (.return_, 1) := by decide +kernel
theorem d_L_end_0 : decode b_L_end 0 = .ok (.aload_n 3, 1) := by decide +kernel
theorem d_L_end_1 : decode b_L_end 1 = .ok (.iconst 0, 1) := by decide +kernel
theorem d_L_end_2 : decode b_L_end 2 = .ok (.aload_n 0, 1) := by decide +kernel
theorem d_L_end_3 : decode b_L_end 3 = .ok (.iload_n 1, 1) := by decide +kernel
theorem d_L_end_4 : decode b_L_end 4 = .ok (.iload_n 2, 1) := by decide +kernel
theorem d_L_end_5 : decode b_L_end 5 = .ok (.invokevirtual 21, 3) := by decide +kernel
theorem d_L_end_8 : decode b_L_end 8 = .ok (.i2l, 1) := by decide +kernel
theorem d_L_end_9 : decode b_L_end 9 = .ok (.lastore, 1) := by decide +kernel
theorem d_L_end_10 : decode b_L_end 10 = .ok (.goto 11, 3) := by decide +kernel
theorem d_L_end_13 : decode b_L_end 13 = .ok (.astore 4, 2) := by decide +kernel
theorem d_L_end_15 : decode b_L_end 15 = .ok (.iconst 1, 1) := by decide +kernel
theorem d_L_end_16 : decode b_L_end 16 = .ok (.ireturn, 1) := by decide +kernel
theorem d_L_end_17 : decode b_L_end 17 = .ok (.astore 4, 2) := by decide +kernel
theorem d_L_end_19 : decode b_L_end 19 = .ok (.iconst 2, 1) := by decide +kernel
theorem d_L_end_20 : decode b_L_end 20 = .ok (.ireturn, 1) := by decide +kernel
theorem d_L_end_21 : decode b_L_end 21 = .ok (.iconst 0, 1) := by decide +kernel
theorem d_L_end_22 : decode b_L_end 22 = .ok (.ireturn, 1) := by decide +kernel
theorem d_X_end_0 : decode b_X_end 0 = .ok (.aload_n 0, 1) := by decide +kernel
theorem d_X_end_1 : decode b_X_end 1 = .ok (.iload_n 1, 1) := by decide +kernel
theorem d_X_end_2 : decode b_X_end 2 = .ok (.invokevirtual 101, 3) := by decide +kernel
theorem d_X_end_5 : decode b_X_end 5 = .ok (.astore_n 3, 1) := by decide +kernel
theorem d_X_end_6 : decode b_X_end 6 = .ok (.aload_n 3, 1) := by decide +kernel
theorem d_X_end_7 : decode b_X_end 7 = .ok (.ifnonnull 13, 3) := by decide +kernel
theorem d_X_end_10 : decode b_X_end 10 = .ok (.new 115, 3) := by decide +kernel
theorem d_X_end_13 : decode b_X_end 13 = .ok (.dup, 1) := by decide +kernel
theorem d_X_end_14 : decode b_X_end 14 = .ok (.ldc 117, 2) := by decide +kernel
theorem d_X_end_16 : decode b_X_end 16 = .ok (.invokespecial 119, 3) := by decide +kernel
theorem d_X_end_19 : decode b_X_end 19 = .ok (.athrow, 1) := by decide +kernel
theorem d_X_end_20 : decode b_X_end 20 = .ok (.iload_n 2, 1) := by decide +kernel
theorem d_X_end_21 : decode b_X_end 21 = .ok (.tableswitch 70 0 2 #[27, 38, 49], 27) := by decide +kernel
theorem d_X_end_48 : decode b_X_end 48 = .ok (.aload_n 3, 1) := by decide +kernel
theorem d_X_end_49 : decode b_X_end 49 = .ok (.aload_n 0, 1) := by decide +kernel
theorem d_X_end_50 : decode b_X_end 50 = .ok (.getfield 28, 3) := by decide +kernel
theorem d_X_end_53 : decode b_X_end 53 = .ok (.invokevirtual 120, 3) := by decide +kernel
theorem d_X_end_56 : decode b_X_end 56 = .ok (.goto 45, 3) := by decide +kernel
theorem d_X_end_59 : decode b_X_end 59 = .ok (.aload_n 3, 1) := by decide +kernel
theorem d_X_end_60 : decode b_X_end 60 = .ok (.aload_n 0, 1) := by decide +kernel
theorem d_X_end_61 : decode b_X_end 61 = .ok (.getfield 28, 3) := by decide +kernel
theorem d_X_end_64 : decode b_X_end 64 = .ok (.invokevirtual 124, 3) := by decide +kernel
theorem d_X_end_67 : decode b_X_end 67 = .ok (.goto 34, 3) := by decide +kernel
theorem d_X_end_70 : decode b_X_end 70 = .ok (.aload_n 3, 1) := by decide +kernel
theorem d_X_end_71 : decode b_X_end 71 = .ok (.aload_n 0, 1) := by decide +kernel
theorem d_X_end_72 : decode b_X_end 72 = .ok (.getfield 28, 3) := by decide +kernel
theorem d_X_end_75 : decode b_X_end 75 = .ok (.invokevirtual 127, 3) := by decide +kernel
theorem d_X_end_78 : decode b_X_end 78 = .ok (.aload_n 3, 1) := by decide +kernel
theorem d_X_end_79 : decode b_X_end 79 = .ok (.dup, 1) := by decide +kernel
theorem d_X_end_80 : decode b_X_end 80 = .ok (.getfield 130, 3) := by decide +kernel
theorem d_X_end_83 : decode b_X_end 83 = .ok (.iconst 1, 1) := by decide +kernel
theorem d_X_end_84 : decode b_X_end 84 = .ok (.isub, 1) := by decide +kernel
theorem d_X_end_85 : decode b_X_end 85 = .ok (.putfield 130, 3) := by decide +kernel
theorem d_X_end_88 : decode b_X_end 88 = .ok (.goto 13, 3) := by decide +kernel
theorem d_X_end_91 : decode b_X_end 91 = .ok (.new 45, 3) := by decide +kernel
theorem d_X_end_94 : decode b_X_end 94 = .ok (.dup, 1) := by decide +kernel
theorem d_X_end_95 : decode b_X_end 95 = .ok (.ldc 133, 2) := by decide +kernel
theorem d_X_end_97 : decode b_X_end 97 = .ok (.invokespecial 49, 3) := by decide +kernel
theorem d_X_end_100 : decode b_X_end 100 = .ok (.athrow, 1) := by decide +kernel
theorem d_X_end_101 : decode b_X_end 101 = .ok (.aload_n 3, 1) := by decide +kernel
theorem d_X_end_102 : decode b_X_end 102 = .ok (.getfield 135, 3) := by decide +kernel
theorem d_X_end_105 : decode b_X_end 105 = .ok (.ireturn, 1) := by decide +kernel
theorem d_T_becomeDone_0 : decode b_T_becomeDone 0 = .ok (.aload_n 0, 1) := by decide +kernel
theorem d_T_becomeDone_1 : decode b_T_becomeDone 1 = .ok (.iconst 2, 1) := by decide +kernel
theorem d_T_becomeDone_2 : decode b_T_becomeDone 2 = .ok (.invokevirtual 85, 3) := by decide +kernel
theorem d_T_becomeDone_5 : decode b_T_becomeDone 5 = .ok (.aload_n 0, 1) := by decide +kernel
theorem d_T_becomeDone_6 : decode b_T_becomeDone 6 = .ok (.iload_n 1, 1) := by decide +kernel
theorem d_T_becomeDone_7 : decode b_T_becomeDone 7 = .ok (.putfield 27, 3) := by decide +kernel
theorem d_T_becomeDone_10 : decode b_T_becomeDone 10 = .ok (.return_, 1) := by decide +kernel
theorem d_T_tryAgain_0 : decode b_T_tryAgain 0 = .ok (.aload_n 0, 1) := by decide +kernel
theorem d_T_tryAgain_1 : decode b_T_tryAgain 1 = .ok (.getfield 15, 3) := by decide +kernel
theorem d_T_tryAgain_4 : decode b_T_tryAgain 4 = .ok (.aload_n 0, 1) := by decide +kernel
theorem d_T_tryAgain_5 : decode b_T_tryAgain 5 = .ok (.getfield 33, 3) := by decide +kernel
theorem d_T_tryAgain_8 : decode b_T_tryAgain 8 = .ok (.getfield 92, 3) := by decide +kernel
theorem d_T_tryAgain_11 : decode b_T_tryAgain 11 = .ok (.if_icmp .lt 11, 3) := by decide +kernel
theorem d_T_tryAgain_14 : decode b_T_tryAgain 14 = .ok (.aload_n 0, 1) := by decide +kernel
theorem d_T_tryAgain_15 : decode b_T_tryAgain 15 = .ok (.iconst 3, 1) := by decide +kernel
theorem d_T_tryAgain_16 : decode b_T_tryAgain 16 = .ok (.invokevirtual 85, 3) := by decide +kernel
theorem d_T_tryAgain_19 : decode b_T_tryAgain 19 = .ok (.goto 20, 3) := by decide +kernel
theorem d_T_tryAgain_22 : decode b_T_tryAgain 22 = .ok (.aload_n 0, 1) := by decide +kernel
theorem d_T_tryAgain_23 : decode b_T_tryAgain 23 = .ok (.iload_n 1, 1) := by decide +kernel
theorem d_T_tryAgain_24 : decode b_T_tryAgain 24 = .ok (.aload_n 0, 1) := by decide +kernel
theorem d_T_tryAgain_25 : decode b_T_tryAgain 25 = .ok (.getfield 33, 3) := by decide +kernel
theorem d_T_tryAgain_28 : decode b_T_tryAgain 28 = .ok (.aload_n 0, 1) := by decide +kernel
theorem d_T_tryAgain_29 : decode b_T_tryAgain 29 = .ok (.getfield 15, 3) := by decide +kernel
theorem d_T_tryAgain_32 : decode b_T_tryAgain 32 = .ok (.invokevirtual 95, 3) := by decide +kernel
theorem d_T_tryAgain_35 : decode b_T_tryAgain 35 = .ok (.iadd, 1) := by decide +kernel
theorem d_T_tryAgain_36 : decode b_T_tryAgain 36 = .ok (.invokevirtual 98, 3) := by decide +kernel
theorem d_T_tryAgain_39 : decode b_T_tryAgain 39 = .ok (.return_, 1) := by decide +kernel
theorem d_Q_pauseAfter_0 : decode b_Q_pauseAfter 0 = .ok (.aload_n 0, 1) := by decide +kernel
theorem d_Q_pauseAfter_1 : decode b_Q_pauseAfter 1 = .ok (.getfield 18, 3) := by decide +kernel
theorem d_Q_pauseAfter_4 : decode b_Q_pauseAfter 4 = .ok (.iload_n 1, 1) := by decide +kernel
theorem d_Q_pauseAfter_5 : decode b_Q_pauseAfter 5 = .ok (.iconst 1, 1) := by decide +kernel
theorem d_Q_pauseAfter_6 : decode b_Q_pauseAfter 6 = .ok (.isub, 1) := by decide +kernel
theorem d_Q_pauseAfter_7 : decode b_Q_pauseAfter 7 = .ok (.ishl, 1) := by decide +kernel
theorem d_Q_pauseAfter_8 : decode b_Q_pauseAfter 8 = .ok (.aload_n 0, 1) := by decide +kernel
theorem d_Q_pauseAfter_9 : decode b_Q_pauseAfter 9 = .ok (.getfield 21, 3) := by decide +kernel
theorem d_Q_pauseAfter_12 : decode b_Q_pauseAfter 12 = .ok (.invokestatic 38, 3) := by decide +kernel
theorem d_Q_pauseAfter_15 : decode b_Q_pauseAfter 15 = .ok (.ireturn, 1) := by decide +kernel
theorem d_L_tick_0 : decode b_L_tick 0 = .ok (.aload_n 2, 1) := by decide +kernel
theorem d_L_tick_1 : decode b_L_tick 1 = .ok (.iconst 0, 1) := by decide +kernel
theorem d_L_tick_2 : decode b_L_tick 2 = .ok (.aload_n 0, 1) := by decide +kernel
theorem d_L_tick_3 : decode b_L_tick 3 = .ok (.iload_n 1, 1) := by decide +kernel
theorem d_L_tick_4 : decode b_L_tick 4 = .ok (.invokevirtual 26, 3) := by decide +kernel
theorem d_L_tick_7 : decode b_L_tick 7 = .ok (.i2l, 1) := by decide +kernel
theorem d_L_tick_8 : decode b_L_tick 8 = .ok (.lastore, 1) := by decide +kernel
theorem d_L_tick_9 : decode b_L_tick 9 = .ok (.goto 6, 3) := by decide +kernel
theorem d_L_tick_12 : decode b_L_tick 12 = .ok (.astore_n 3, 1) := by decide +kernel
theorem d_L_tick_13 : decode b_L_tick 13 = .ok (.iconst 1, 1) := by decide +kernel
theorem d_L_tick_14 : decode b_L_tick 14 = .ok (.ireturn, 1) := by decide +kernel
theorem d_L_tick_15 : decode b_L_tick 15 = .ok (.iconst 0, 1) := by decide +kernel
theorem d_L_tick_16 : decode b_L_tick 16 = .ok (.ireturn, 1) := by decide +kernel
theorem d_X_tick_0 : decode b_X_tick 0 = .ok (.iload_n 1, 1) := by decide +kernel
theorem d_X_tick_1 : decode b_X_tick 1 = .ok (.iconst 1, 1) := by decide +kernel
theorem d_X_tick_2 : decode b_X_tick 2 = .ok (.sipush 1000, 3) := by decide +kernel
theorem d_X_tick_5 : decode b_X_tick 5 = .ok (.invokestatic 41, 3) := by decide +kernel
theorem d_X_tick_8 : decode b_X_tick 8 = .ok (.ifCond .ne 13, 3) := by decide +kernel
theorem d_X_tick_11 : decode b_X_tick 11 = .ok (.new 45, 3) := by decide +kernel
theorem d_X_tick_14 : decode b_X_tick 14 = .ok (.dup, 1) := by decide +kernel
theorem d_X_tick_15 : decode b_X_tick 15 = .ok (.ldc 138, 2) := by decide +kernel
theorem d_X_tick_17 : decode b_X_tick 17 = .ok (.invokespecial 49, 3) := by decide +kernel
theorem d_X_tick_20 : decode b_X_tick 20 = .ok (.athrow, 1) := by decide +kernel
theorem d_X_tick_21 : decode b_X_tick 21 = .ok (.aload_n 0, 1) := by decide +kernel
theorem d_X_tick_22 : decode b_X_tick 22 = .ok (.getfield 28, 3) := by decide +kernel
theorem d_X_tick_25 : decode b_X_tick 25 = .ok (.iload_n 1, 1) := by decide +kernel
theorem d_X_tick_26 : decode b_X_tick 26 = .ok (.iadd, 1) := by decide +kernel
theorem d_X_tick_27 : decode b_X_tick 27 = .ok (.istore_n 2, 1) := by decide +kernel
theorem d_X_tick_28 : decode b_X_tick 28 = .ok (.iconst 0, 1) := by decide +kernel
theorem d_X_tick_29 : decode b_X_tick 29 = .ok (.istore_n 3, 1) := by decide +kernel
theorem d_X_tick_30 : decode b_X_tick 30 = .ok (.iconst 0, 1) := by decide +kernel
theorem d_X_tick_31 : decode b_X_tick 31 = .ok (.istore 4, 2) := by decide +kernel
theorem d_X_tick_33 : decode b_X_tick 33 = .ok (.iload 4, 2) := by decide +kernel
theorem d_X_tick_35 : decode b_X_tick 35 = .ok (.aload_n 0, 1) := by decide +kernel
theorem d_X_tick_36 : decode b_X_tick 36 = .ok (.getfield 24, 3) := by decide +kernel
theorem d_X_tick_39 : decode b_X_tick 39 = .ok (.invokevirtual 66, 3) := by decide +kernel
theorem d_X_tick_42 : decode b_X_tick 42 = .ok (.if_icmp .ge 54, 3) := by decide +kernel
theorem d_X_tick_45 : decode b_X_tick 45 = .ok (.aload_n 0, 1) := by decide +kernel
theorem d_X_tick_46 : decode b_X_tick 46 = .ok (.getfield 24, 3) := by decide +kernel
theorem d_X_tick_49 : decode b_X_tick 49 = .ok (.iload 4, 2) := by decide +kernel
theorem d_X_tick_51 : decode b_X_tick 51 = .ok (.invokevirtual 140, 3) := by decide +kernel
theorem d_X_tick_54 : decode b_X_tick 54 = .ok (.checkcast 74, 3) := by decide +kernel
theorem d_X_tick_57 : decode b_X_tick 57 = .ok (.astore 5, 2) := by decide +kernel
theorem d_X_tick_59 : decode b_X_tick 59 = .ok (.aload 5, 2) := by decide +kernel
theorem d_X_tick_61 : decode b_X_tick 61 = .ok (.getfield 144, 3) := by decide +kernel
theorem d_X_tick_64 : decode b_X_tick 64 = .ok (.iconst 1, 1) := by decide +kernel
theorem d_X_tick_65 : decode b_X_tick 65 = .ok (.if_icmp .ne 25, 3) := by decide +kernel
theorem d_X_tick_68 : decode b_X_tick 68 = .ok (.aload 5, 2) := by decide +kernel
theorem d_X_tick_70 : decode b_X_tick 70 = .ok (.getfield 112, 3) := by decide +kernel
theorem d_X_tick_73 : decode b_X_tick 73 = .ok (.iload_n 2, 1) := by decide +kernel
theorem d_X_tick_74 : decode b_X_tick 74 = .ok (.if_icmp .gt 16, 3) := by decide +kernel
theorem d_X_tick_77 : decode b_X_tick 77 = .ok (.aload 5, 2) := by decide +kernel
theorem d_X_tick_79 : decode b_X_tick 79 = .ok (.aload 5, 2) := by decide +kernel
theorem d_X_tick_81 : decode b_X_tick 81 = .ok (.getfield 112, 3) := by decide +kernel
theorem d_X_tick_84 : decode b_X_tick 84 = .ok (.invokevirtual 124, 3) := by decide +kernel
theorem d_X_tick_87 : decode b_X_tick 87 = .ok (.iinc 3 1, 3) := by decide +kernel
theorem d_X_tick_90 : decode b_X_tick 90 = .ok (.iinc 4 1, 3) := by decide +kernel
theorem d_X_tick_93 : decode b_X_tick 93 = .ok (.goto (-60), 3) := by decide +kernel
theorem d_X_tick_96 : decode b_X_tick 96 = .ok (.aload_n 0, 1) := by decide +kernel
theorem d_X_tick_97 : decode b_X_tick 97 = .ok (.iload_n 2, 1) := by decide +kernel
theorem d_X_tick_98 : decode b_X_tick 98 = .ok (.putfield 28, 3) := by decide +kernel
theorem d_X_tick_101 : decode b_X_tick 101 = .ok (.iload_n 3, 1) := by decide +kernel
theorem d_X_tick_102 : decode b_X_tick 102 = .ok (.ireturn, 1) := by decide +kernel
theorem d_L_task_0 : decode b_L_task 0 = .ok (.aload_n 3, 1) := by decide +kernel
theorem d_L_task_1 : decode b_L_task 1 = .ok (.iconst 0, 1) := by decide +kernel
theorem d_L_task_2 : decode b_L_task 2 = .ok (.aload_n 0, 1) := by decide +kernel
theorem d_L_task_3 : decode b_L_task 3 = .ok (.iload_n 1, 1) := by decide +kernel
theorem d_L_task_4 : decode b_L_task 4 = .ok (.iload_n 2, 1) := by decide +kernel
theorem d_L_task_5 : decode b_L_task 5 = .ok (.invokevirtual 30, 3) := by decide +kernel
theorem d_L_task_8 : decode b_L_task 8 = .ok (.i2l, 1) := by decide +kernel
theorem d_L_task_9 : decode b_L_task 9 = .ok (.lastore, 1) := by decide +kernel
theorem d_L_task_10 : decode b_L_task 10 = .ok (.goto 7, 3) := by decide +kernel
theorem d_L_task_13 : decode b_L_task 13 = .ok (.astore 4, 2) := by decide +kernel
theorem d_L_task_15 : decode b_L_task 15 = .ok (.iconst 1, 1) := by decide +kernel
theorem d_L_task_16 : decode b_L_task 16 = .ok (.ireturn, 1) := by decide +kernel
theorem d_L_task_17 : decode b_L_task 17 = .ok (.iconst 0, 1) := by decide +kernel
theorem d_L_task_18 : decode b_L_task 18 = .ok (.ireturn, 1) := by decide +kernel
theorem d_X_task_0 : decode b_X_task 0 = .ok (.aload_n 0, 1) := by decide +kernel
theorem d_X_task_1 : decode b_X_task 1 = .ok (.iload_n 1, 1) := by decide +kernel
theorem d_X_task_2 : decode b_X_task 2 = .ok (.invokevirtual 147, 3) := by decide +kernel
theorem d_X_task_5 : decode b_X_task 5 = .ok (.astore_n 3, 1) := by decide +kernel
theorem d_X_task_6 : decode b_X_task 6 = .ok (.aload_n 3, 1) := by decide +kernel
theorem d_X_task_7 : decode b_X_task 7 = .ok (.ifnonnull 13, 3) := by decide +kernel
theorem d_X_task_10 : decode b_X_task 10 = .ok (.new 115, 3) := by decide +kernel
theorem d_X_task_13 : decode b_X_task 13 = .ok (.dup, 1) := by decide +kernel
theorem d_X_task_14 : decode b_X_task 14 = .ok (.ldc 165, 2) := by decide +kernel
theorem d_X_task_16 : decode b_X_task 16 = .ok (.invokespecial 119, 3) := by decide +kernel
theorem d_X_task_19 : decode b_X_task 19 = .ok (.athrow, 1) := by decide +kernel
theorem d_X_task_20 : decode b_X_task 20 = .ok (.iload_n 2, 1) := by decide +kernel
theorem d_X_task_21 : decode b_X_task 21 = .ok (.tableswitch 144 0 6 #[43, 48, 53, 69, 86, 103, 120], 43) := by decide +kernel
theorem d_X_task_64 : decode b_X_task 64 = .ok (.aload_n 3, 1) := by decide +kernel
theorem d_X_task_65 : decode b_X_task 65 = .ok (.getfield 144, 3) := by decide +kernel
theorem d_X_task_68 : decode b_X_task 68 = .ok (.ireturn, 1) := by decide +kernel
theorem d_X_task_69 : decode b_X_task 69 = .ok (.aload_n 3, 1) := by decide +kernel
theorem d_X_task_70 : decode b_X_task 70 = .ok (.getfield 130, 3) := by decide +kernel
theorem d_X_task_73 : decode b_X_task 73 = .ok (.ireturn, 1) := by decide +kernel
theorem d_X_task_74 : decode b_X_task 74 = .ok (.aload_n 3, 1) := by decide +kernel
theorem d_X_task_75 : decode b_X_task 75 = .ok (.getfield 144, 3) := by decide +kernel
theorem d_X_task_78 : decode b_X_task 78 = .ok (.ifCond .ne 10, 3) := by decide +kernel
theorem d_X_task_81 : decode b_X_task 81 = .ok (.aload_n 3, 1) := by decide +kernel
theorem d_X_task_82 : decode b_X_task 82 = .ok (.getfield 167, 3) := by decide +kernel
theorem d_X_task_85 : decode b_X_task 85 = .ok (.goto 4, 3) := by decide +kernel
theorem d_X_task_88 : decode b_X_task 88 = .ok (.iconst (-1), 1) := by decide +kernel
theorem d_X_task_89 : decode b_X_task 89 = .ok (.ireturn, 1) := by decide +kernel
theorem d_X_task_90 : decode b_X_task 90 = .ok (.aload_n 3, 1) := by decide +kernel
theorem d_X_task_91 : decode b_X_task 91 = .ok (.getfield 144, 3) := by decide +kernel
theorem d_X_task_94 : decode b_X_task 94 = .ok (.iconst 1, 1) := by decide +kernel
theorem d_X_task_95 : decode b_X_task 95 = .ok (.if_icmp .ne 10, 3) := by decide +kernel
theorem d_X_task_98 : decode b_X_task 98 = .ok (.aload_n 3, 1) := by decide +kernel
theorem d_X_task_99 : decode b_X_task 99 = .ok (.getfield 112, 3) := by decide +kernel
theorem d_X_task_102 : decode b_X_task 102 = .ok (.goto 4, 3) := by decide +kernel
theorem d_X_task_105 : decode b_X_task 105 = .ok (.iconst (-1), 1) := by decide +kernel
theorem d_X_task_106 : decode b_X_task 106 = .ok (.ireturn, 1) := by decide +kernel
theorem d_X_task_107 : decode b_X_task 107 = .ok (.aload_n 3, 1) := by decide +kernel
theorem d_X_task_108 : decode b_X_task 108 = .ok (.getfield 144, 3) := by decide +kernel
theorem d_X_task_111 : decode b_X_task 111 = .ok (.iconst 1, 1) := by decide +kernel
theorem d_X_task_112 : decode b_X_task 112 = .ok (.if_icmp .ne 10, 3) := by decide +kernel
theorem d_X_task_115 : decode b_X_task 115 = .ok (.aload_n 3, 1) := by decide +kernel
theorem d_X_task_116 : decode b_X_task 116 = .ok (.getfield 170, 3) := by decide +kernel
theorem d_X_task_119 : decode b_X_task 119 = .ok (.goto 4, 3) := by decide +kernel
theorem d_X_task_122 : decode b_X_task 122 = .ok (.iconst (-1), 1) := by decide +kernel
theorem d_X_task_123 : decode b_X_task 123 = .ok (.ireturn, 1) := by decide +kernel
theorem d_X_task_124 : decode b_X_task 124 = .ok (.aload_n 3, 1) := by decide +kernel
theorem d_X_task_125 : decode b_X_task 125 = .ok (.getfield 144, 3) := by decide +kernel
theorem d_X_task_128 : decode b_X_task 128 = .ok (.iconst 1, 1) := by decide +kernel
theorem d_X_task_129 : decode b_X_task 129 = .ok (.if_icmp .ne 10, 3) := by decide +kernel
theorem d_X_task_132 : decode b_X_task 132 = .ok (.aload_n 3, 1) := by decide +kernel
theorem d_X_task_133 : decode b_X_task 133 = .ok (.getfield 173, 3) := by decide +kernel
theorem d_X_task_136 : decode b_X_task 136 = .ok (.goto 4, 3) := by decide +kernel
theorem d_X_task_139 : decode b_X_task 139 = .ok (.iconst (-1), 1) := by decide +kernel
theorem d_X_task_140 : decode b_X_task 140 = .ok (.ireturn, 1) := by decide +kernel
theorem d_X_task_141 : decode b_X_task 141 = .ok (.aload_n 3, 1) := by decide +kernel
theorem d_X_task_142 : decode b_X_task 142 = .ok (.aload_n 0, 1) := by decide +kernel
theorem d_X_task_143 : decode b_X_task 143 = .ok (.getfield 28, 3) := by decide +kernel
theorem d_X_task_146 : decode b_X_task 146 = .ok (.invokevirtual 176, 3) := by decide +kernel
theorem d_X_task_149 : decode b_X_task 149 = .ok (.ifCond .eq 14, 3) := by decide +kernel
theorem d_X_task_152 : decode b_X_task 152 = .ok (.aload_n 3, 1) := by decide +kernel
theorem d_X_task_153 : decode b_X_task 153 = .ok (.aload_n 0, 1) := by decide +kernel
theorem d_X_task_154 : decode b_X_task 154 = .ok (.getfield 28, 3) := by decide +kernel
theorem d_X_task_157 : decode b_X_task 157 = .ok (.invokevirtual 179, 3) := by decide +kernel
theorem d_X_task_160 : decode b_X_task 160 = .ok (.goto 4, 3) := by decide +kernel
theorem d_X_task_163 : decode b_X_task 163 = .ok (.iconst (-1), 1) := by decide +kernel
theorem d_X_task_164 : decode b_X_task 164 = .ok (.ireturn, 1) := by decide +kernel
theorem d_X_task_165 : decode b_X_task 165 = .ok (.new 115, 3) := by decide +kernel
theorem d_X_task_168 : decode b_X_task 168 = .ok (.dup, 1) := by decide +kernel
theorem d_X_task_169 : decode b_X_task 169 = .ok (.ldc 182, 2) := by decide +kernel
theorem d_X_task_171 : decode b_X_task 171 = .ok (.invokespecial 119, 3) := by decide +kernel
theorem d_X_task_174 : decode b_X_task 174 = .ok (.athrow, 1) := by decide +kernel
theorem d_M_init_0 : decode b_M_init 0 = .ok (.aload_n 0, 1) := by decide +kernel
theorem d_M_init_1 : decode b_M_init 1 = .ok (.invokespecial 1, 3) := by decide +kernel
theorem d_M_init_4 : decode b_M_init 4 = .ok (.aload_n 0, 1) := by decide +kernel
theorem d_M_init_5 : decode b_M_init 5 = .ok (.sipush 400, 3) := by decide +kernel
theorem d_M_init_8 : decode b_M_init 8 = .ok (.newarray .int, 2) := by decide +kernel
theorem d_M_init_10 : decode b_M_init 10 = .ok (.putfield 7, 3) := by decide +kernel
theorem d_M_init_13 : decode b_M_init 13 = .ok (.aload_n 0, 1) := by decide +kernel
theorem d_M_init_14 : decode b_M_init 14 = .ok (.sipush 400, 3) := by decide +kernel
theorem d_M_init_17 : decode b_M_init 17 = .ok (.newarray .int, 2) := by decide +kernel
theorem d_M_init_19 : decode b_M_init 19 = .ok (.putfield 13, 3) := by decide +kernel
theorem d_M_init_22 : decode b_M_init 22 = .ok (.aload_n 0, 1) := by decide +kernel
theorem d_M_init_23 : decode b_M_init 23 = .ok (.sipush 400, 3) := by decide +kernel
theorem d_M_init_26 : decode b_M_init 26 = .ok (.newarray .int, 2) := by decide +kernel
theorem d_M_init_28 : decode b_M_init 28 = .ok (.putfield 16, 3) := by decide +kernel
theorem d_M_init_31 : decode b_M_init 31 = .ok (.aload_n 0, 1) := by decide +kernel
theorem d_M_init_32 : decode b_M_init 32 = .ok (.sipush 400, 3) := by decide +kernel
theorem d_M_init_35 : decode b_M_init 35 = .ok (.newarray .long, 2) := by decide +kernel
theorem d_M_init_37 : decode b_M_init 37 = .ok (.putfield 19, 3) := by decide +kernel
theorem d_M_init_40 : decode b_M_init 40 = .ok (.aload_n 0, 1) := by decide +kernel
theorem d_M_init_41 : decode b_M_init 41 = .ok (.sipush 400, 3) := by decide +kernel
theorem d_M_init_44 : decode b_M_init 44 = .ok (.newarray .int, 2) := by decide +kernel
theorem d_M_init_46 : decode b_M_init 46 = .ok (.putfield 23, 3) := by decide +kernel
theorem d_M_init_49 : decode b_M_init 49 = .ok (.aload_n 0, 1) := by decide +kernel
theorem d_M_init_50 : decode b_M_init 50 = .ok (.sipush 400, 3) := by decide +kernel
theorem d_M_init_53 : decode b_M_init 53 = .ok (.newarray .int, 2) := by decide +kernel
theorem d_M_init_55 : decode b_M_init 55 = .ok (.putfield 26, 3) := by decide +kernel
theorem d_M_init_58 : decode b_M_init 58 = .ok (.aload_n 0, 1) := by decide +kernel
theorem d_M_init_59 : decode b_M_init 59 = .ok (.sipush 400, 3) := by decide +kernel
theorem d_M_init_62 : decode b_M_init 62 = .ok (.newarray .int, 2) := by decide +kernel
theorem d_M_init_64 : decode b_M_init 64 = .ok (.putfield 29, 3) := by decide +kernel
theorem d_M_init_67 : decode b_M_init 67 = .ok (.aload_n 0, 1) := by decide +kernel
theorem d_M_init_68 : decode b_M_init 68 = .ok (.sipush 400, 3) := by decide +kernel
theorem d_M_init_71 : decode b_M_init 71 = .ok (.newarray .int, 2) := by decide +kernel
theorem d_M_init_73 : decode b_M_init 73 = .ok (.putfield 32, 3) := by decide +kernel
theorem d_M_init_76 : decode b_M_init 76 = .ok (.aload_n 0, 1) := by decide +kernel
theorem d_M_init_77 : decode b_M_init 77 = .ok (.sipush 400, 3) := by decide +kernel
theorem d_M_init_80 : decode b_M_init 80 = .ok (.newarray .int, 2) := by decide +kernel
theorem d_M_init_82 : decode b_M_init 82 = .ok (.putfield 35, 3) := by decide +kernel
theorem d_M_init_85 : decode b_M_init 85 = .ok (.aload_n 0, 1) := by decide +kernel
theorem d_M_init_86 : decode b_M_init 86 = .ok (.bipush 24, 2) := by decide +kernel
theorem d_M_init_88 : decode b_M_init 88 = .ok (.newarray .int, 2) := by decide +kernel
theorem d_M_init_90 : decode b_M_init 90 = .ok (.putfield 38, 3) := by decide +kernel
theorem d_M_init_93 : decode b_M_init 93 = .ok (.aload_n 0, 1) := by decide +kernel
theorem d_M_init_94 : decode b_M_init 94 = .ok (.bipush 8, 2) := by decide +kernel
theorem d_M_init_96 : decode b_M_init 96 = .ok (.newarray .int, 2) := by decide +kernel
theorem d_M_init_98 : decode b_M_init 98 = .ok (.putfield 41, 3) := by decide +kernel
theorem d_M_init_101 : decode b_M_init 101 = .ok (.iconst 0, 1) := by decide +kernel
theorem d_M_init_102 : decode b_M_init 102 = .ok (.istore_n 1, 1) := by decide +kernel
theorem d_M_init_103 : decode b_M_init 103 = .ok (.iload_n 1, 1) := by decide +kernel
theorem d_M_init_104 : decode b_M_init 104 = .ok (.iconst 4, 1) := by decide +kernel
theorem d_M_init_105 : decode b_M_init 105 = .ok (.if_icmp .ge 57, 3) := by decide +kernel
theorem d_M_init_108 : decode b_M_init 108 = .ok (.aload_n 0, 1) := by decide +kernel
theorem d_M_init_109 : decode b_M_init 109 = .ok (.getfield 38, 3) := by decide +kernel
theorem d_M_init_112 : decode b_M_init 112 = .ok (.bipush 6, 2) := by decide +kernel
theorem d_M_init_114 : decode b_M_init 114 = .ok (.iload_n 1, 1) := by decide +kernel
theorem d_M_init_115 : decode b_M_init 115 = .ok (.imul, 1) := by decide +kernel
theorem d_M_init_116 : decode b_M_init 116 = .ok (.bipush 10, 2) := by decide +kernel
theorem d_M_init_118 : decode b_M_init 118 = .ok (.iastore, 1) := by decide +kernel
theorem d_M_init_119 : decode b_M_init 119 = .ok (.aload_n 0, 1) := by decide +kernel
theorem d_M_init_120 : decode b_M_init 120 = .ok (.getfield 38, 3) := by decide +kernel
theorem d_M_init_123 : decode b_M_init 123 = .ok (.bipush 6, 2) := by decide +kernel
theorem d_M_init_125 : decode b_M_init 125 = .ok (.iload_n 1, 1) := by decide +kernel
theorem d_M_init_126 : decode b_M_init 126 = .ok (.imul, 1) := by decide +kernel
theorem d_M_init_127 : decode b_M_init 127 = .ok (.iconst 1, 1) := by decide +kernel
theorem d_M_init_128 : decode b_M_init 128 = .ok (.iadd, 1) := by decide +kernel
theorem d_M_init_129 : decode b_M_init 129 = .ok (.iconst 5, 1) := by decide +kernel
theorem d_M_init_130 : decode b_M_init 130 = .ok (.iastore, 1) := by decide +kernel
theorem d_M_init_131 : decode b_M_init 131 = .ok (.aload_n 0, 1) := by decide +kernel
theorem d_M_init_132 : decode b_M_init 132 = .ok (.getfield 38, 3) := by decide +kernel
theorem d_M_init_135 : decode b_M_init 135 = .ok (.bipush 6, 2) := by decide +kernel
theorem d_M_init_137 : decode b_M_init 137 = .ok (.iload_n 1, 1) := by decide +kernel
theorem d_M_init_138 : decode b_M_init 138 = .ok (.imul, 1) := by decide +kernel
theorem d_M_init_139 : decode b_M_init 139 = .ok (.iconst 2, 1) := by decide +kernel
theorem d_M_init_140 : decode b_M_init 140 = .ok (.iadd, 1) := by decide +kernel
theorem d_M_init_141 : decode b_M_init 141 = .ok (.iconst 1, 1) := by decide +kernel
theorem d_M_init_142 : decode b_M_init 142 = .ok (.iastore, 1) := by decide +kernel
theorem d_M_init_143 : decode b_M_init 143 = .ok (.aload_n 0, 1) := by decide +kernel
theorem d_M_init_144 : decode b_M_init 144 = .ok (.getfield 38, 3) := by decide +kernel
theorem d_M_init_147 : decode b_M_init 147 = .ok (.bipush 6, 2) := by decide +kernel
theorem d_M_init_149 : decode b_M_init 149 = .ok (.iload_n 1, 1) := by decide +kernel
theorem d_M_init_150 : decode b_M_init 150 = .ok (.imul, 1) := by decide +kernel
theorem d_M_init_151 : decode b_M_init 151 = .ok (.iconst 3, 1) := by decide +kernel
theorem d_M_init_152 : decode b_M_init 152 = .ok (.iadd, 1) := by decide +kernel
theorem d_M_init_153 : decode b_M_init 153 = .ok (.bipush 60, 2) := by decide +kernel
theorem d_M_init_155 : decode b_M_init 155 = .ok (.iastore, 1) := by decide +kernel
theorem d_M_init_156 : decode b_M_init 156 = .ok (.iinc 1 1, 3) := by decide +kernel
theorem d_M_init_159 : decode b_M_init 159 = .ok (.goto (-56), 3) := by decide +kernel
theorem d_M_init_162 : decode b_M_init 162 = .ok (.iconst 0, 1) := by decide +kernel
theorem d_M_init_163 : decode b_M_init 163 = .ok (.istore_n 1, 1) := by decide +kernel
theorem d_M_init_164 : decode b_M_init 164 = .ok (.iload_n 1, 1) := by decide +kernel
theorem d_M_init_165 : decode b_M_init 165 = .ok (.bipush 8, 2) := by decide +kernel
theorem d_M_init_167 : decode b_M_init 167 = .ok (.if_icmp .ge 17, 3) := by decide +kernel
theorem d_M_init_170 : decode b_M_init 170 = .ok (.aload_n 0, 1) := by decide +kernel
theorem d_M_init_171 : decode b_M_init 171 = .ok (.getfield 41, 3) := by decide +kernel
theorem d_M_init_174 : decode b_M_init 174 = .ok (.iload_n 1, 1) := by decide +kernel
theorem d_M_init_175 : decode b_M_init 175 = .ok (.bipush 8, 2) := by decide +kernel
theorem d_M_init_177 : decode b_M_init 177 = .ok (.iastore, 1) := by decide +kernel
theorem d_M_init_178 : decode b_M_init 178 = .ok (.iinc 1 1, 3) := by decide +kernel
theorem d_M_init_181 : decode b_M_init 181 = .ok (.goto (-17), 3) := by decide +kernel
theorem d_M_init_184 : decode b_M_init 184 = .ok (.return_, 1) := by decide +kernel
theorem d_M_thrown_0 : decode b_M_thrown 0 = .ok (.aload_n 0, 1) := by decide +kernel
theorem d_M_thrown_1 : decode b_M_thrown 1 = .ok (.getfield 44, 3) := by decide +kernel
theorem d_M_thrown_4 : decode b_M_thrown 4 = .ok (.ireturn, 1) := by decide +kernel
theorem d_M_add_0 : decode b_M_add 0 = .ok (.iload_n 1, 1) := by decide +kernel
theorem d_M_add_1 : decode b_M_add 1 = .ok (.iconst 0, 1) := by decide +kernel
theorem d_M_add_2 : decode b_M_add 2 = .ok (.iconst 3, 1) := by decide +kernel
theorem d_M_add_3 : decode b_M_add 3 = .ok (.invokestatic 58, 3) := by decide +kernel
theorem d_M_add_6 : decode b_M_add 6 = .ok (.ifCond .eq 34, 3) := by decide +kernel
theorem d_M_add_9 : decode b_M_add 9 = .ok (.iload_n 2, 1) := by decide +kernel
theorem d_M_add_10 : decode b_M_add 10 = .ok (.iconst 0, 1) := by decide +kernel
theorem d_M_add_11 : decode b_M_add 11 = .ok (.iconst 3, 1) := by decide +kernel
theorem d_M_add_12 : decode b_M_add 12 = .ok (.invokestatic 58, 3) := by decide +kernel
theorem d_M_add_15 : decode b_M_add 15 = .ok (.ifCond .eq 25, 3) := by decide +kernel
theorem d_M_add_18 : decode b_M_add 18 = .ok (.iload_n 3, 1) := by decide +kernel
theorem d_M_add_19 : decode b_M_add 19 = .ok (.iconst (-1), 1) := by decide +kernel
theorem d_M_add_20 : decode b_M_add 20 = .ok (.bipush 7, 2) := by decide +kernel
theorem d_M_add_22 : decode b_M_add 22 = .ok (.invokestatic 58, 3) := by decide +kernel
theorem d_M_add_25 : decode b_M_add 25 = .ok (.ifCond .eq 15, 3) := by decide +kernel
theorem d_M_add_28 : decode b_M_add 28 = .ok (.iload 6, 2) := by decide +kernel
theorem d_M_add_30 : decode b_M_add 30 = .ok (.iconst 0, 1) := by decide +kernel
theorem d_M_add_31 : decode b_M_add 31 = .ok (.sipush 1000, 3) := by decide +kernel
theorem d_M_add_34 : decode b_M_add 34 = .ok (.invokestatic 58, 3) := by decide +kernel
theorem d_M_add_37 : decode b_M_add 37 = .ok (.ifCond .ne 9, 3) := by decide +kernel
theorem d_M_add_40 : decode b_M_add 40 = .ok (.aload_n 0, 1) := by decide +kernel
theorem d_M_add_41 : decode b_M_add 41 = .ok (.iconst 1, 1) := by decide +kernel
theorem d_M_add_42 : decode b_M_add 42 = .ok (.invokevirtual 62, 3) := by decide +kernel
theorem d_M_add_45 : decode b_M_add 45 = .ok (.ireturn, 1) := by decide +kernel
theorem d_M_add_46 : decode b_M_add 46 = .ok (.aload_n 0, 1) := by decide +kernel
theorem d_M_add_47 : decode b_M_add 47 = .ok (.iload_n 1, 1) := by decide +kernel
theorem d_M_add_48 : decode b_M_add 48 = .ok (.lload 4, 2) := by decide +kernel
theorem d_M_add_50 : decode b_M_add 50 = .ok (.invokevirtual 66, 3) := by decide +kernel
theorem d_M_add_53 : decode b_M_add 53 = .ok (.istore 7, 2) := by decide +kernel
theorem d_M_add_55 : decode b_M_add 55 = .ok (.aload_n 0, 1) := by decide +kernel
theorem d_M_add_56 : decode b_M_add 56 = .ok (.iload 7, 2) := by decide +kernel
theorem d_M_add_58 : decode b_M_add 58 = .ok (.iconst (-1), 1) := by decide +kernel
theorem d_M_add_59 : decode b_M_add 59 = .ok (.if_icmp .ne 26, 3) := by decide +kernel
theorem d_M_add_62 : decode b_M_add 62 = .ok (.aload_n 0, 1) := by decide +kernel
theorem d_M_add_63 : decode b_M_add 63 = .ok (.invokevirtual 70, 3) := by decide +kernel
theorem d_M_add_66 : decode b_M_add 66 = .ok (.bipush 64, 2) := by decide +kernel
theorem d_M_add_68 : decode b_M_add 68 = .ok (.if_icmp .eq 13, 3) := by decide +kernel
theorem d_M_add_71 : decode b_M_add 71 = .ok (.aload_n 0, 1) := by decide +kernel
theorem d_M_add_72 : decode b_M_add 72 = .ok (.getfield 48, 3) := by decide +kernel
theorem d_M_add_75 : decode b_M_add 75 = .ok (.sipush 400, 3) := by decide +kernel
theorem d_M_add_78 : decode b_M_add 78 = .ok (.if_icmp .ne 7, 3) := by decide +kernel
theorem d_M_add_81 : decode b_M_add 81 = .ok (.iconst 2, 1) := by decide +kernel
theorem d_M_add_82 : decode b_M_add 82 = .ok (.goto 4, 3) := by decide +kernel
theorem d_M_add_85 : decode b_M_add 85 = .ok (.iconst 0, 1) := by decide +kernel
theorem d_M_add_86 : decode b_M_add 86 = .ok (.putfield 44, 3) := by decide +kernel
theorem d_M_add_89 : decode b_M_add 89 = .ok (.aload_n 0, 1) := by decide +kernel
theorem d_M_add_90 : decode b_M_add 90 = .ok (.getfield 44, 3) := by decide +kernel
theorem d_M_add_93 : decode b_M_add 93 = .ok (.ifCond .le 5, 3) := by decide +kernel
theorem d_M_add_96 : decode b_M_add 96 = .ok (.iconst 0, 1) := by decide +kernel
theorem d_M_add_97 : decode b_M_add 97 = .ok (.ireturn, 1) := by decide +kernel
theorem d_M_add_98 : decode b_M_add 98 = .ok (.iload 7, 2) := by decide +kernel
theorem d_M_add_100 : decode b_M_add 100 = .ok (.iconst (-1), 1) := by decide +kernel
theorem d_M_add_101 : decode b_M_add 101 = .ok (.if_icmp .eq 6, 3) := by decide +kernel
theorem d_M_add_104 : decode b_M_add 104 = .ok (.iload 7, 2) := by decide +kernel
theorem d_M_add_106 : decode b_M_add 106 = .ok (.ireturn, 1) := by decide +kernel
theorem d_M_add_107 : decode b_M_add 107 = .ok (.aload_n 0, 1) := by decide +kernel
theorem d_M_add_108 : decode b_M_add 108 = .ok (.getfield 48, 3) := by decide +kernel
theorem d_M_add_111 : decode b_M_add 111 = .ok (.istore 8, 2) := by decide +kernel
theorem d_M_add_113 : decode b_M_add 113 = .ok (.aload_n 0, 1) := by decide +kernel
theorem d_M_add_114 : decode b_M_add 114 = .ok (.dup, 1) := by decide +kernel
theorem d_M_add_115 : decode b_M_add 115 = .ok (.getfield 48, 3) := by decide +kernel
theorem d_M_add_118 : decode b_M_add 118 = .ok (.iconst 1, 1) := by decide +kernel
theorem d_M_add_119 : decode b_M_add 119 = .ok (.iadd, 1) := by decide +kernel
theorem d_M_add_120 : decode b_M_add 120 = .ok (.putfield 48, 3) := by decide +kernel
theorem d_M_add_123 : decode b_M_add 123 = .ok (.aload_n 0, 1) := by decide +kernel
theorem d_M_add_124 : decode b_M_add 124 = .ok (.getfield 7, 3) := by decide +kernel
theorem d_M_add_127 : decode b_M_add 127 = .ok (.iload 8, 2) := by decide +kernel
theorem d_M_add_129 : decode b_M_add 129 = .ok (.iload_n 1, 1) := by decide +kernel
theorem d_M_add_130 : decode b_M_add 130 = .ok (.iastore, 1) := by decide +kernel
theorem d_M_add_131 : decode b_M_add 131 = .ok (.aload_n 0, 1) := by decide +kernel
theorem d_M_add_132 : decode b_M_add 132 = .ok (.getfield 13, 3) := by decide +kernel
theorem d_M_add_135 : decode b_M_add 135 = .ok (.iload 8, 2) := by decide +kernel
end
section
theorem d_M_add_137 : decode b_M_add 137 = .ok (.iload_n 2, 1) := by decide +kernel
theorem d_M_add_138 : decode b_M_add 138 = .ok (.iastore, 1) := by decide +kernel
theorem d_M_add_139 : decode b_M_add 139 = .ok (.aload_n 0, 1) := by decide +kernel
theorem d_M_add_140 : decode b_M_add 140 = .ok (.getfield 16, 3) := by decide +kernel
theorem d_M_add_143 : decode b_M_add 143 = .ok (.iload 8, 2) := by decide +kernel
theorem d_M_add_145 : decode b_M_add 145 = .ok (.iload_n 3, 1) := by decide +kernel
theorem d_M_add_146 : decode b_M_add 146 = .ok (.iastore, 1) := by decide +kernel
theorem d_M_add_147 : decode b_M_add 147 = .ok (.aload_n 0, 1) := by decide +kernel
theorem d_M_add_148 : decode b_M_add 148 = .ok (.getfield 19, 3) := by decide +kernel
theorem d_M_add_151 : decode b_M_add 151 = .ok (.iload 8, 2) := by decide +kernel
theorem d_M_add_153 : decode b_M_add 153 = .ok (.lload 4, 2) := by decide +kernel
theorem d_M_add_155 : decode b_M_add 155 = .ok (.lastore, 1) := by decide +kernel
theorem d_M_add_156 : decode b_M_add 156 = .ok (.aload_n 0, 1) := by decide +kernel
theorem d_M_add_157 : decode b_M_add 157 = .ok (.getfield 23, 3) := by decide +kernel
theorem d_M_add_160 : decode b_M_add 160 = .ok (.iload 8, 2) := by decide +kernel
theorem d_M_add_162 : decode b_M_add 162 = .ok (.iconst 0, 1) := by decide +kernel
theorem d_M_add_163 : decode b_M_add 163 = .ok (.iastore, 1) := by decide +kernel
theorem d_M_add_164 : decode b_M_add 164 = .ok (.aload_n 0, 1) := by decide +kernel
theorem d_M_add_165 : decode b_M_add 165 = .ok (.getfield 26, 3) := by decide +kernel
theorem d_M_add_168 : decode b_M_add 168 = .ok (.iload 8, 2) := by decide +kernel
theorem d_M_add_170 : decode b_M_add 170 = .ok (.iconst 0, 1) := by decide +kernel
theorem d_M_add_171 : decode b_M_add 171 = .ok (.iastore, 1) := by decide +kernel
theorem d_M_add_172 : decode b_M_add 172 = .ok (.aload_n 0, 1) := by decide +kernel
theorem d_M_add_173 : decode b_M_add 173 = .ok (.getfield 29, 3) := by decide +kernel
theorem d_M_add_176 : decode b_M_add 176 = .ok (.iload 8, 2) := by decide +kernel
theorem d_M_add_178 : decode b_M_add 178 = .ok (.aload_n 0, 1) := by decide +kernel
theorem d_M_add_179 : decode b_M_add 179 = .ok (.getfield 55, 3) := by decide +kernel
theorem d_M_add_182 : decode b_M_add 182 = .ok (.iload 6, 2) := by decide +kernel
theorem d_M_add_184 : decode b_M_add 184 = .ok (.iadd, 1) := by decide +kernel
theorem d_M_add_185 : decode b_M_add 185 = .ok (.iastore, 1) := by decide +kernel
theorem d_M_add_186 : decode b_M_add 186 = .ok (.iload 8, 2) := by decide +kernel
theorem d_M_add_188 : decode b_M_add 188 = .ok (.ireturn, 1) := by decide +kernel
theorem d_M_within_0 : decode b_M_within 0 = .ok (.iload_n 0, 1) := by decide +kernel
theorem d_M_within_1 : decode b_M_within 1 = .ok (.iload_n 1, 1) := by decide +kernel
theorem d_M_within_2 : decode b_M_within 2 = .ok (.if_icmp .lt 12, 3) := by decide +kernel
theorem d_M_within_5 : decode b_M_within 5 = .ok (.iload_n 0, 1) := by decide +kernel
theorem d_M_within_6 : decode b_M_within 6 = .ok (.iload_n 2, 1) := by decide +kernel
theorem d_M_within_7 : decode b_M_within 7 = .ok (.if_icmp .gt 7, 3) := by decide +kernel
theorem d_M_within_10 : decode b_M_within 10 = .ok (.iconst 1, 1) := by decide +kernel
theorem d_M_within_11 : decode b_M_within 11 = .ok (.goto 4, 3) := by decide +kernel
theorem d_M_within_14 : decode b_M_within 14 = .ok (.iconst 0, 1) := by decide +kernel
theorem d_M_within_15 : decode b_M_within 15 = .ok (.ireturn, 1) := by decide +kernel
theorem d_M_raise_0 : decode b_M_raise 0 = .ok (.aload_n 0, 1) := by decide +kernel
theorem d_M_raise_1 : decode b_M_raise 1 = .ok (.iload_n 1, 1) := by decide +kernel
theorem d_M_raise_2 : decode b_M_raise 2 = .ok (.putfield 44, 3) := by decide +kernel
theorem d_M_raise_5 : decode b_M_raise 5 = .ok (.iconst 0, 1) := by decide +kernel
theorem d_M_raise_6 : decode b_M_raise 6 = .ok (.ireturn, 1) := by decide +kernel
theorem d_M_found_0 : decode b_M_found 0 = .ok (.aload_n 0, 1) := by decide +kernel
theorem d_M_found_1 : decode b_M_found 1 = .ok (.getfield 48, 3) := by decide +kernel
theorem d_M_found_4 : decode b_M_found 4 = .ok (.iconst 1, 1) := by decide +kernel
theorem d_M_found_5 : decode b_M_found 5 = .ok (.isub, 1) := by decide +kernel
theorem d_M_found_6 : decode b_M_found 6 = .ok (.istore 4, 2) := by decide +kernel
theorem d_M_found_8 : decode b_M_found 8 = .ok (.iload 4, 2) := by decide +kernel
theorem d_M_found_10 : decode b_M_found 10 = .ok (.ifCond .lt 90, 3) := by decide +kernel
theorem d_M_found_13 : decode b_M_found 13 = .ok (.aload_n 0, 1) := by decide +kernel
theorem d_M_found_14 : decode b_M_found 14 = .ok (.getfield 7, 3) := by decide +kernel
theorem d_M_found_17 : decode b_M_found 17 = .ok (.iload 4, 2) := by decide +kernel
theorem d_M_found_19 : decode b_M_found 19 = .ok (.iaload, 1) := by decide +kernel
theorem d_M_found_20 : decode b_M_found 20 = .ok (.iload_n 1, 1) := by decide +kernel
theorem d_M_found_21 : decode b_M_found 21 = .ok (.if_icmp .ne 73, 3) := by decide +kernel
theorem d_M_found_24 : decode b_M_found 24 = .ok (.aload_n 0, 1) := by decide +kernel
theorem d_M_found_25 : decode b_M_found 25 = .ok (.getfield 19, 3) := by decide +kernel
theorem d_M_found_28 : decode b_M_found 28 = .ok (.iload 4, 2) := by decide +kernel
theorem d_M_found_30 : decode b_M_found 30 = .ok (.laload, 1) := by decide +kernel
theorem d_M_found_31 : decode b_M_found 31 = .ok (.lload_n 2, 1) := by decide +kernel
theorem d_M_found_32 : decode b_M_found 32 = .ok (.lcmp, 1) := by decide +kernel
theorem d_M_found_33 : decode b_M_found 33 = .ok (.ifCond .ne 61, 3) := by decide +kernel
theorem d_M_found_36 : decode b_M_found 36 = .ok (.lload_n 2, 1) := by decide +kernel
theorem d_M_found_37 : decode b_M_found 37 = .ok (.lconst 0, 1) := by decide +kernel
theorem d_M_found_38 : decode b_M_found 38 = .ok (.lcmp, 1) := by decide +kernel
theorem d_M_found_39 : decode b_M_found 39 = .ok (.ifCond .ne 6, 3) := by decide +kernel
theorem d_M_found_42 : decode b_M_found 42 = .ok (.goto 52, 3) := by decide +kernel
theorem d_M_found_45 : decode b_M_found 45 = .ok (.aload_n 0, 1) := by decide +kernel
theorem d_M_found_46 : decode b_M_found 46 = .ok (.iload 4, 2) := by decide +kernel
theorem d_M_found_48 : decode b_M_found 48 = .ok (.invokevirtual 51, 3) := by decide +kernel
theorem d_M_found_51 : decode b_M_found 51 = .ok (.ifCond .ne 40, 3) := by decide +kernel
theorem d_M_found_54 : decode b_M_found 54 = .ok (.aload_n 0, 1) := by decide +kernel
theorem d_M_found_55 : decode b_M_found 55 = .ok (.getfield 26, 3) := by decide +kernel
theorem d_M_found_58 : decode b_M_found 58 = .ok (.iload 4, 2) := by decide +kernel
theorem d_M_found_60 : decode b_M_found 60 = .ok (.iaload, 1) := by decide +kernel
theorem d_M_found_61 : decode b_M_found 61 = .ok (.iconst 2, 1) := by decide +kernel
theorem d_M_found_62 : decode b_M_found 62 = .ok (.if_icmp .ne 32, 3) := by decide +kernel
theorem d_M_found_65 : decode b_M_found 65 = .ok (.aload_n 0, 1) := by decide +kernel
theorem d_M_found_66 : decode b_M_found 66 = .ok (.getfield 55, 3) := by decide +kernel
theorem d_M_found_69 : decode b_M_found 69 = .ok (.aload_n 0, 1) := by decide +kernel
theorem d_M_found_70 : decode b_M_found 70 = .ok (.getfield 29, 3) := by decide +kernel
theorem d_M_found_73 : decode b_M_found 73 = .ok (.iload 4, 2) := by decide +kernel
theorem d_M_found_75 : decode b_M_found 75 = .ok (.iaload, 1) := by decide +kernel
theorem d_M_found_76 : decode b_M_found 76 = .ok (.isub, 1) := by decide +kernel
theorem d_M_found_77 : decode b_M_found 77 = .ok (.aload_n 0, 1) := by decide +kernel
theorem d_M_found_78 : decode b_M_found 78 = .ok (.getfield 38, 3) := by decide +kernel
theorem d_M_found_81 : decode b_M_found 81 = .ok (.bipush 6, 2) := by decide +kernel
theorem d_M_found_83 : decode b_M_found 83 = .ok (.iload_n 1, 1) := by decide +kernel
theorem d_M_found_84 : decode b_M_found 84 = .ok (.imul, 1) := by decide +kernel
theorem d_M_found_85 : decode b_M_found 85 = .ok (.iconst 5, 1) := by decide +kernel
theorem d_M_found_86 : decode b_M_found 86 = .ok (.iadd, 1) := by decide +kernel
theorem d_M_found_87 : decode b_M_found 87 = .ok (.iaload, 1) := by decide +kernel
theorem d_M_found_88 : decode b_M_found 88 = .ok (.if_icmp .gt 6, 3) := by decide +kernel
theorem d_M_found_91 : decode b_M_found 91 = .ok (.iload 4, 2) := by decide +kernel
theorem d_M_found_93 : decode b_M_found 93 = .ok (.ireturn, 1) := by decide +kernel
theorem d_M_found_94 : decode b_M_found 94 = .ok (.iinc 4 (-1), 3) := by decide +kernel
theorem d_M_found_97 : decode b_M_found 97 = .ok (.goto (-89), 3) := by decide +kernel
theorem d_M_found_100 : decode b_M_found 100 = .ok (.iconst (-1), 1) := by decide +kernel
theorem d_M_found_101 : decode b_M_found 101 = .ok (.ireturn, 1) := by decide +kernel
theorem d_M_isLive_0 : decode b_M_isLive 0 = .ok (.aload_n 0, 1) := by decide +kernel
theorem d_M_isLive_1 : decode b_M_isLive 1 = .ok (.getfield 26, 3) := by decide +kernel
theorem d_M_isLive_4 : decode b_M_isLive 4 = .ok (.iload_n 1, 1) := by decide +kernel
theorem d_M_isLive_5 : decode b_M_isLive 5 = .ok (.iaload, 1) := by decide +kernel
theorem d_M_isLive_6 : decode b_M_isLive 6 = .ok (.ifCond .eq 13, 3) := by decide +kernel
theorem d_M_isLive_9 : decode b_M_isLive 9 = .ok (.aload_n 0, 1) := by decide +kernel
theorem d_M_isLive_10 : decode b_M_isLive 10 = .ok (.getfield 26, 3) := by decide +kernel
theorem d_M_isLive_13 : decode b_M_isLive 13 = .ok (.iload_n 1, 1) := by decide +kernel
theorem d_M_isLive_14 : decode b_M_isLive 14 = .ok (.iaload, 1) := by decide +kernel
theorem d_M_isLive_15 : decode b_M_isLive 15 = .ok (.iconst 1, 1) := by decide +kernel
theorem d_M_isLive_16 : decode b_M_isLive 16 = .ok (.if_icmp .ne 7, 3) := by decide +kernel
theorem d_M_isLive_19 : decode b_M_isLive 19 = .ok (.iconst 1, 1) := by decide +kernel
theorem d_M_isLive_20 : decode b_M_isLive 20 = .ok (.goto 4, 3) := by decide +kernel
theorem d_M_isLive_23 : decode b_M_isLive 23 = .ok (.iconst 0, 1) := by decide +kernel
theorem d_M_isLive_24 : decode b_M_isLive 24 = .ok (.ireturn, 1) := by decide +kernel
theorem d_M_lives_0 : decode b_M_lives 0 = .ok (.iconst 0, 1) := by decide +kernel
theorem d_M_lives_1 : decode b_M_lives 1 = .ok (.istore_n 1, 1) := by decide +kernel
theorem d_M_lives_2 : decode b_M_lives 2 = .ok (.iconst 0, 1) := by decide +kernel
theorem d_M_lives_3 : decode b_M_lives 3 = .ok (.istore_n 2, 1) := by decide +kernel
theorem d_M_lives_4 : decode b_M_lives 4 = .ok (.iload_n 2, 1) := by decide +kernel
theorem d_M_lives_5 : decode b_M_lives 5 = .ok (.aload_n 0, 1) := by decide +kernel
theorem d_M_lives_6 : decode b_M_lives 6 = .ok (.getfield 48, 3) := by decide +kernel
theorem d_M_lives_9 : decode b_M_lives 9 = .ok (.if_icmp .ge 25, 3) := by decide +kernel
theorem d_M_lives_12 : decode b_M_lives 12 = .ok (.iload_n 1, 1) := by decide +kernel
theorem d_M_lives_13 : decode b_M_lives 13 = .ok (.aload_n 0, 1) := by decide +kernel
theorem d_M_lives_14 : decode b_M_lives 14 = .ok (.iload_n 2, 1) := by decide +kernel
theorem d_M_lives_15 : decode b_M_lives 15 = .ok (.invokevirtual 51, 3) := by decide +kernel
theorem d_M_lives_18 : decode b_M_lives 18 = .ok (.ifCond .eq 7, 3) := by decide +kernel
theorem d_M_lives_21 : decode b_M_lives 21 = .ok (.iconst 1, 1) := by decide +kernel
theorem d_M_lives_22 : decode b_M_lives 22 = .ok (.goto 4, 3) := by decide +kernel
theorem d_M_lives_25 : decode b_M_lives 25 = .ok (.iconst 0, 1) := by decide +kernel
theorem d_M_lives_26 : decode b_M_lives 26 = .ok (.iadd, 1) := by decide +kernel
theorem d_M_lives_27 : decode b_M_lives 27 = .ok (.istore_n 1, 1) := by decide +kernel
theorem d_M_lives_28 : decode b_M_lives 28 = .ok (.iinc 2 1, 3) := by decide +kernel
theorem d_M_lives_31 : decode b_M_lives 31 = .ok (.goto (-27), 3) := by decide +kernel
theorem d_M_lives_34 : decode b_M_lives 34 = .ok (.iload_n 1, 1) := by decide +kernel
theorem d_M_lives_35 : decode b_M_lives 35 = .ok (.ireturn, 1) := by decide +kernel
theorem d_M_lend_0 : decode b_M_lend 0 = .ok (.iload_n 1, 1) := by decide +kernel
theorem d_M_lend_1 : decode b_M_lend 1 = .ok (.iconst 0, 1) := by decide +kernel
theorem d_M_lend_2 : decode b_M_lend 2 = .ok (.bipush 7, 2) := by decide +kernel
theorem d_M_lend_4 : decode b_M_lend 4 = .ok (.invokestatic 58, 3) := by decide +kernel
theorem d_M_lend_7 : decode b_M_lend 7 = .ok (.ifCond .eq 12, 3) := by decide +kernel
theorem d_M_lend_10 : decode b_M_lend 10 = .ok (.iload_n 2, 1) := by decide +kernel
theorem d_M_lend_11 : decode b_M_lend 11 = .ok (.iconst 0, 1) := by decide +kernel
theorem d_M_lend_12 : decode b_M_lend 12 = .ok (.iconst 3, 1) := by decide +kernel
theorem d_M_lend_13 : decode b_M_lend 13 = .ok (.invokestatic 58, 3) := by decide +kernel
theorem d_M_lend_16 : decode b_M_lend 16 = .ok (.ifCond .ne 9, 3) := by decide +kernel
theorem d_M_lend_19 : decode b_M_lend 19 = .ok (.aload_n 0, 1) := by decide +kernel
theorem d_M_lend_20 : decode b_M_lend 20 = .ok (.iconst 1, 1) := by decide +kernel
theorem d_M_lend_21 : decode b_M_lend 21 = .ok (.invokevirtual 62, 3) := by decide +kernel
theorem d_M_lend_24 : decode b_M_lend 24 = .ok (.ireturn, 1) := by decide +kernel
theorem d_M_lend_25 : decode b_M_lend 25 = .ok (.aload_n 0, 1) := by decide +kernel
theorem d_M_lend_26 : decode b_M_lend 26 = .ok (.iconst 0, 1) := by decide +kernel
theorem d_M_lend_27 : decode b_M_lend 27 = .ok (.putfield 44, 3) := by decide +kernel
theorem d_M_lend_30 : decode b_M_lend 30 = .ok (.aload_n 0, 1) := by decide +kernel
theorem d_M_lend_31 : decode b_M_lend 31 = .ok (.iload_n 2, 1) := by decide +kernel
theorem d_M_lend_32 : decode b_M_lend 32 = .ok (.invokevirtual 83, 3) := by decide +kernel
theorem d_M_lend_35 : decode b_M_lend 35 = .ok (.istore_n 3, 1) := by decide +kernel
theorem d_M_lend_36 : decode b_M_lend 36 = .ok (.iload_n 3, 1) := by decide +kernel
theorem d_M_lend_37 : decode b_M_lend 37 = .ok (.iconst (-1), 1) := by decide +kernel
theorem d_M_lend_38 : decode b_M_lend 38 = .ok (.if_icmp .eq 12, 3) := by decide +kernel
theorem d_M_lend_41 : decode b_M_lend 41 = .ok (.aload_n 0, 1) := by decide +kernel
theorem d_M_lend_42 : decode b_M_lend 42 = .ok (.iload_n 1, 1) := by decide +kernel
theorem d_M_lend_43 : decode b_M_lend 43 = .ok (.invokevirtual 86, 3) := by decide +kernel
theorem d_M_lend_46 : decode b_M_lend 46 = .ok (.iconst 4, 1) := by decide +kernel
theorem d_M_lend_47 : decode b_M_lend 47 = .ok (.if_icmp .ne 5, 3) := by decide +kernel
theorem d_M_lend_50 : decode b_M_lend 50 = .ok (.iconst (-1), 1) := by decide +kernel
theorem d_M_lend_51 : decode b_M_lend 51 = .ok (.ireturn, 1) := by decide +kernel
theorem d_M_lend_52 : decode b_M_lend 52 = .ok (.aload_n 0, 1) := by decide +kernel
theorem d_M_lend_53 : decode b_M_lend 53 = .ok (.getfield 26, 3) := by decide +kernel
theorem d_M_lend_56 : decode b_M_lend 56 = .ok (.iload_n 3, 1) := by decide +kernel
theorem d_M_lend_57 : decode b_M_lend 57 = .ok (.iconst 1, 1) := by decide +kernel
theorem d_M_lend_58 : decode b_M_lend 58 = .ok (.iastore, 1) := by decide +kernel
theorem d_M_lend_59 : decode b_M_lend 59 = .ok (.aload_n 0, 1) := by decide +kernel
theorem d_M_lend_60 : decode b_M_lend 60 = .ok (.getfield 32, 3) := by decide +kernel
theorem d_M_lend_63 : decode b_M_lend 63 = .ok (.iload_n 3, 1) := by decide +kernel
theorem d_M_lend_64 : decode b_M_lend 64 = .ok (.iload_n 1, 1) := by decide +kernel
theorem d_M_lend_65 : decode b_M_lend 65 = .ok (.iastore, 1) := by decide +kernel
theorem d_M_lend_66 : decode b_M_lend 66 = .ok (.aload_n 0, 1) := by decide +kernel
theorem d_M_lend_67 : decode b_M_lend 67 = .ok (.getfield 35, 3) := by decide +kernel
theorem d_M_lend_70 : decode b_M_lend 70 = .ok (.iload_n 3, 1) := by decide +kernel
theorem d_M_lend_71 : decode b_M_lend 71 = .ok (.aload_n 0, 1) := by decide +kernel
theorem d_M_lend_72 : decode b_M_lend 72 = .ok (.getfield 89, 3) := by decide +kernel
theorem d_M_lend_75 : decode b_M_lend 75 = .ok (.iastore, 1) := by decide +kernel
theorem d_M_lend_76 : decode b_M_lend 76 = .ok (.aload_n 0, 1) := by decide +kernel
theorem d_M_lend_77 : decode b_M_lend 77 = .ok (.dup, 1) := by decide +kernel
theorem d_M_lend_78 : decode b_M_lend 78 = .ok (.getfield 89, 3) := by decide +kernel
theorem d_M_lend_81 : decode b_M_lend 81 = .ok (.iconst 1, 1) := by decide +kernel
theorem d_M_lend_82 : decode b_M_lend 82 = .ok (.iadd, 1) := by decide +kernel
theorem d_M_lend_83 : decode b_M_lend 83 = .ok (.putfield 89, 3) := by decide +kernel
theorem d_M_lend_86 : decode b_M_lend 86 = .ok (.aload_n 0, 1) := by decide +kernel
theorem d_M_lend_87 : decode b_M_lend 87 = .ok (.getfield 23, 3) := by decide +kernel
theorem d_M_lend_90 : decode b_M_lend 90 = .ok (.iload_n 3, 1) := by decide +kernel
theorem d_M_lend_91 : decode b_M_lend 91 = .ok (.dup2, 1) := by decide +kernel
theorem d_M_lend_92 : decode b_M_lend 92 = .ok (.iaload, 1) := by decide +kernel
theorem d_M_lend_93 : decode b_M_lend 93 = .ok (.iconst 1, 1) := by decide +kernel
theorem d_M_lend_94 : decode b_M_lend 94 = .ok (.iadd, 1) := by decide +kernel
theorem d_M_lend_95 : decode b_M_lend 95 = .ok (.iastore, 1) := by decide +kernel
theorem d_M_lend_96 : decode b_M_lend 96 = .ok (.aload_n 0, 1) := by decide +kernel
theorem d_M_lend_97 : decode b_M_lend 97 = .ok (.getfield 29, 3) := by decide +kernel
theorem d_M_lend_100 : decode b_M_lend 100 = .ok (.iload_n 3, 1) := by decide +kernel
theorem d_M_lend_101 : decode b_M_lend 101 = .ok (.aload_n 0, 1) := by decide +kernel
theorem d_M_lend_102 : decode b_M_lend 102 = .ok (.getfield 55, 3) := by decide +kernel
theorem d_M_lend_105 : decode b_M_lend 105 = .ok (.aload_n 0, 1) := by decide +kernel
theorem d_M_lend_106 : decode b_M_lend 106 = .ok (.getfield 38, 3) := by decide +kernel
theorem d_M_lend_109 : decode b_M_lend 109 = .ok (.bipush 6, 2) := by decide +kernel
theorem d_M_lend_111 : decode b_M_lend 111 = .ok (.iload_n 2, 1) := by decide +kernel
theorem d_M_lend_112 : decode b_M_lend 112 = .ok (.imul, 1) := by decide +kernel
theorem d_M_lend_113 : decode b_M_lend 113 = .ok (.iaload, 1) := by decide +kernel
theorem d_M_lend_114 : decode b_M_lend 114 = .ok (.iadd, 1) := by decide +kernel
theorem d_M_lend_115 : decode b_M_lend 115 = .ok (.iastore, 1) := by decide +kernel
theorem d_M_lend_116 : decode b_M_lend 116 = .ok (.aload_n 0, 1) := by decide +kernel
theorem d_M_lend_117 : decode b_M_lend 117 = .ok (.getfield 35, 3) := by decide +kernel
theorem d_M_lend_120 : decode b_M_lend 120 = .ok (.iload_n 3, 1) := by decide +kernel
theorem d_M_lend_121 : decode b_M_lend 121 = .ok (.iaload, 1) := by decide +kernel
theorem d_M_lend_122 : decode b_M_lend 122 = .ok (.ireturn, 1) := by decide +kernel
theorem d_M_firstOf_0 : decode b_M_firstOf 0 = .ok (.iconst (-1), 1) := by decide +kernel
theorem d_M_firstOf_1 : decode b_M_firstOf 1 = .ok (.istore_n 2, 1) := by decide +kernel
theorem d_M_firstOf_2 : decode b_M_firstOf 2 = .ok (.iconst 0, 1) := by decide +kernel
theorem d_M_firstOf_3 : decode b_M_firstOf 3 = .ok (.istore_n 3, 1) := by decide +kernel
theorem d_M_firstOf_4 : decode b_M_firstOf 4 = .ok (.iload_n 3, 1) := by decide +kernel
theorem d_M_firstOf_5 : decode b_M_firstOf 5 = .ok (.aload_n 0, 1) := by decide +kernel
theorem d_M_firstOf_6 : decode b_M_firstOf 6 = .ok (.getfield 48, 3) := by decide +kernel
theorem d_M_firstOf_9 : decode b_M_firstOf 9 = .ok (.if_icmp .ge 78, 3) := by decide +kernel
theorem d_M_firstOf_12 : decode b_M_firstOf 12 = .ok (.aload_n 0, 1) := by decide +kernel
theorem d_M_firstOf_13 : decode b_M_firstOf 13 = .ok (.getfield 7, 3) := by decide +kernel
theorem d_M_firstOf_16 : decode b_M_firstOf 16 = .ok (.iload_n 3, 1) := by decide +kernel
theorem d_M_firstOf_17 : decode b_M_firstOf 17 = .ok (.iaload, 1) := by decide +kernel
theorem d_M_firstOf_18 : decode b_M_firstOf 18 = .ok (.iload_n 1, 1) := by decide +kernel
theorem d_M_firstOf_19 : decode b_M_firstOf 19 = .ok (.if_icmp .ne 62, 3) := by decide +kernel
theorem d_M_firstOf_22 : decode b_M_firstOf 22 = .ok (.aload_n 0, 1) := by decide +kernel
theorem d_M_firstOf_23 : decode b_M_firstOf 23 = .ok (.iload_n 3, 1) := by decide +kernel
theorem d_M_firstOf_24 : decode b_M_firstOf 24 = .ok (.invokevirtual 77, 3) := by decide +kernel
theorem d_M_firstOf_27 : decode b_M_firstOf 27 = .ok (.ifCond .ne 6, 3) := by decide +kernel
theorem d_M_firstOf_30 : decode b_M_firstOf 30 = .ok (.goto 51, 3) := by decide +kernel
theorem d_M_firstOf_33 : decode b_M_firstOf 33 = .ok (.iload_n 2, 1) := by decide +kernel
theorem d_M_firstOf_34 : decode b_M_firstOf 34 = .ok (.iconst (-1), 1) := by decide +kernel
theorem d_M_firstOf_35 : decode b_M_firstOf 35 = .ok (.if_icmp .eq 44, 3) := by decide +kernel
theorem d_M_firstOf_38 : decode b_M_firstOf 38 = .ok (.aload_n 0, 1) := by decide +kernel
theorem d_M_firstOf_39 : decode b_M_firstOf 39 = .ok (.iload_n 3, 1) := by decide +kernel
theorem d_M_firstOf_40 : decode b_M_firstOf 40 = .ok (.invokevirtual 80, 3) := by decide +kernel
theorem d_M_firstOf_43 : decode b_M_firstOf 43 = .ok (.aload_n 0, 1) := by decide +kernel
theorem d_M_firstOf_44 : decode b_M_firstOf 44 = .ok (.iload_n 2, 1) := by decide +kernel
theorem d_M_firstOf_45 : decode b_M_firstOf 45 = .ok (.invokevirtual 80, 3) := by decide +kernel
theorem d_M_firstOf_48 : decode b_M_firstOf 48 = .ok (.if_icmp .gt 31, 3) := by decide +kernel
theorem d_M_firstOf_51 : decode b_M_firstOf 51 = .ok (.aload_n 0, 1) := by decide +kernel
theorem d_M_firstOf_52 : decode b_M_firstOf 52 = .ok (.iload_n 3, 1) := by decide +kernel
theorem d_M_firstOf_53 : decode b_M_firstOf 53 = .ok (.invokevirtual 80, 3) := by decide +kernel
theorem d_M_firstOf_56 : decode b_M_firstOf 56 = .ok (.aload_n 0, 1) := by decide +kernel
theorem d_M_firstOf_57 : decode b_M_firstOf 57 = .ok (.iload_n 2, 1) := by decide +kernel
theorem d_M_firstOf_58 : decode b_M_firstOf 58 = .ok (.invokevirtual 80, 3) := by decide +kernel
theorem d_M_firstOf_61 : decode b_M_firstOf 61 = .ok (.if_icmp .ne 20, 3) := by decide +kernel
theorem d_M_firstOf_64 : decode b_M_firstOf 64 = .ok (.aload_n 0, 1) := by decide +kernel
theorem d_M_firstOf_65 : decode b_M_firstOf 65 = .ok (.getfield 29, 3) := by decide +kernel
theorem d_M_firstOf_68 : decode b_M_firstOf 68 = .ok (.iload_n 3, 1) := by decide +kernel
theorem d_M_firstOf_69 : decode b_M_firstOf 69 = .ok (.iaload, 1) := by decide +kernel
theorem d_M_firstOf_70 : decode b_M_firstOf 70 = .ok (.aload_n 0, 1) := by decide +kernel
theorem d_M_firstOf_71 : decode b_M_firstOf 71 = .ok (.getfield 29, 3) := by decide +kernel
theorem d_M_firstOf_74 : decode b_M_firstOf 74 = .ok (.iload_n 2, 1) := by decide +kernel
theorem d_M_firstOf_75 : decode b_M_firstOf 75 = .ok (.iaload, 1) := by decide +kernel
theorem d_M_firstOf_76 : decode b_M_firstOf 76 = .ok (.if_icmp .ge 5, 3) := by decide +kernel
theorem d_M_firstOf_79 : decode b_M_firstOf 79 = .ok (.iload_n 3, 1) := by decide +kernel
theorem d_M_firstOf_80 : decode b_M_firstOf 80 = .ok (.istore_n 2, 1) := by decide +kernel
theorem d_M_firstOf_81 : decode b_M_firstOf 81 = .ok (.iinc 3 1, 3) := by decide +kernel
theorem d_M_firstOf_84 : decode b_M_firstOf 84 = .ok (.goto (-80), 3) := by decide +kernel
theorem d_M_firstOf_87 : decode b_M_firstOf 87 = .ok (.iload_n 2, 1) := by decide +kernel
theorem d_M_firstOf_88 : decode b_M_firstOf 88 = .ok (.ireturn, 1) := by decide +kernel
theorem d_M_mayBeHad_0 : decode b_M_mayBeHad 0 = .ok (.aload_n 0, 1) := by decide +kernel
theorem d_M_mayBeHad_1 : decode b_M_mayBeHad 1 = .ok (.getfield 26, 3) := by decide +kernel
theorem d_M_mayBeHad_4 : decode b_M_mayBeHad 4 = .ok (.iload_n 1, 1) := by decide +kernel
theorem d_M_mayBeHad_5 : decode b_M_mayBeHad 5 = .ok (.iaload, 1) := by decide +kernel
theorem d_M_mayBeHad_6 : decode b_M_mayBeHad 6 = .ok (.ifCond .ne 54, 3) := by decide +kernel
theorem d_M_mayBeHad_9 : decode b_M_mayBeHad 9 = .ok (.aload_n 0, 1) := by decide +kernel
theorem d_M_mayBeHad_10 : decode b_M_mayBeHad 10 = .ok (.getfield 29, 3) := by decide +kernel
theorem d_M_mayBeHad_13 : decode b_M_mayBeHad 13 = .ok (.iload_n 1, 1) := by decide +kernel
theorem d_M_mayBeHad_14 : decode b_M_mayBeHad 14 = .ok (.iaload, 1) := by decide +kernel
theorem d_M_mayBeHad_15 : decode b_M_mayBeHad 15 = .ok (.aload_n 0, 1) := by decide +kernel
theorem d_M_mayBeHad_16 : decode b_M_mayBeHad 16 = .ok (.getfield 55, 3) := by decide +kernel
theorem d_M_mayBeHad_19 : decode b_M_mayBeHad 19 = .ok (.if_icmp .gt 41, 3) := by decide +kernel
theorem d_M_mayBeHad_22 : decode b_M_mayBeHad 22 = .ok (.aload_n 0, 1) := by decide +kernel
theorem d_M_mayBeHad_23 : decode b_M_mayBeHad 23 = .ok (.getfield 16, 3) := by decide +kernel
theorem d_M_mayBeHad_26 : decode b_M_mayBeHad 26 = .ok (.iload_n 1, 1) := by decide +kernel
theorem d_M_mayBeHad_27 : decode b_M_mayBeHad 27 = .ok (.iaload, 1) := by decide +kernel
theorem d_M_mayBeHad_28 : decode b_M_mayBeHad 28 = .ok (.iconst (-1), 1) := by decide +kernel
theorem d_M_mayBeHad_29 : decode b_M_mayBeHad 29 = .ok (.if_icmp .eq 27, 3) := by decide +kernel
theorem d_M_mayBeHad_32 : decode b_M_mayBeHad 32 = .ok (.aload_n 0, 1) := by decide +kernel
theorem d_M_mayBeHad_33 : decode b_M_mayBeHad 33 = .ok (.aload_n 0, 1) := by decide +kernel
theorem d_M_mayBeHad_34 : decode b_M_mayBeHad 34 = .ok (.getfield 16, 3) := by decide +kernel
theorem d_M_mayBeHad_37 : decode b_M_mayBeHad 37 = .ok (.iload_n 1, 1) := by decide +kernel
theorem d_M_mayBeHad_38 : decode b_M_mayBeHad 38 = .ok (.iaload, 1) := by decide +kernel
theorem d_M_mayBeHad_39 : decode b_M_mayBeHad 39 = .ok (.invokevirtual 74, 3) := by decide +kernel
theorem d_M_mayBeHad_42 : decode b_M_mayBeHad 42 = .ok (.aload_n 0, 1) := by decide +kernel
theorem d_M_mayBeHad_43 : decode b_M_mayBeHad 43 = .ok (.getfield 41, 3) := by decide +kernel
theorem d_M_mayBeHad_46 : decode b_M_mayBeHad 46 = .ok (.aload_n 0, 1) := by decide +kernel
theorem d_M_mayBeHad_47 : decode b_M_mayBeHad 47 = .ok (.getfield 16, 3) := by decide +kernel
theorem d_M_mayBeHad_50 : decode b_M_mayBeHad 50 = .ok (.iload_n 1, 1) := by decide +kernel
theorem d_M_mayBeHad_51 : decode b_M_mayBeHad 51 = .ok (.iaload, 1) := by decide +kernel
theorem d_M_mayBeHad_52 : decode b_M_mayBeHad 52 = .ok (.iaload, 1) := by decide +kernel
theorem d_M_mayBeHad_53 : decode b_M_mayBeHad 53 = .ok (.if_icmp .ge 7, 3) := by decide +kernel
theorem d_M_mayBeHad_56 : decode b_M_mayBeHad 56 = .ok (.iconst 1, 1) := by decide +kernel
theorem d_M_mayBeHad_57 : decode b_M_mayBeHad 57 = .ok (.goto 4, 3) := by decide +kernel
theorem d_M_mayBeHad_60 : decode b_M_mayBeHad 60 = .ok (.iconst 0, 1) := by decide +kernel
theorem d_M_mayBeHad_61 : decode b_M_mayBeHad 61 = .ok (.ireturn, 1) := by decide +kernel
theorem d_M_lentOf_0 : decode b_M_lentOf 0 = .ok (.iconst 0, 1) := by decide +kernel
theorem d_M_lentOf_1 : decode b_M_lentOf 1 = .ok (.istore_n 2, 1) := by decide +kernel
theorem d_M_lentOf_2 : decode b_M_lentOf 2 = .ok (.iconst 0, 1) := by decide +kernel
theorem d_M_lentOf_3 : decode b_M_lentOf 3 = .ok (.istore_n 3, 1) := by decide +kernel
theorem d_M_lentOf_4 : decode b_M_lentOf 4 = .ok (.iload_n 3, 1) := by decide +kernel
theorem d_M_lentOf_5 : decode b_M_lentOf 5 = .ok (.aload_n 0, 1) := by decide +kernel
theorem d_M_lentOf_6 : decode b_M_lentOf 6 = .ok (.getfield 48, 3) := by decide +kernel
theorem d_M_lentOf_9 : decode b_M_lentOf 9 = .ok (.if_icmp .ge 37, 3) := by decide +kernel
theorem d_M_lentOf_12 : decode b_M_lentOf 12 = .ok (.iload_n 2, 1) := by decide +kernel
theorem d_M_lentOf_13 : decode b_M_lentOf 13 = .ok (.aload_n 0, 1) := by decide +kernel
theorem d_M_lentOf_14 : decode b_M_lentOf 14 = .ok (.getfield 26, 3) := by decide +kernel
theorem d_M_lentOf_17 : decode b_M_lentOf 17 = .ok (.iload_n 3, 1) := by decide +kernel
theorem d_M_lentOf_18 : decode b_M_lentOf 18 = .ok (.iaload, 1) := by decide +kernel
theorem d_M_lentOf_19 : decode b_M_lentOf 19 = .ok (.iconst 1, 1) := by decide +kernel
theorem d_M_lentOf_20 : decode b_M_lentOf 20 = .ok (.if_icmp .ne 17, 3) := by decide +kernel
theorem d_M_lentOf_23 : decode b_M_lentOf 23 = .ok (.aload_n 0, 1) := by decide +kernel
theorem d_M_lentOf_24 : decode b_M_lentOf 24 = .ok (.getfield 16, 3) := by decide +kernel
theorem d_M_lentOf_27 : decode b_M_lentOf 27 = .ok (.iload_n 3, 1) := by decide +kernel
theorem d_M_lentOf_28 : decode b_M_lentOf 28 = .ok (.iaload, 1) := by decide +kernel
theorem d_M_lentOf_29 : decode b_M_lentOf 29 = .ok (.iload_n 1, 1) := by decide +kernel
theorem d_M_lentOf_30 : decode b_M_lentOf 30 = .ok (.if_icmp .ne 7, 3) := by decide +kernel
theorem d_M_lentOf_33 : decode b_M_lentOf 33 = .ok (.iconst 1, 1) := by decide +kernel
theorem d_M_lentOf_34 : decode b_M_lentOf 34 = .ok (.goto 4, 3) := by decide +kernel
theorem d_M_lentOf_37 : decode b_M_lentOf 37 = .ok (.iconst 0, 1) := by decide +kernel
theorem d_M_lentOf_38 : decode b_M_lentOf 38 = .ok (.iadd, 1) := by decide +kernel
theorem d_M_lentOf_39 : decode b_M_lentOf 39 = .ok (.istore_n 2, 1) := by decide +kernel
theorem d_M_lentOf_40 : decode b_M_lentOf 40 = .ok (.iinc 3 1, 3) := by decide +kernel
theorem d_M_lentOf_43 : decode b_M_lentOf 43 = .ok (.goto (-39), 3) := by decide +kernel
theorem d_M_lentOf_46 : decode b_M_lentOf 46 = .ok (.iload_n 2, 1) := by decide +kernel
theorem d_M_lentOf_47 : decode b_M_lentOf 47 = .ok (.ireturn, 1) := by decide +kernel
theorem d_M_weight_0 : decode b_M_weight 0 = .ok (.aload_n 0, 1) := by decide +kernel
theorem d_M_weight_1 : decode b_M_weight 1 = .ok (.getfield 38, 3) := by decide +kernel
theorem d_M_weight_4 : decode b_M_weight 4 = .ok (.bipush 6, 2) := by decide +kernel
theorem d_M_weight_6 : decode b_M_weight 6 = .ok (.aload_n 0, 1) := by decide +kernel
theorem d_M_weight_7 : decode b_M_weight 7 = .ok (.getfield 7, 3) := by decide +kernel
theorem d_M_weight_10 : decode b_M_weight 10 = .ok (.iload_n 1, 1) := by decide +kernel
theorem d_M_weight_11 : decode b_M_weight 11 = .ok (.iaload, 1) := by decide +kernel
theorem d_M_weight_12 : decode b_M_weight 12 = .ok (.imul, 1) := by decide +kernel
theorem d_M_weight_13 : decode b_M_weight 13 = .ok (.iconst 4, 1) := by decide +kernel
theorem d_M_weight_14 : decode b_M_weight 14 = .ok (.iadd, 1) := by decide +kernel
theorem d_M_weight_15 : decode b_M_weight 15 = .ok (.iaload, 1) := by decide +kernel
theorem d_M_weight_16 : decode b_M_weight 16 = .ok (.istore_n 2, 1) := by decide +kernel
theorem d_M_weight_17 : decode b_M_weight 17 = .ok (.aload_n 0, 1) := by decide +kernel
theorem d_M_weight_18 : decode b_M_weight 18 = .ok (.getfield 13, 3) := by decide +kernel
theorem d_M_weight_21 : decode b_M_weight 21 = .ok (.iload_n 1, 1) := by decide +kernel
theorem d_M_weight_22 : decode b_M_weight 22 = .ok (.iaload, 1) := by decide +kernel
theorem d_M_weight_23 : decode b_M_weight 23 = .ok (.iload_n 2, 1) := by decide +kernel
theorem d_M_weight_24 : decode b_M_weight 24 = .ok (.ifCond .le 19, 3) := by decide +kernel
theorem d_M_weight_27 : decode b_M_weight 27 = .ok (.aload_n 0, 1) := by decide +kernel
theorem d_M_weight_28 : decode b_M_weight 28 = .ok (.getfield 55, 3) := by decide +kernel
theorem d_M_weight_31 : decode b_M_weight 31 = .ok (.aload_n 0, 1) := by decide +kernel
theorem d_M_weight_32 : decode b_M_weight 32 = .ok (.getfield 29, 3) := by decide +kernel
theorem d_M_weight_35 : decode b_M_weight 35 = .ok (.iload_n 1, 1) := by decide +kernel
theorem d_M_weight_36 : decode b_M_weight 36 = .ok (.iaload, 1) := by decide +kernel
theorem d_M_weight_37 : decode b_M_weight 37 = .ok (.isub, 1) := by decide +kernel
theorem d_M_weight_38 : decode b_M_weight 38 = .ok (.iload_n 2, 1) := by decide +kernel
theorem d_M_weight_39 : decode b_M_weight 39 = .ok (.idiv, 1) := by decide +kernel
theorem d_M_weight_40 : decode b_M_weight 40 = .ok (.goto 4, 3) := by decide +kernel
theorem d_M_weight_43 : decode b_M_weight 43 = .ok (.iconst 0, 1) := by decide +kernel
theorem d_M_weight_44 : decode b_M_weight 44 = .ok (.iadd, 1) := by decide +kernel
theorem d_M_weight_45 : decode b_M_weight 45 = .ok (.istore_n 3, 1) := by decide +kernel
theorem d_M_weight_46 : decode b_M_weight 46 = .ok (.iload_n 3, 1) := by decide +kernel
theorem d_M_weight_47 : decode b_M_weight 47 = .ok (.bipush 9, 2) := by decide +kernel
theorem d_M_weight_49 : decode b_M_weight 49 = .ok (.if_icmp .le 8, 3) := by decide +kernel
theorem d_M_weight_52 : decode b_M_weight 52 = .ok (.bipush 9, 2) := by decide +kernel
theorem d_M_weight_54 : decode b_M_weight 54 = .ok (.goto 4, 3) := by decide +kernel
theorem d_M_weight_57 : decode b_M_weight 57 = .ok (.iload_n 3, 1) := by decide +kernel
theorem d_M_weight_58 : decode b_M_weight 58 = .ok (.ireturn, 1) := by decide +kernel
theorem d_M_lentTo_0 : decode b_M_lentTo 0 = .ok (.iconst 0, 1) := by decide +kernel
theorem d_M_lentTo_1 : decode b_M_lentTo 1 = .ok (.istore_n 2, 1) := by decide +kernel
theorem d_M_lentTo_2 : decode b_M_lentTo 2 = .ok (.iconst 0, 1) := by decide +kernel
theorem d_M_lentTo_3 : decode b_M_lentTo 3 = .ok (.istore_n 3, 1) := by decide +kernel
theorem d_M_lentTo_4 : decode b_M_lentTo 4 = .ok (.iload_n 3, 1) := by decide +kernel
theorem d_M_lentTo_5 : decode b_M_lentTo 5 = .ok (.aload_n 0, 1) := by decide +kernel
theorem d_M_lentTo_6 : decode b_M_lentTo 6 = .ok (.getfield 48, 3) := by decide +kernel
theorem d_M_lentTo_9 : decode b_M_lentTo 9 = .ok (.if_icmp .ge 37, 3) := by decide +kernel
theorem d_M_lentTo_12 : decode b_M_lentTo 12 = .ok (.iload_n 2, 1) := by decide +kernel
theorem d_M_lentTo_13 : decode b_M_lentTo 13 = .ok (.aload_n 0, 1) := by decide +kernel
theorem d_M_lentTo_14 : decode b_M_lentTo 14 = .ok (.getfield 26, 3) := by decide +kernel
theorem d_M_lentTo_17 : decode b_M_lentTo 17 = .ok (.iload_n 3, 1) := by decide +kernel
theorem d_M_lentTo_18 : decode b_M_lentTo 18 = .ok (.iaload, 1) := by decide +kernel
theorem d_M_lentTo_19 : decode b_M_lentTo 19 = .ok (.iconst 1, 1) := by decide +kernel
theorem d_M_lentTo_20 : decode b_M_lentTo 20 = .ok (.if_icmp .ne 17, 3) := by decide +kernel
theorem d_M_lentTo_23 : decode b_M_lentTo 23 = .ok (.aload_n 0, 1) := by decide +kernel
theorem d_M_lentTo_24 : decode b_M_lentTo 24 = .ok (.getfield 32, 3) := by decide +kernel
theorem d_M_lentTo_27 : decode b_M_lentTo 27 = .ok (.iload_n 3, 1) := by decide +kernel
theorem d_M_lentTo_28 : decode b_M_lentTo 28 = .ok (.iaload, 1) := by decide +kernel
theorem d_M_lentTo_29 : decode b_M_lentTo 29 = .ok (.iload_n 1, 1) := by decide +kernel
theorem d_M_lentTo_30 : decode b_M_lentTo 30 = .ok (.if_icmp .ne 7, 3) := by decide +kernel
theorem d_M_lentTo_33 : decode b_M_lentTo 33 = .ok (.iconst 1, 1) := by decide +kernel
theorem d_M_lentTo_34 : decode b_M_lentTo 34 = .ok (.goto 4, 3) := by decide +kernel
theorem d_M_lentTo_37 : decode b_M_lentTo 37 = .ok (.iconst 0, 1) := by decide +kernel
theorem d_M_lentTo_38 : decode b_M_lentTo 38 = .ok (.iadd, 1) := by decide +kernel
theorem d_M_lentTo_39 : decode b_M_lentTo 39 = .ok (.istore_n 2, 1) := by decide +kernel
theorem d_M_lentTo_40 : decode b_M_lentTo 40 = .ok (.iinc 3 1, 3) := by decide +kernel
theorem d_M_lentTo_43 : decode b_M_lentTo 43 = .ok (.goto (-39), 3) := by decide +kernel
theorem d_M_lentTo_46 : decode b_M_lentTo 46 = .ok (.iload_n 2, 1) := by decide +kernel
theorem d_M_lentTo_47 : decode b_M_lentTo 47 = .ok (.ireturn, 1) := by decide +kernel
theorem d_M_beat_0 : decode b_M_beat 0 = .ok (.aload_n 0, 1) := by decide +kernel
theorem d_M_beat_1 : decode b_M_beat 1 = .ok (.iconst 0, 1) := by decide +kernel
theorem d_M_beat_2 : decode b_M_beat 2 = .ok (.putfield 44, 3) := by decide +kernel
theorem d_M_beat_5 : decode b_M_beat 5 = .ok (.aload_n 0, 1) := by decide +kernel
theorem d_M_beat_6 : decode b_M_beat 6 = .ok (.iload_n 1, 1) := by decide +kernel
theorem d_M_beat_7 : decode b_M_beat 7 = .ok (.invokevirtual 92, 3) := by decide +kernel
theorem d_M_beat_10 : decode b_M_beat 10 = .ok (.istore_n 2, 1) := by decide +kernel
theorem d_M_beat_11 : decode b_M_beat 11 = .ok (.iload_n 2, 1) := by decide +kernel
theorem d_M_beat_12 : decode b_M_beat 12 = .ok (.iconst (-1), 1) := by decide +kernel
theorem d_M_beat_13 : decode b_M_beat 13 = .ok (.if_icmp .ne 5, 3) := by decide +kernel
theorem d_M_beat_16 : decode b_M_beat 16 = .ok (.iconst 0, 1) := by decide +kernel
theorem d_M_beat_17 : decode b_M_beat 17 = .ok (.ireturn, 1) := by decide +kernel
theorem d_M_beat_18 : decode b_M_beat 18 = .ok (.aload_n 0, 1) := by decide +kernel
theorem d_M_beat_19 : decode b_M_beat 19 = .ok (.getfield 29, 3) := by decide +kernel
theorem d_M_beat_22 : decode b_M_beat 22 = .ok (.iload_n 2, 1) := by decide +kernel
theorem d_M_beat_23 : decode b_M_beat 23 = .ok (.aload_n 0, 1) := by decide +kernel
theorem d_M_beat_24 : decode b_M_beat 24 = .ok (.getfield 55, 3) := by decide +kernel
theorem d_M_beat_27 : decode b_M_beat 27 = .ok (.aload_n 0, 1) := by decide +kernel
theorem d_M_beat_28 : decode b_M_beat 28 = .ok (.getfield 38, 3) := by decide +kernel
theorem d_M_beat_31 : decode b_M_beat 31 = .ok (.bipush 6, 2) := by decide +kernel
theorem d_M_beat_33 : decode b_M_beat 33 = .ok (.aload_n 0, 1) := by decide +kernel
theorem d_M_beat_34 : decode b_M_beat 34 = .ok (.getfield 7, 3) := by decide +kernel
theorem d_M_beat_37 : decode b_M_beat 37 = .ok (.iload_n 2, 1) := by decide +kernel
theorem d_M_beat_38 : decode b_M_beat 38 = .ok (.iaload, 1) := by decide +kernel
theorem d_M_beat_39 : decode b_M_beat 39 = .ok (.imul, 1) := by decide +kernel
theorem d_M_beat_40 : decode b_M_beat 40 = .ok (.iaload, 1) := by decide +kernel
theorem d_M_beat_41 : decode b_M_beat 41 = .ok (.iadd, 1) := by decide +kernel
theorem d_M_beat_42 : decode b_M_beat 42 = .ok (.iastore, 1) := by decide +kernel
theorem d_M_beat_43 : decode b_M_beat 43 = .ok (.iconst 1, 1) := by decide +kernel
theorem d_M_beat_44 : decode b_M_beat 44 = .ok (.ireturn, 1) := by decide +kernel
theorem d_M_lentWith_0 : decode b_M_lentWith 0 = .ok (.iconst 0, 1) := by decide +kernel
theorem d_M_lentWith_1 : decode b_M_lentWith 1 = .ok (.istore_n 2, 1) := by decide +kernel
theorem d_M_lentWith_2 : decode b_M_lentWith 2 = .ok (.iload_n 2, 1) := by decide +kernel
theorem d_M_lentWith_3 : decode b_M_lentWith 3 = .ok (.aload_n 0, 1) := by decide +kernel
theorem d_M_lentWith_4 : decode b_M_lentWith 4 = .ok (.getfield 48, 3) := by decide +kernel
theorem d_M_lentWith_7 : decode b_M_lentWith 7 = .ok (.if_icmp .ge 31, 3) := by decide +kernel
theorem d_M_lentWith_10 : decode b_M_lentWith 10 = .ok (.aload_n 0, 1) := by decide +kernel
theorem d_M_lentWith_11 : decode b_M_lentWith 11 = .ok (.getfield 26, 3) := by decide +kernel
theorem d_M_lentWith_14 : decode b_M_lentWith 14 = .ok (.iload_n 2, 1) := by decide +kernel
theorem d_M_lentWith_15 : decode b_M_lentWith 15 = .ok (.iaload, 1) := by decide +kernel
theorem d_M_lentWith_16 : decode b_M_lentWith 16 = .ok (.iconst 1, 1) := by decide +kernel
theorem d_M_lentWith_17 : decode b_M_lentWith 17 = .ok (.if_icmp .ne 15, 3) := by decide +kernel
theorem d_M_lentWith_20 : decode b_M_lentWith 20 = .ok (.aload_n 0, 1) := by decide +kernel
theorem d_M_lentWith_21 : decode b_M_lentWith 21 = .ok (.getfield 35, 3) := by decide +kernel
theorem d_M_lentWith_24 : decode b_M_lentWith 24 = .ok (.iload_n 2, 1) := by decide +kernel
theorem d_M_lentWith_25 : decode b_M_lentWith 25 = .ok (.iaload, 1) := by decide +kernel
theorem d_M_lentWith_26 : decode b_M_lentWith 26 = .ok (.iload_n 1, 1) := by decide +kernel
theorem d_M_lentWith_27 : decode b_M_lentWith 27 = .ok (.if_icmp .ne 5, 3) := by decide +kernel
theorem d_M_lentWith_30 : decode b_M_lentWith 30 = .ok (.iload_n 2, 1) := by decide +kernel
theorem d_M_lentWith_31 : decode b_M_lentWith 31 = .ok (.ireturn, 1) := by decide +kernel
theorem d_M_lentWith_32 : decode b_M_lentWith 32 = .ok (.iinc 2 1, 3) := by decide +kernel
theorem d_M_lentWith_35 : decode b_M_lentWith 35 = .ok (.goto (-33), 3) := by decide +kernel
theorem d_M_lentWith_38 : decode b_M_lentWith 38 = .ok (.iconst (-1), 1) := by decide +kernel
theorem d_M_lentWith_39 : decode b_M_lentWith 39 = .ok (.ireturn, 1) := by decide +kernel
theorem d_M_end_0 : decode b_M_end 0 = .ok (.aload_n 0, 1) := by decide +kernel
theorem d_M_end_1 : decode b_M_end 1 = .ok (.iload_n 1, 1) := by decide +kernel
theorem d_M_end_2 : decode b_M_end 2 = .ok (.invokevirtual 92, 3) := by decide +kernel
theorem d_M_end_5 : decode b_M_end 5 = .ok (.istore_n 3, 1) := by decide +kernel
theorem d_M_end_6 : decode b_M_end 6 = .ok (.aload_n 0, 1) := by decide +kernel
theorem d_M_end_7 : decode b_M_end 7 = .ok (.iload_n 3, 1) := by decide +kernel
theorem d_M_end_8 : decode b_M_end 8 = .ok (.iconst (-1), 1) := by decide +kernel
theorem d_M_end_9 : decode b_M_end 9 = .ok (.if_icmp .ne 7, 3) := by decide +kernel
theorem d_M_end_12 : decode b_M_end 12 = .ok (.iconst 1, 1) := by decide +kernel
theorem d_M_end_13 : decode b_M_end 13 = .ok (.goto 17, 3) := by decide +kernel
theorem d_M_end_16 : decode b_M_end 16 = .ok (.iload_n 2, 1) := by decide +kernel
theorem d_M_end_17 : decode b_M_end 17 = .ok (.iconst 0, 1) := by decide +kernel
theorem d_M_end_18 : decode b_M_end 18 = .ok (.iconst 2, 1) := by decide +kernel
theorem d_M_end_19 : decode b_M_end 19 = .ok (.invokestatic 58, 3) := by decide +kernel
theorem d_M_end_22 : decode b_M_end 22 = .ok (.ifCond .ne 7, 3) := by decide +kernel
theorem d_M_end_25 : decode b_M_end 25 = .ok (.iconst 2, 1) := by decide +kernel
theorem d_M_end_26 : decode b_M_end 26 = .ok (.goto 4, 3) := by decide +kernel
theorem d_M_end_29 : decode b_M_end 29 = .ok (.iconst 0, 1) := by decide +kernel
theorem d_M_end_30 : decode b_M_end 30 = .ok (.putfield 44, 3) := by decide +kernel
theorem d_M_end_33 : decode b_M_end 33 = .ok (.aload_n 0, 1) := by decide +kernel
theorem d_M_end_34 : decode b_M_end 34 = .ok (.getfield 44, 3) := by decide +kernel
theorem d_M_end_37 : decode b_M_end 37 = .ok (.ifCond .le 5, 3) := by decide +kernel
theorem d_M_end_40 : decode b_M_end 40 = .ok (.iconst 0, 1) := by decide +kernel
theorem d_M_end_41 : decode b_M_end 41 = .ok (.ireturn, 1) := by decide +kernel
theorem d_M_end_42 : decode b_M_end 42 = .ok (.iload_n 2, 1) := by decide +kernel
theorem d_M_end_43 : decode b_M_end 43 = .ok (.iconst 1, 1) := by decide +kernel
theorem d_M_end_44 : decode b_M_end 44 = .ok (.if_icmp .ne 10, 3) := by decide +kernel
theorem d_M_end_47 : decode b_M_end 47 = .ok (.aload_n 0, 1) := by decide +kernel
theorem d_M_end_48 : decode b_M_end 48 = .ok (.iload_n 3, 1) := by decide +kernel
theorem d_M_end_49 : decode b_M_end 49 = .ok (.invokevirtual 95, 3) := by decide +kernel
theorem d_M_end_52 : decode b_M_end 52 = .ok (.iload_n 3, 1) := by decide +kernel
theorem d_M_end_53 : decode b_M_end 53 = .ok (.ireturn, 1) := by decide +kernel
theorem d_M_end_54 : decode b_M_end 54 = .ok (.aload_n 0, 1) := by decide +kernel
theorem d_M_end_55 : decode b_M_end 55 = .ok (.getfield 26, 3) := by decide +kernel
theorem d_M_end_58 : decode b_M_end 58 = .ok (.iload_n 3, 1) := by decide +kernel
theorem d_M_end_59 : decode b_M_end 59 = .ok (.iload_n 2, 1) := by decide +kernel
theorem d_M_end_60 : decode b_M_end 60 = .ok (.ifCond .ne 7, 3) := by decide +kernel
theorem d_M_end_63 : decode b_M_end 63 = .ok (.iconst 2, 1) := by decide +kernel
theorem d_M_end_64 : decode b_M_end 64 = .ok (.goto 4, 3) := by decide +kernel
theorem d_M_end_67 : decode b_M_end 67 = .ok (.iconst 0, 1) := by decide +kernel
theorem d_M_end_68 : decode b_M_end 68 = .ok (.iastore, 1) := by decide +kernel
theorem d_M_end_69 : decode b_M_end 69 = .ok (.aload_n 0, 1) := by decide +kernel
theorem d_M_end_70 : decode b_M_end 70 = .ok (.getfield 29, 3) := by decide +kernel
theorem d_M_end_73 : decode b_M_end 73 = .ok (.iload_n 3, 1) := by decide +kernel
theorem d_M_end_74 : decode b_M_end 74 = .ok (.aload_n 0, 1) := by decide +kernel
theorem d_M_end_75 : decode b_M_end 75 = .ok (.getfield 55, 3) := by decide +kernel
theorem d_M_end_78 : decode b_M_end 78 = .ok (.iastore, 1) := by decide +kernel
theorem d_M_end_79 : decode b_M_end 79 = .ok (.aload_n 0, 1) := by decide +kernel
theorem d_M_end_80 : decode b_M_end 80 = .ok (.getfield 23, 3) := by decide +kernel
theorem d_M_end_83 : decode b_M_end 83 = .ok (.iload_n 3, 1) := by decide +kernel
theorem d_M_end_84 : decode b_M_end 84 = .ok (.dup2, 1) := by decide +kernel
theorem d_M_end_85 : decode b_M_end 85 = .ok (.iaload, 1) := by decide +kernel
theorem d_M_end_86 : decode b_M_end 86 = .ok (.iload_n 2, 1) := by decide +kernel
theorem d_M_end_87 : decode b_M_end 87 = .ok (.iconst 2, 1) := by decide +kernel
theorem d_M_end_88 : decode b_M_end 88 = .ok (.if_icmp .ne 7, 3) := by decide +kernel
theorem d_M_end_91 : decode b_M_end 91 = .ok (.iconst 1, 1) := by decide +kernel
theorem d_M_end_92 : decode b_M_end 92 = .ok (.goto 4, 3) := by decide +kernel
theorem d_M_end_95 : decode b_M_end 95 = .ok (.iconst 0, 1) := by decide +kernel
theorem d_M_end_96 : decode b_M_end 96 = .ok (.isub, 1) := by decide +kernel
theorem d_M_end_97 : decode b_M_end 97 = .ok (.iastore, 1) := by decide +kernel
theorem d_M_end_98 : decode b_M_end 98 = .ok (.iload_n 3, 1) := by decide +kernel
theorem d_M_end_99 : decode b_M_end 99 = .ok (.ireturn, 1) := by decide +kernel
theorem d_M_again_0 : decode b_M_again 0 = .ok (.bipush 6, 2) := by decide +kernel
theorem d_M_again_2 : decode b_M_again 2 = .ok (.aload_n 0, 1) := by decide +kernel
theorem d_M_again_3 : decode b_M_again 3 = .ok (.getfield 7, 3) := by decide +kernel
theorem d_M_again_6 : decode b_M_again 6 = .ok (.iload_n 1, 1) := by decide +kernel
theorem d_M_again_7 : decode b_M_again 7 = .ok (.iaload, 1) := by decide +kernel
theorem d_M_again_8 : decode b_M_again 8 = .ok (.imul, 1) := by decide +kernel
theorem d_M_again_9 : decode b_M_again 9 = .ok (.istore_n 2, 1) := by decide +kernel
theorem d_M_again_10 : decode b_M_again 10 = .ok (.aload_n 0, 1) := by decide +kernel
theorem d_M_again_11 : decode b_M_again 11 = .ok (.getfield 23, 3) := by decide +kernel
theorem d_M_again_14 : decode b_M_again 14 = .ok (.iload_n 1, 1) := by decide +kernel
theorem d_M_again_15 : decode b_M_again 15 = .ok (.iaload, 1) := by decide +kernel
theorem d_M_again_16 : decode b_M_again 16 = .ok (.aload_n 0, 1) := by decide +kernel
theorem d_M_again_17 : decode b_M_again 17 = .ok (.getfield 38, 3) := by decide +kernel
theorem d_M_again_20 : decode b_M_again 20 = .ok (.iload_n 2, 1) := by decide +kernel
theorem d_M_again_21 : decode b_M_again 21 = .ok (.iconst 1, 1) := by decide +kernel
theorem d_M_again_22 : decode b_M_again 22 = .ok (.iadd, 1) := by decide +kernel
theorem d_M_again_23 : decode b_M_again 23 = .ok (.iaload, 1) := by decide +kernel
theorem d_M_again_24 : decode b_M_again 24 = .ok (.if_icmp .lt 11, 3) := by decide +kernel
theorem d_M_again_27 : decode b_M_again 27 = .ok (.aload_n 0, 1) := by decide +kernel
theorem d_M_again_28 : decode b_M_again 28 = .ok (.getfield 26, 3) := by decide +kernel
theorem d_M_again_31 : decode b_M_again 31 = .ok (.iload_n 1, 1) := by decide +kernel
theorem d_M_again_32 : decode b_M_again 32 = .ok (.iconst 3, 1) := by decide +kernel
theorem d_M_again_33 : decode b_M_again 33 = .ok (.iastore, 1) := by decide +kernel
theorem d_M_again_34 : decode b_M_again 34 = .ok (.return_, 1) := by decide +kernel
theorem d_M_again_35 : decode b_M_again 35 = .ok (.aload_n 0, 1) := by decide +kernel
theorem d_M_again_36 : decode b_M_again 36 = .ok (.getfield 38, 3) := by decide +kernel
theorem d_M_again_39 : decode b_M_again 39 = .ok (.iload_n 2, 1) := by decide +kernel
theorem d_M_again_40 : decode b_M_again 40 = .ok (.iconst 2, 1) := by decide +kernel
theorem d_M_again_41 : decode b_M_again 41 = .ok (.iadd, 1) := by decide +kernel
theorem d_M_again_42 : decode b_M_again 42 = .ok (.iaload, 1) := by decide +kernel
theorem d_M_again_43 : decode b_M_again 43 = .ok (.istore_n 3, 1) := by decide +kernel
theorem d_M_again_44 : decode b_M_again 44 = .ok (.iconst 1, 1) := by decide +kernel
theorem d_M_again_45 : decode b_M_again 45 = .ok (.istore 4, 2) := by decide +kernel
theorem d_M_again_47 : decode b_M_again 47 = .ok (.iload 4, 2) := by decide +kernel
theorem d_M_again_49 : decode b_M_again 49 = .ok (.aload_n 0, 1) := by decide +kernel
theorem d_M_again_50 : decode b_M_again 50 = .ok (.getfield 23, 3) := by decide +kernel
theorem d_M_again_53 : decode b_M_again 53 = .ok (.iload_n 1, 1) := by decide +kernel
theorem d_M_again_54 : decode b_M_again 54 = .ok (.iaload, 1) := by decide +kernel
theorem d_M_again_55 : decode b_M_again 55 = .ok (.if_icmp .ge 25, 3) := by decide +kernel
theorem d_M_again_58 : decode b_M_again 58 = .ok (.iload_n 3, 1) := by decide +kernel
theorem d_M_again_59 : decode b_M_again 59 = .ok (.aload_n 0, 1) := by decide +kernel
theorem d_M_again_60 : decode b_M_again 60 = .ok (.getfield 38, 3) := by decide +kernel
theorem d_M_again_63 : decode b_M_again 63 = .ok (.iload_n 2, 1) := by decide +kernel
theorem d_M_again_64 : decode b_M_again 64 = .ok (.iconst 3, 1) := by decide +kernel
theorem d_M_again_65 : decode b_M_again 65 = .ok (.iadd, 1) := by decide +kernel
theorem d_M_again_66 : decode b_M_again 66 = .ok (.iaload, 1) := by decide +kernel
theorem d_M_again_67 : decode b_M_again 67 = .ok (.if_icmp .ge 13, 3) := by decide +kernel
theorem d_M_again_70 : decode b_M_again 70 = .ok (.iload_n 3, 1) := by decide +kernel
theorem d_M_again_71 : decode b_M_again 71 = .ok (.iconst 2, 1) := by decide +kernel
theorem d_M_again_72 : decode b_M_again 72 = .ok (.imul, 1) := by decide +kernel
theorem d_M_again_73 : decode b_M_again 73 = .ok (.istore_n 3, 1) := by decide +kernel
theorem d_M_again_74 : decode b_M_again 74 = .ok (.iinc 4 1, 3) := by decide +kernel
theorem d_M_again_77 : decode b_M_again 77 = .ok (.goto (-30), 3) := by decide +kernel
theorem d_M_again_80 : decode b_M_again 80 = .ok (.aload_n 0, 1) := by decide +kernel
theorem d_M_again_81 : decode b_M_again 81 = .ok (.getfield 26, 3) := by decide +kernel
theorem d_M_again_84 : decode b_M_again 84 = .ok (.iload_n 1, 1) := by decide +kernel
theorem d_M_again_85 : decode b_M_again 85 = .ok (.iconst 0, 1) := by decide +kernel
theorem d_M_again_86 : decode b_M_again 86 = .ok (.iastore, 1) := by decide +kernel
theorem d_M_again_87 : decode b_M_again 87 = .ok (.aload_n 0, 1) := by decide +kernel
theorem d_M_again_88 : decode b_M_again 88 = .ok (.getfield 29, 3) := by decide +kernel
theorem d_M_again_91 : decode b_M_again 91 = .ok (.iload_n 1, 1) := by decide +kernel
theorem d_M_again_92 : decode b_M_again 92 = .ok (.aload_n 0, 1) := by decide +kernel
theorem d_M_again_93 : decode b_M_again 93 = .ok (.getfield 55, 3) := by decide +kernel
theorem d_M_again_96 : decode b_M_again 96 = .ok (.iload_n 3, 1) := by decide +kernel
theorem d_M_again_97 : decode b_M_again 97 = .ok (.aload_n 0, 1) := by decide +kernel
theorem d_M_again_98 : decode b_M_again 98 = .ok (.getfield 38, 3) := by decide +kernel
theorem d_M_again_101 : decode b_M_again 101 = .ok (.iload_n 2, 1) := by decide +kernel
theorem d_M_again_102 : decode b_M_again 102 = .ok (.iconst 3, 1) := by decide +kernel
theorem d_M_again_103 : decode b_M_again 103 = .ok (.iadd, 1) := by decide +kernel
theorem d_M_again_104 : decode b_M_again 104 = .ok (.iaload, 1) := by decide +kernel
theorem d_M_again_105 : decode b_M_again 105 = .ok (.if_icmp .ge 7, 3) := by decide +kernel
theorem d_M_again_108 : decode b_M_again 108 = .ok (.iload_n 3, 1) := by decide +kernel
theorem d_M_again_109 : decode b_M_again 109 = .ok (.goto 11, 3) := by decide +kernel
theorem d_M_again_112 : decode b_M_again 112 = .ok (.aload_n 0, 1) := by decide +kernel
theorem d_M_again_113 : decode b_M_again 113 = .ok (.getfield 38, 3) := by decide +kernel
theorem d_M_again_116 : decode b_M_again 116 = .ok (.iload_n 2, 1) := by decide +kernel
theorem d_M_again_117 : decode b_M_again 117 = .ok (.iconst 3, 1) := by decide +kernel
theorem d_M_again_118 : decode b_M_again 118 = .ok (.iadd, 1) := by decide +kernel
theorem d_M_again_119 : decode b_M_again 119 = .ok (.iaload, 1) := by decide +kernel
theorem d_M_again_120 : decode b_M_again 120 = .ok (.iadd, 1) := by decide +kernel
theorem d_M_again_121 : decode b_M_again 121 = .ok (.iastore, 1) := by decide +kernel
theorem d_M_again_122 : decode b_M_again 122 = .ok (.return_, 1) := by decide +kernel
theorem d_M_tick_0 : decode b_M_tick 0 = .ok (.iload_n 1, 1) := by decide +kernel
theorem d_M_tick_1 : decode b_M_tick 1 = .ok (.iconst 1, 1) := by decide +kernel
theorem d_M_tick_2 : decode b_M_tick 2 = .ok (.sipush 1000, 3) := by decide +kernel
theorem d_M_tick_5 : decode b_M_tick 5 = .ok (.invokestatic 58, 3) := by decide +kernel
theorem d_M_tick_8 : decode b_M_tick 8 = .ok (.ifCond .ne 9, 3) := by decide +kernel
theorem d_M_tick_11 : decode b_M_tick 11 = .ok (.aload_n 0, 1) := by decide +kernel
theorem d_M_tick_12 : decode b_M_tick 12 = .ok (.iconst 1, 1) := by decide +kernel
theorem d_M_tick_13 : decode b_M_tick 13 = .ok (.invokevirtual 62, 3) := by decide +kernel
theorem d_M_tick_16 : decode b_M_tick 16 = .ok (.ireturn, 1) := by decide +kernel
theorem d_M_tick_17 : decode b_M_tick 17 = .ok (.aload_n 0, 1) := by decide +kernel
theorem d_M_tick_18 : decode b_M_tick 18 = .ok (.iconst 0, 1) := by decide +kernel
theorem d_M_tick_19 : decode b_M_tick 19 = .ok (.putfield 44, 3) := by decide +kernel
theorem d_M_tick_22 : decode b_M_tick 22 = .ok (.iconst 0, 1) := by decide +kernel
theorem d_M_tick_23 : decode b_M_tick 23 = .ok (.istore_n 2, 1) := by decide +kernel
theorem d_M_tick_24 : decode b_M_tick 24 = .ok (.iconst 0, 1) := by decide +kernel
theorem d_M_tick_25 : decode b_M_tick 25 = .ok (.istore_n 3, 1) := by decide +kernel
theorem d_M_tick_26 : decode b_M_tick 26 = .ok (.iload_n 3, 1) := by decide +kernel
theorem d_M_tick_27 : decode b_M_tick 27 = .ok (.iload_n 1, 1) := by decide +kernel
theorem d_M_tick_28 : decode b_M_tick 28 = .ok (.if_icmp .ge 74, 3) := by decide +kernel
theorem d_M_tick_31 : decode b_M_tick 31 = .ok (.aload_n 0, 1) := by decide +kernel
theorem d_M_tick_32 : decode b_M_tick 32 = .ok (.dup, 1) := by decide +kernel
theorem d_M_tick_33 : decode b_M_tick 33 = .ok (.getfield 55, 3) := by decide +kernel
theorem d_M_tick_36 : decode b_M_tick 36 = .ok (.iconst 1, 1) := by decide +kernel
theorem d_M_tick_37 : decode b_M_tick 37 = .ok (.iadd, 1) := by decide +kernel
theorem d_M_tick_38 : decode b_M_tick 38 = .ok (.putfield 55, 3) := by decide +kernel
theorem d_M_tick_41 : decode b_M_tick 41 = .ok (.iconst 0, 1) := by decide +kernel
theorem d_M_tick_42 : decode b_M_tick 42 = .ok (.istore 4, 2) := by decide +kernel
theorem d_M_tick_44 : decode b_M_tick 44 = .ok (.iload 4, 2) := by decide +kernel
theorem d_M_tick_46 : decode b_M_tick 46 = .ok (.aload_n 0, 1) := by decide +kernel
theorem d_M_tick_47 : decode b_M_tick 47 = .ok (.getfield 48, 3) := by decide +kernel
theorem d_M_tick_50 : decode b_M_tick 50 = .ok (.if_icmp .ge 46, 3) := by decide +kernel
theorem d_M_tick_53 : decode b_M_tick 53 = .ok (.aload_n 0, 1) := by decide +kernel
theorem d_M_tick_54 : decode b_M_tick 54 = .ok (.getfield 26, 3) := by decide +kernel
theorem d_M_tick_57 : decode b_M_tick 57 = .ok (.iload 4, 2) := by decide +kernel
theorem d_M_tick_59 : decode b_M_tick 59 = .ok (.iaload, 1) := by decide +kernel
theorem d_M_tick_60 : decode b_M_tick 60 = .ok (.iconst 1, 1) := by decide +kernel
theorem d_M_tick_61 : decode b_M_tick 61 = .ok (.if_icmp .ne 29, 3) := by decide +kernel
theorem d_M_tick_64 : decode b_M_tick 64 = .ok (.aload_n 0, 1) := by decide +kernel
theorem d_M_tick_65 : decode b_M_tick 65 = .ok (.getfield 29, 3) := by decide +kernel
theorem d_M_tick_68 : decode b_M_tick 68 = .ok (.iload 4, 2) := by decide +kernel
theorem d_M_tick_70 : decode b_M_tick 70 = .ok (.iaload, 1) := by decide +kernel
theorem d_M_tick_71 : decode b_M_tick 71 = .ok (.aload_n 0, 1) := by decide +kernel
theorem d_M_tick_72 : decode b_M_tick 72 = .ok (.getfield 55, 3) := by decide +kernel
theorem d_M_tick_75 : decode b_M_tick 75 = .ok (.if_icmp .le 6, 3) := by decide +kernel
theorem d_M_tick_78 : decode b_M_tick 78 = .ok (.goto 12, 3) := by decide +kernel
theorem d_M_tick_81 : decode b_M_tick 81 = .ok (.aload_n 0, 1) := by decide +kernel
theorem d_M_tick_82 : decode b_M_tick 82 = .ok (.iload 4, 2) := by decide +kernel
theorem d_M_tick_84 : decode b_M_tick 84 = .ok (.invokevirtual 95, 3) := by decide +kernel
theorem d_M_tick_87 : decode b_M_tick 87 = .ok (.iinc 2 1, 3) := by decide +kernel
theorem d_M_tick_90 : decode b_M_tick 90 = .ok (.iinc 4 1, 3) := by decide +kernel
theorem d_M_tick_93 : decode b_M_tick 93 = .ok (.goto (-49), 3) := by decide +kernel
theorem d_M_tick_96 : decode b_M_tick 96 = .ok (.iinc 3 1, 3) := by decide +kernel
theorem d_M_tick_99 : decode b_M_tick 99 = .ok (.goto (-73), 3) := by decide +kernel
theorem d_M_tick_102 : decode b_M_tick 102 = .ok (.iload_n 2, 1) := by decide +kernel
theorem d_M_tick_103 : decode b_M_tick 103 = .ok (.ireturn, 1) := by decide +kernel
theorem d_M_cancel_0 : decode b_M_cancel 0 = .ok (.aload_n 0, 1) := by decide +kernel
theorem d_M_cancel_1 : decode b_M_cancel 1 = .ok (.iconst 0, 1) := by decide +kernel
theorem d_M_cancel_2 : decode b_M_cancel 2 = .ok (.putfield 44, 3) := by decide +kernel
theorem d_M_cancel_5 : decode b_M_cancel 5 = .ok (.aload_n 0, 1) := by decide +kernel
theorem d_M_cancel_6 : decode b_M_cancel 6 = .ok (.iload_n 1, 1) := by decide +kernel
theorem d_M_cancel_7 : decode b_M_cancel 7 = .ok (.invokevirtual 99, 3) := by decide +kernel
theorem d_M_cancel_10 : decode b_M_cancel 10 = .ok (.ifCond .eq 11, 3) := by decide +kernel
theorem d_M_cancel_13 : decode b_M_cancel 13 = .ok (.aload_n 0, 1) := by decide +kernel
theorem d_M_cancel_14 : decode b_M_cancel 14 = .ok (.iload_n 1, 1) := by decide +kernel
theorem d_M_cancel_15 : decode b_M_cancel 15 = .ok (.invokevirtual 51, 3) := by decide +kernel
theorem d_M_cancel_18 : decode b_M_cancel 18 = .ok (.ifCond .ne 5, 3) := by decide +kernel
theorem d_M_cancel_21 : decode b_M_cancel 21 = .ok (.iconst 0, 1) := by decide +kernel
theorem d_M_cancel_22 : decode b_M_cancel 22 = .ok (.ireturn, 1) := by decide +kernel
theorem d_M_cancel_23 : decode b_M_cancel 23 = .ok (.aload_n 0, 1) := by decide +kernel
theorem d_M_cancel_24 : decode b_M_cancel 24 = .ok (.getfield 26, 3) := by decide +kernel
theorem d_M_cancel_27 : decode b_M_cancel 27 = .ok (.iload_n 1, 1) := by decide +kernel
theorem d_M_cancel_28 : decode b_M_cancel 28 = .ok (.iconst 4, 1) := by decide +kernel
theorem d_M_cancel_29 : decode b_M_cancel 29 = .ok (.iastore, 1) := by decide +kernel
theorem d_M_cancel_30 : decode b_M_cancel 30 = .ok (.iconst 1, 1) := by decide +kernel
theorem d_M_cancel_31 : decode b_M_cancel 31 = .ok (.ireturn, 1) := by decide +kernel
theorem d_M_isTask_0 : decode b_M_isTask 0 = .ok (.iload_n 1, 1) := by decide +kernel
theorem d_M_isTask_1 : decode b_M_isTask 1 = .ok (.ifCond .lt 15, 3) := by decide +kernel
theorem d_M_isTask_4 : decode b_M_isTask 4 = .ok (.iload_n 1, 1) := by decide +kernel
theorem d_M_isTask_5 : decode b_M_isTask 5 = .ok (.aload_n 0, 1) := by decide +kernel
theorem d_M_isTask_6 : decode b_M_isTask 6 = .ok (.getfield 48, 3) := by decide +kernel
theorem d_M_isTask_9 : decode b_M_isTask 9 = .ok (.if_icmp .ge 7, 3) := by decide +kernel
theorem d_M_isTask_12 : decode b_M_isTask 12 = .ok (.iconst 1, 1) := by decide +kernel
theorem d_M_isTask_13 : decode b_M_isTask 13 = .ok (.goto 4, 3) := by decide +kernel
theorem d_M_isTask_16 : decode b_M_isTask 16 = .ok (.iconst 0, 1) := by decide +kernel
theorem d_M_isTask_17 : decode b_M_isTask 17 = .ok (.ireturn, 1) := by decide +kernel
theorem d_M_revive_0 : decode b_M_revive 0 = .ok (.aload_n 0, 1) := by decide +kernel
theorem d_M_revive_1 : decode b_M_revive 1 = .ok (.iconst 0, 1) := by decide +kernel
theorem d_M_revive_2 : decode b_M_revive 2 = .ok (.putfield 44, 3) := by decide +kernel
theorem d_M_revive_5 : decode b_M_revive 5 = .ok (.aload_n 0, 1) := by decide +kernel
theorem d_M_revive_6 : decode b_M_revive 6 = .ok (.iload_n 1, 1) := by decide +kernel
theorem d_M_revive_7 : decode b_M_revive 7 = .ok (.invokevirtual 99, 3) := by decide +kernel
theorem d_M_revive_10 : decode b_M_revive 10 = .ok (.ifCond .eq 22, 3) := by decide +kernel
theorem d_M_revive_13 : decode b_M_revive 13 = .ok (.aload_n 0, 1) := by decide +kernel
theorem d_M_revive_14 : decode b_M_revive 14 = .ok (.getfield 26, 3) := by decide +kernel
theorem d_M_revive_17 : decode b_M_revive 17 = .ok (.iload_n 1, 1) := by decide +kernel
theorem d_M_revive_18 : decode b_M_revive 18 = .ok (.iaload, 1) := by decide +kernel
theorem d_M_revive_19 : decode b_M_revive 19 = .ok (.iconst 3, 1) := by decide +kernel
theorem d_M_revive_20 : decode b_M_revive 20 = .ok (.if_icmp .ne 12, 3) := by decide +kernel
theorem d_M_revive_23 : decode b_M_revive 23 = .ok (.aload_n 0, 1) := by decide +kernel
theorem d_M_revive_24 : decode b_M_revive 24 = .ok (.invokevirtual 70, 3) := by decide +kernel
theorem d_M_revive_27 : decode b_M_revive 27 = .ok (.bipush 64, 2) := by decide +kernel
theorem d_M_revive_29 : decode b_M_revive 29 = .ok (.if_icmp .ne 5, 3) := by decide +kernel
theorem d_M_revive_32 : decode b_M_revive 32 = .ok (.iconst 0, 1) := by decide +kernel
theorem d_M_revive_33 : decode b_M_revive 33 = .ok (.ireturn, 1) := by decide +kernel
theorem d_M_revive_34 : decode b_M_revive 34 = .ok (.aload_n 0, 1) := by decide +kernel
theorem d_M_revive_35 : decode b_M_revive 35 = .ok (.getfield 26, 3) := by decide +kernel
theorem d_M_revive_38 : decode b_M_revive 38 = .ok (.iload_n 1, 1) := by decide +kernel
theorem d_M_revive_39 : decode b_M_revive 39 = .ok (.iconst 0, 1) := by decide +kernel
theorem d_M_revive_40 : decode b_M_revive 40 = .ok (.iastore, 1) := by decide +kernel
theorem d_M_revive_41 : decode b_M_revive 41 = .ok (.aload_n 0, 1) := by decide +kernel
theorem d_M_revive_42 : decode b_M_revive 42 = .ok (.getfield 29, 3) := by decide +kernel
theorem d_M_revive_45 : decode b_M_revive 45 = .ok (.iload_n 1, 1) := by decide +kernel
theorem d_M_revive_46 : decode b_M_revive 46 = .ok (.aload_n 0, 1) := by decide +kernel
theorem d_M_revive_47 : decode b_M_revive 47 = .ok (.getfield 55, 3) := by decide +kernel
theorem d_M_revive_50 : decode b_M_revive 50 = .ok (.iastore, 1) := by decide +kernel
theorem d_M_revive_51 : decode b_M_revive 51 = .ok (.aload_n 0, 1) := by decide +kernel
theorem d_M_revive_52 : decode b_M_revive 52 = .ok (.getfield 23, 3) := by decide +kernel
theorem d_M_revive_55 : decode b_M_revive 55 = .ok (.iload_n 1, 1) := by decide +kernel
theorem d_M_revive_56 : decode b_M_revive 56 = .ok (.iconst 0, 1) := by decide +kernel
theorem d_M_revive_57 : decode b_M_revive 57 = .ok (.iastore, 1) := by decide +kernel
theorem d_M_revive_58 : decode b_M_revive 58 = .ok (.iconst 1, 1) := by decide +kernel
theorem d_M_revive_59 : decode b_M_revive 59 = .ok (.ireturn, 1) := by decide +kernel
theorem d_M_set_0 : decode b_M_set 0 = .ok (.aload_n 0, 1) := by decide +kernel
theorem d_M_set_1 : decode b_M_set 1 = .ok (.iconst 0, 1) := by decide +kernel
theorem d_M_set_2 : decode b_M_set 2 = .ok (.putfield 44, 3) := by decide +kernel
theorem d_M_set_5 : decode b_M_set 5 = .ok (.iload_n 1, 1) := by decide +kernel
theorem d_M_set_6 : decode b_M_set 6 = .ok (.iconst 0, 1) := by decide +kernel
theorem d_M_set_7 : decode b_M_set 7 = .ok (.bipush 6, 2) := by decide +kernel
theorem d_M_set_9 : decode b_M_set 9 = .ok (.invokestatic 58, 3) := by decide +kernel
theorem d_M_set_12 : decode b_M_set 12 = .ok (.ifCond .eq 38, 3) := by decide +kernel
theorem d_M_set_15 : decode b_M_set 15 = .ok (.iload_n 2, 1) := by decide +kernel
theorem d_M_set_16 : decode b_M_set 16 = .ok (.iconst 0, 1) := by decide +kernel
theorem d_M_set_17 : decode b_M_set 17 = .ok (.iload_n 1, 1) := by decide +kernel
theorem d_M_set_18 : decode b_M_set 18 = .ok (.bipush 6, 2) := by decide +kernel
theorem d_M_set_20 : decode b_M_set 20 = .ok (.if_icmp .ge 7, 3) := by decide +kernel
theorem d_M_set_23 : decode b_M_set 23 = .ok (.iconst 3, 1) := by decide +kernel
theorem d_M_set_24 : decode b_M_set 24 = .ok (.goto 5, 3) := by decide +kernel
theorem d_M_set_27 : decode b_M_set 27 = .ok (.bipush 7, 2) := by decide +kernel
theorem d_M_set_29 : decode b_M_set 29 = .ok (.invokestatic 58, 3) := by decide +kernel
theorem d_M_set_32 : decode b_M_set 32 = .ok (.ifCond .eq 18, 3) := by decide +kernel
theorem d_M_set_35 : decode b_M_set 35 = .ok (.iload_n 3, 1) := by decide +kernel
theorem d_M_set_36 : decode b_M_set 36 = .ok (.iload_n 1, 1) := by decide +kernel
theorem d_M_set_37 : decode b_M_set 37 = .ok (.invokestatic 102, 3) := by decide +kernel
theorem d_M_set_40 : decode b_M_set 40 = .ok (.iload_n 1, 1) := by decide +kernel
theorem d_M_set_41 : decode b_M_set 41 = .ok (.invokestatic 105, 3) := by decide +kernel
theorem d_M_set_44 : decode b_M_set 44 = .ok (.invokestatic 58, 3) := by decide +kernel
theorem d_M_set_47 : decode b_M_set 47 = .ok (.ifCond .ne 5, 3) := by decide +kernel
theorem d_M_set_50 : decode b_M_set 50 = .ok (.iconst 0, 1) := by decide +kernel
theorem d_M_set_51 : decode b_M_set 51 = .ok (.ireturn, 1) := by decide +kernel
theorem d_M_set_52 : decode b_M_set 52 = .ok (.iload_n 1, 1) := by decide +kernel
theorem d_M_set_53 : decode b_M_set 53 = .ok (.bipush 6, 2) := by decide +kernel
theorem d_M_set_55 : decode b_M_set 55 = .ok (.if_icmp .ge 18, 3) := by decide +kernel
theorem d_M_set_58 : decode b_M_set 58 = .ok (.aload_n 0, 1) := by decide +kernel
theorem d_M_set_59 : decode b_M_set 59 = .ok (.getfield 38, 3) := by decide +kernel
theorem d_M_set_62 : decode b_M_set 62 = .ok (.bipush 6, 2) := by decide +kernel
theorem d_M_set_64 : decode b_M_set 64 = .ok (.iload_n 2, 1) := by decide +kernel
theorem d_M_set_65 : decode b_M_set 65 = .ok (.imul, 1) := by decide +kernel
theorem d_M_set_66 : decode b_M_set 66 = .ok (.iload_n 1, 1) := by decide +kernel
theorem d_M_set_67 : decode b_M_set 67 = .ok (.iadd, 1) := by decide +kernel
theorem d_M_set_68 : decode b_M_set 68 = .ok (.iload_n 3, 1) := by decide +kernel
theorem d_M_set_69 : decode b_M_set 69 = .ok (.iastore, 1) := by decide +kernel
theorem d_M_set_70 : decode b_M_set 70 = .ok (.goto 10, 3) := by decide +kernel
theorem d_M_set_73 : decode b_M_set 73 = .ok (.aload_n 0, 1) := by decide +kernel
theorem d_M_set_74 : decode b_M_set 74 = .ok (.getfield 41, 3) := by decide +kernel
theorem d_M_set_77 : decode b_M_set 77 = .ok (.iload_n 2, 1) := by decide +kernel
theorem d_M_set_78 : decode b_M_set 78 = .ok (.iload_n 3, 1) := by decide +kernel
theorem d_M_set_79 : decode b_M_set 79 = .ok (.iastore, 1) := by decide +kernel
theorem d_M_set_80 : decode b_M_set 80 = .ok (.iconst 1, 1) := by decide +kernel
theorem d_M_set_81 : decode b_M_set 81 = .ok (.ireturn, 1) := by decide +kernel
theorem d_M_least_0 : decode b_M_least 0 = .ok (.iload_n 0, 1) := by decide +kernel
theorem d_M_least_1 : decode b_M_least 1 = .ok (.iconst 4, 1) := by decide +kernel
theorem d_M_least_2 : decode b_M_least 2 = .ok (.if_icmp .ge 7, 3) := by decide +kernel
theorem d_M_least_5 : decode b_M_least 5 = .ok (.iconst 1, 1) := by decide +kernel
theorem d_M_least_6 : decode b_M_least 6 = .ok (.goto 4, 3) := by decide +kernel
theorem d_M_least_9 : decode b_M_least 9 = .ok (.iconst 0, 1) := by decide +kernel
theorem d_M_least_10 : decode b_M_least 10 = .ok (.ireturn, 1) := by decide +kernel
theorem d_M_greatest_0 : decode b_M_greatest 0 = .ok (.iload_n 0, 1) := by decide +kernel
theorem d_M_greatest_1 : decode b_M_greatest 1 = .ok (.tableswitch 53 0 5 #[39, 43, 46, 49, 46, 49], 39) := by decide +kernel
theorem d_M_greatest_40 : decode b_M_greatest 40 = .ok (.sipush 200, 3) := by decide +kernel
theorem d_M_greatest_43 : decode b_M_greatest 43 = .ok (.ireturn, 1) := by decide +kernel
theorem d_M_greatest_44 : decode b_M_greatest 44 = .ok (.bipush 20, 2) := by decide +kernel
theorem d_M_greatest_46 : decode b_M_greatest 46 = .ok (.ireturn, 1) := by decide +kernel
theorem d_M_greatest_47 : decode b_M_greatest 47 = .ok (.bipush 100, 2) := by decide +kernel
theorem d_M_greatest_49 : decode b_M_greatest 49 = .ok (.ireturn, 1) := by decide +kernel
theorem d_M_greatest_50 : decode b_M_greatest 50 = .ok (.sipush 1000, 3) := by decide +kernel
theorem d_M_greatest_53 : decode b_M_greatest 53 = .ok (.ireturn, 1) := by decide +kernel
theorem d_M_greatest_54 : decode b_M_greatest 54 = .ok (.bipush 8, 2) := by decide +kernel
theorem d_M_greatest_56 : decode b_M_greatest 56 = .ok (.ireturn, 1) := by decide +kernel
theorem d_M_task_0 : decode b_M_task 0 = .ok (.aload_n 0, 1) := by decide +kernel
theorem d_M_task_1 : decode b_M_task 1 = .ok (.aload_n 0, 1) := by decide +kernel
theorem d_M_task_2 : decode b_M_task 2 = .ok (.iload_n 1, 1) := by decide +kernel
theorem d_M_task_3 : decode b_M_task 3 = .ok (.invokevirtual 99, 3) := by decide +kernel
theorem d_M_task_6 : decode b_M_task 6 = .ok (.ifCond .eq 13, 3) := by decide +kernel
theorem d_M_task_9 : decode b_M_task 9 = .ok (.iload_n 2, 1) := by decide +kernel
theorem d_M_task_10 : decode b_M_task 10 = .ok (.iconst 0, 1) := by decide +kernel
theorem d_M_task_11 : decode b_M_task 11 = .ok (.bipush 6, 2) := by decide +kernel
theorem d_M_task_13 : decode b_M_task 13 = .ok (.invokestatic 58, 3) := by decide +kernel
end
section
theorem d_M_task_16 : decode b_M_task 16 = .ok (.ifCond .ne 7, 3) := by decide +kernel
theorem d_M_task_19 : decode b_M_task 19 = .ok (.iconst 1, 1) := by decide +kernel
theorem d_M_task_20 : decode b_M_task 20 = .ok (.goto 4, 3) := by decide +kernel
theorem d_M_task_23 : decode b_M_task 23 = .ok (.iconst 0, 1) := by decide +kernel
theorem d_M_task_24 : decode b_M_task 24 = .ok (.putfield 44, 3) := by decide +kernel
theorem d_M_task_27 : decode b_M_task 27 = .ok (.aload_n 0, 1) := by decide +kernel
theorem d_M_task_28 : decode b_M_task 28 = .ok (.getfield 44, 3) := by decide +kernel
theorem d_M_task_31 : decode b_M_task 31 = .ok (.ifCond .le 5, 3) := by decide +kernel
theorem d_M_task_34 : decode b_M_task 34 = .ok (.iconst 0, 1) := by decide +kernel
theorem d_M_task_35 : decode b_M_task 35 = .ok (.ireturn, 1) := by decide +kernel
theorem d_M_task_36 : decode b_M_task 36 = .ok (.aload_n 0, 1) := by decide +kernel
theorem d_M_task_37 : decode b_M_task 37 = .ok (.getfield 26, 3) := by decide +kernel
theorem d_M_task_40 : decode b_M_task 40 = .ok (.iload_n 1, 1) := by decide +kernel
theorem d_M_task_41 : decode b_M_task 41 = .ok (.iaload, 1) := by decide +kernel
theorem d_M_task_42 : decode b_M_task 42 = .ok (.ifCond .ne 7, 3) := by decide +kernel
theorem d_M_task_45 : decode b_M_task 45 = .ok (.iconst 1, 1) := by decide +kernel
theorem d_M_task_46 : decode b_M_task 46 = .ok (.goto 4, 3) := by decide +kernel
theorem d_M_task_49 : decode b_M_task 49 = .ok (.iconst 0, 1) := by decide +kernel
theorem d_M_task_50 : decode b_M_task 50 = .ok (.istore_n 3, 1) := by decide +kernel
theorem d_M_task_51 : decode b_M_task 51 = .ok (.aload_n 0, 1) := by decide +kernel
theorem d_M_task_52 : decode b_M_task 52 = .ok (.getfield 26, 3) := by decide +kernel
theorem d_M_task_55 : decode b_M_task 55 = .ok (.iload_n 1, 1) := by decide +kernel
theorem d_M_task_56 : decode b_M_task 56 = .ok (.iaload, 1) := by decide +kernel
theorem d_M_task_57 : decode b_M_task 57 = .ok (.iconst 1, 1) := by decide +kernel
theorem d_M_task_58 : decode b_M_task 58 = .ok (.if_icmp .ne 7, 3) := by decide +kernel
theorem d_M_task_61 : decode b_M_task 61 = .ok (.iconst 1, 1) := by decide +kernel
theorem d_M_task_62 : decode b_M_task 62 = .ok (.goto 4, 3) := by decide +kernel
theorem d_M_task_65 : decode b_M_task 65 = .ok (.iconst 0, 1) := by decide +kernel
theorem d_M_task_66 : decode b_M_task 66 = .ok (.istore 4, 2) := by decide +kernel
theorem d_M_task_68 : decode b_M_task 68 = .ok (.iload_n 2, 1) := by decide +kernel
theorem d_M_task_69 : decode b_M_task 69 = .ok (.tableswitch 116 0 5 #[39, 46, 53, 68, 84, 100], 39) := by decide +kernel
theorem d_M_task_108 : decode b_M_task 108 = .ok (.aload_n 0, 1) := by decide +kernel
theorem d_M_task_109 : decode b_M_task 109 = .ok (.getfield 26, 3) := by decide +kernel
theorem d_M_task_112 : decode b_M_task 112 = .ok (.iload_n 1, 1) := by decide +kernel
theorem d_M_task_113 : decode b_M_task 113 = .ok (.iaload, 1) := by decide +kernel
theorem d_M_task_114 : decode b_M_task 114 = .ok (.ireturn, 1) := by decide +kernel
theorem d_M_task_115 : decode b_M_task 115 = .ok (.aload_n 0, 1) := by decide +kernel
theorem d_M_task_116 : decode b_M_task 116 = .ok (.getfield 23, 3) := by decide +kernel
theorem d_M_task_119 : decode b_M_task 119 = .ok (.iload_n 1, 1) := by decide +kernel
theorem d_M_task_120 : decode b_M_task 120 = .ok (.iaload, 1) := by decide +kernel
theorem d_M_task_121 : decode b_M_task 121 = .ok (.ireturn, 1) := by decide +kernel
theorem d_M_task_122 : decode b_M_task 122 = .ok (.iload_n 3, 1) := by decide +kernel
theorem d_M_task_123 : decode b_M_task 123 = .ok (.ifCond .eq 12, 3) := by decide +kernel
theorem d_M_task_126 : decode b_M_task 126 = .ok (.aload_n 0, 1) := by decide +kernel
theorem d_M_task_127 : decode b_M_task 127 = .ok (.getfield 29, 3) := by decide +kernel
theorem d_M_task_130 : decode b_M_task 130 = .ok (.iload_n 1, 1) := by decide +kernel
theorem d_M_task_131 : decode b_M_task 131 = .ok (.iaload, 1) := by decide +kernel
theorem d_M_task_132 : decode b_M_task 132 = .ok (.goto 4, 3) := by decide +kernel
theorem d_M_task_135 : decode b_M_task 135 = .ok (.iconst (-1), 1) := by decide +kernel
theorem d_M_task_136 : decode b_M_task 136 = .ok (.ireturn, 1) := by decide +kernel
theorem d_M_task_137 : decode b_M_task 137 = .ok (.iload 4, 2) := by decide +kernel
theorem d_M_task_139 : decode b_M_task 139 = .ok (.ifCond .eq 12, 3) := by decide +kernel
theorem d_M_task_142 : decode b_M_task 142 = .ok (.aload_n 0, 1) := by decide +kernel
theorem d_M_task_143 : decode b_M_task 143 = .ok (.getfield 29, 3) := by decide +kernel
theorem d_M_task_146 : decode b_M_task 146 = .ok (.iload_n 1, 1) := by decide +kernel
theorem d_M_task_147 : decode b_M_task 147 = .ok (.iaload, 1) := by decide +kernel
theorem d_M_task_148 : decode b_M_task 148 = .ok (.goto 4, 3) := by decide +kernel
theorem d_M_task_151 : decode b_M_task 151 = .ok (.iconst (-1), 1) := by decide +kernel
theorem d_M_task_152 : decode b_M_task 152 = .ok (.ireturn, 1) := by decide +kernel
theorem d_M_task_153 : decode b_M_task 153 = .ok (.iload 4, 2) := by decide +kernel
theorem d_M_task_155 : decode b_M_task 155 = .ok (.ifCond .eq 12, 3) := by decide +kernel
theorem d_M_task_158 : decode b_M_task 158 = .ok (.aload_n 0, 1) := by decide +kernel
theorem d_M_task_159 : decode b_M_task 159 = .ok (.getfield 32, 3) := by decide +kernel
theorem d_M_task_162 : decode b_M_task 162 = .ok (.iload_n 1, 1) := by decide +kernel
theorem d_M_task_163 : decode b_M_task 163 = .ok (.iaload, 1) := by decide +kernel
theorem d_M_task_164 : decode b_M_task 164 = .ok (.goto 4, 3) := by decide +kernel
theorem d_M_task_167 : decode b_M_task 167 = .ok (.iconst (-1), 1) := by decide +kernel
theorem d_M_task_168 : decode b_M_task 168 = .ok (.ireturn, 1) := by decide +kernel
theorem d_M_task_169 : decode b_M_task 169 = .ok (.iload 4, 2) := by decide +kernel
theorem d_M_task_171 : decode b_M_task 171 = .ok (.ifCond .eq 12, 3) := by decide +kernel
theorem d_M_task_174 : decode b_M_task 174 = .ok (.aload_n 0, 1) := by decide +kernel
theorem d_M_task_175 : decode b_M_task 175 = .ok (.getfield 35, 3) := by decide +kernel
theorem d_M_task_178 : decode b_M_task 178 = .ok (.iload_n 1, 1) := by decide +kernel
theorem d_M_task_179 : decode b_M_task 179 = .ok (.iaload, 1) := by decide +kernel
theorem d_M_task_180 : decode b_M_task 180 = .ok (.goto 4, 3) := by decide +kernel
theorem d_M_task_183 : decode b_M_task 183 = .ok (.iconst (-1), 1) := by decide +kernel
theorem d_M_task_184 : decode b_M_task 184 = .ok (.ireturn, 1) := by decide +kernel
theorem d_M_task_185 : decode b_M_task 185 = .ok (.iload_n 3, 1) := by decide +kernel
theorem d_M_task_186 : decode b_M_task 186 = .ok (.ifCond .eq 24, 3) := by decide +kernel
theorem d_M_task_189 : decode b_M_task 189 = .ok (.aload_n 0, 1) := by decide +kernel
theorem d_M_task_190 : decode b_M_task 190 = .ok (.getfield 29, 3) := by decide +kernel
theorem d_M_task_193 : decode b_M_task 193 = .ok (.iload_n 1, 1) := by decide +kernel
theorem d_M_task_194 : decode b_M_task 194 = .ok (.iaload, 1) := by decide +kernel
theorem d_M_task_195 : decode b_M_task 195 = .ok (.aload_n 0, 1) := by decide +kernel
theorem d_M_task_196 : decode b_M_task 196 = .ok (.getfield 55, 3) := by decide +kernel
theorem d_M_task_199 : decode b_M_task 199 = .ok (.if_icmp .gt 11, 3) := by decide +kernel
theorem d_M_task_202 : decode b_M_task 202 = .ok (.aload_n 0, 1) := by decide +kernel
theorem d_M_task_203 : decode b_M_task 203 = .ok (.iload_n 1, 1) := by decide +kernel
theorem d_M_task_204 : decode b_M_task 204 = .ok (.invokevirtual 80, 3) := by decide +kernel
theorem d_M_task_207 : decode b_M_task 207 = .ok (.goto 4, 3) := by decide +kernel
theorem d_M_task_210 : decode b_M_task 210 = .ok (.iconst (-1), 1) := by decide +kernel
theorem d_M_task_211 : decode b_M_task 211 = .ok (.ireturn, 1) := by decide +kernel
theorem d_M_first_0 : decode b_M_first 0 = .ok (.aload_n 0, 1) := by decide +kernel
theorem d_M_first_1 : decode b_M_first 1 = .ok (.iconst 0, 1) := by decide +kernel
theorem d_M_first_2 : decode b_M_first 2 = .ok (.putfield 44, 3) := by decide +kernel
theorem d_M_first_5 : decode b_M_first 5 = .ok (.iload_n 1, 1) := by decide +kernel
theorem d_M_first_6 : decode b_M_first 6 = .ok (.iconst 0, 1) := by decide +kernel
theorem d_M_first_7 : decode b_M_first 7 = .ok (.iconst 3, 1) := by decide +kernel
theorem d_M_first_8 : decode b_M_first 8 = .ok (.invokestatic 58, 3) := by decide +kernel
theorem d_M_first_11 : decode b_M_first 11 = .ok (.ifCond .eq 11, 3) := by decide +kernel
theorem d_M_first_14 : decode b_M_first 14 = .ok (.aload_n 0, 1) := by decide +kernel
theorem d_M_first_15 : decode b_M_first 15 = .ok (.iload_n 1, 1) := by decide +kernel
theorem d_M_first_16 : decode b_M_first 16 = .ok (.invokevirtual 83, 3) := by decide +kernel
theorem d_M_first_19 : decode b_M_first 19 = .ok (.goto 4, 3) := by decide +kernel
theorem d_M_first_22 : decode b_M_first 22 = .ok (.iconst (-1), 1) := by decide +kernel
theorem d_M_first_23 : decode b_M_first 23 = .ok (.ireturn, 1) := by decide +kernel
theorem d_M_next_0 : decode b_M_next 0 = .ok (.aload_n 0, 1) := by decide +kernel
theorem d_M_next_1 : decode b_M_next 1 = .ok (.iconst 0, 1) := by decide +kernel
theorem d_M_next_2 : decode b_M_next 2 = .ok (.putfield 44, 3) := by decide +kernel
theorem d_M_next_5 : decode b_M_next 5 = .ok (.iconst (-1), 1) := by decide +kernel
theorem d_M_next_6 : decode b_M_next 6 = .ok (.istore_n 1, 1) := by decide +kernel
theorem d_M_next_7 : decode b_M_next 7 = .ok (.iconst 0, 1) := by decide +kernel
theorem d_M_next_8 : decode b_M_next 8 = .ok (.istore_n 2, 1) := by decide +kernel
theorem d_M_next_9 : decode b_M_next 9 = .ok (.iload_n 2, 1) := by decide +kernel
theorem d_M_next_10 : decode b_M_next 10 = .ok (.aload_n 0, 1) := by decide +kernel
theorem d_M_next_11 : decode b_M_next 11 = .ok (.getfield 48, 3) := by decide +kernel
theorem d_M_next_14 : decode b_M_next 14 = .ok (.if_icmp .ge 59, 3) := by decide +kernel
theorem d_M_next_17 : decode b_M_next 17 = .ok (.aload_n 0, 1) := by decide +kernel
theorem d_M_next_18 : decode b_M_next 18 = .ok (.iload_n 2, 1) := by decide +kernel
theorem d_M_next_19 : decode b_M_next 19 = .ok (.invokevirtual 51, 3) := by decide +kernel
theorem d_M_next_22 : decode b_M_next 22 = .ok (.ifCond .eq 45, 3) := by decide +kernel
theorem d_M_next_25 : decode b_M_next 25 = .ok (.aload_n 0, 1) := by decide +kernel
theorem d_M_next_26 : decode b_M_next 26 = .ok (.getfield 29, 3) := by decide +kernel
theorem d_M_next_29 : decode b_M_next 29 = .ok (.iload_n 2, 1) := by decide +kernel
theorem d_M_next_30 : decode b_M_next 30 = .ok (.iaload, 1) := by decide +kernel
theorem d_M_next_31 : decode b_M_next 31 = .ok (.aload_n 0, 1) := by decide +kernel
theorem d_M_next_32 : decode b_M_next 32 = .ok (.getfield 55, 3) := by decide +kernel
theorem d_M_next_35 : decode b_M_next 35 = .ok (.if_icmp .gt 6, 3) := by decide +kernel
theorem d_M_next_38 : decode b_M_next 38 = .ok (.goto 29, 3) := by decide +kernel
theorem d_M_next_41 : decode b_M_next 41 = .ok (.iload_n 1, 1) := by decide +kernel
theorem d_M_next_42 : decode b_M_next 42 = .ok (.iconst (-1), 1) := by decide +kernel
theorem d_M_next_43 : decode b_M_next 43 = .ok (.if_icmp .eq 13, 3) := by decide +kernel
theorem d_M_next_46 : decode b_M_next 46 = .ok (.aload_n 0, 1) := by decide +kernel
theorem d_M_next_47 : decode b_M_next 47 = .ok (.getfield 29, 3) := by decide +kernel
theorem d_M_next_50 : decode b_M_next 50 = .ok (.iload_n 2, 1) := by decide +kernel
theorem d_M_next_51 : decode b_M_next 51 = .ok (.iaload, 1) := by decide +kernel
theorem d_M_next_52 : decode b_M_next 52 = .ok (.iload_n 1, 1) := by decide +kernel
theorem d_M_next_53 : decode b_M_next 53 = .ok (.if_icmp .ge 12, 3) := by decide +kernel
theorem d_M_next_56 : decode b_M_next 56 = .ok (.aload_n 0, 1) := by decide +kernel
theorem d_M_next_57 : decode b_M_next 57 = .ok (.getfield 29, 3) := by decide +kernel
theorem d_M_next_60 : decode b_M_next 60 = .ok (.iload_n 2, 1) := by decide +kernel
theorem d_M_next_61 : decode b_M_next 61 = .ok (.iaload, 1) := by decide +kernel
theorem d_M_next_62 : decode b_M_next 62 = .ok (.goto 4, 3) := by decide +kernel
theorem d_M_next_65 : decode b_M_next 65 = .ok (.iload_n 1, 1) := by decide +kernel
theorem d_M_next_66 : decode b_M_next 66 = .ok (.istore_n 1, 1) := by decide +kernel
theorem d_M_next_67 : decode b_M_next 67 = .ok (.iinc 2 1, 3) := by decide +kernel
theorem d_M_next_70 : decode b_M_next 70 = .ok (.goto (-61), 3) := by decide +kernel
theorem d_M_next_73 : decode b_M_next 73 = .ok (.iload_n 1, 1) := by decide +kernel
theorem d_M_next_74 : decode b_M_next 74 = .ok (.ireturn, 1) := by decide +kernel
theorem d_M_count_0 : decode b_M_count 0 = .ok (.aload_n 0, 1) := by decide +kernel
theorem d_M_count_1 : decode b_M_count 1 = .ok (.iconst 0, 1) := by decide +kernel
theorem d_M_count_2 : decode b_M_count 2 = .ok (.putfield 44, 3) := by decide +kernel
theorem d_M_count_5 : decode b_M_count 5 = .ok (.iload_n 1, 1) := by decide +kernel
theorem d_M_count_6 : decode b_M_count 6 = .ok (.iconst 5, 1) := by decide +kernel
theorem d_M_count_7 : decode b_M_count 7 = .ok (.bipush 12, 2) := by decide +kernel
theorem d_M_count_9 : decode b_M_count 9 = .ok (.invokestatic 58, 3) := by decide +kernel
theorem d_M_count_12 : decode b_M_count 12 = .ok (.ifCond .eq 11, 3) := by decide +kernel
theorem d_M_count_15 : decode b_M_count 15 = .ok (.aload_n 0, 1) := by decide +kernel
theorem d_M_count_16 : decode b_M_count 16 = .ok (.iload_n 1, 1) := by decide +kernel
theorem d_M_count_17 : decode b_M_count 17 = .ok (.iconst 5, 1) := by decide +kernel
theorem d_M_count_18 : decode b_M_count 18 = .ok (.isub, 1) := by decide +kernel
theorem d_M_count_19 : decode b_M_count 19 = .ok (.invokevirtual 86, 3) := by decide +kernel
theorem d_M_count_22 : decode b_M_count 22 = .ok (.ireturn, 1) := by decide +kernel
theorem d_M_count_23 : decode b_M_count 23 = .ok (.iload_n 1, 1) := by decide +kernel
theorem d_M_count_24 : decode b_M_count 24 = .ok (.bipush 13, 2) := by decide +kernel
theorem d_M_count_26 : decode b_M_count 26 = .ok (.bipush 20, 2) := by decide +kernel
theorem d_M_count_28 : decode b_M_count 28 = .ok (.invokestatic 58, 3) := by decide +kernel
theorem d_M_count_31 : decode b_M_count 31 = .ok (.ifCond .eq 12, 3) := by decide +kernel
theorem d_M_count_34 : decode b_M_count 34 = .ok (.aload_n 0, 1) := by decide +kernel
theorem d_M_count_35 : decode b_M_count 35 = .ok (.iload_n 1, 1) := by decide +kernel
theorem d_M_count_36 : decode b_M_count 36 = .ok (.bipush 13, 2) := by decide +kernel
theorem d_M_count_38 : decode b_M_count 38 = .ok (.isub, 1) := by decide +kernel
theorem d_M_count_39 : decode b_M_count 39 = .ok (.invokevirtual 74, 3) := by decide +kernel
theorem d_M_count_42 : decode b_M_count 42 = .ok (.ireturn, 1) := by decide +kernel
theorem d_M_count_43 : decode b_M_count 43 = .ok (.iload_n 1, 1) := by decide +kernel
theorem d_M_count_44 : decode b_M_count 44 = .ok (.bipush 21, 2) := by decide +kernel
theorem d_M_count_46 : decode b_M_count 46 = .ok (.bipush 24, 2) := by decide +kernel
theorem d_M_count_48 : decode b_M_count 48 = .ok (.invokestatic 58, 3) := by decide +kernel
theorem d_M_count_51 : decode b_M_count 51 = .ok (.ifCond .eq 12, 3) := by decide +kernel
theorem d_M_count_54 : decode b_M_count 54 = .ok (.aload_n 0, 1) := by decide +kernel
theorem d_M_count_55 : decode b_M_count 55 = .ok (.iload_n 1, 1) := by decide +kernel
theorem d_M_count_56 : decode b_M_count 56 = .ok (.bipush 21, 2) := by decide +kernel
theorem d_M_count_58 : decode b_M_count 58 = .ok (.isub, 1) := by decide +kernel
theorem d_M_count_59 : decode b_M_count 59 = .ok (.invokevirtual 108, 3) := by decide +kernel
theorem d_M_count_62 : decode b_M_count 62 = .ok (.ireturn, 1) := by decide +kernel
theorem d_M_count_63 : decode b_M_count 63 = .ok (.iload_n 1, 1) := by decide +kernel
theorem d_M_count_64 : decode b_M_count 64 = .ok (.tableswitch 63 0 4 #[36, 41, 46, 51, 57], 36) := by decide +kernel
theorem d_M_count_100 : decode b_M_count 100 = .ok (.aload_n 0, 1) := by decide +kernel
theorem d_M_count_101 : decode b_M_count 101 = .ok (.getfield 55, 3) := by decide +kernel
theorem d_M_count_104 : decode b_M_count 104 = .ok (.ireturn, 1) := by decide +kernel
theorem d_M_count_105 : decode b_M_count 105 = .ok (.aload_n 0, 1) := by decide +kernel
theorem d_M_count_106 : decode b_M_count 106 = .ok (.getfield 48, 3) := by decide +kernel
theorem d_M_count_109 : decode b_M_count 109 = .ok (.ireturn, 1) := by decide +kernel
theorem d_M_count_110 : decode b_M_count 110 = .ok (.aload_n 0, 1) := by decide +kernel
theorem d_M_count_111 : decode b_M_count 111 = .ok (.invokevirtual 70, 3) := by decide +kernel
theorem d_M_count_114 : decode b_M_count 114 = .ok (.ireturn, 1) := by decide +kernel
theorem d_M_count_115 : decode b_M_count 115 = .ok (.aload_n 0, 1) := by decide +kernel
theorem d_M_count_116 : decode b_M_count 116 = .ok (.iconst 1, 1) := by decide +kernel
theorem d_M_count_117 : decode b_M_count 117 = .ok (.invokevirtual 111, 3) := by decide +kernel
theorem d_M_count_120 : decode b_M_count 120 = .ok (.ireturn, 1) := by decide +kernel
theorem d_M_count_121 : decode b_M_count 121 = .ok (.aload_n 0, 1) := by decide +kernel
theorem d_M_count_122 : decode b_M_count 122 = .ok (.iconst 3, 1) := by decide +kernel
theorem d_M_count_123 : decode b_M_count 123 = .ok (.invokevirtual 111, 3) := by decide +kernel
theorem d_M_count_126 : decode b_M_count 126 = .ok (.ireturn, 1) := by decide +kernel
theorem d_M_count_127 : decode b_M_count 127 = .ok (.iconst (-1), 1) := by decide +kernel
theorem d_M_count_128 : decode b_M_count 128 = .ok (.ireturn, 1) := by decide +kernel
theorem d_M_waitingIn_0 : decode b_M_waitingIn 0 = .ok (.iconst 0, 1) := by decide +kernel
theorem d_M_waitingIn_1 : decode b_M_waitingIn 1 = .ok (.istore_n 2, 1) := by decide +kernel
theorem d_M_waitingIn_2 : decode b_M_waitingIn 2 = .ok (.iconst 0, 1) := by decide +kernel
theorem d_M_waitingIn_3 : decode b_M_waitingIn 3 = .ok (.istore_n 3, 1) := by decide +kernel
theorem d_M_waitingIn_4 : decode b_M_waitingIn 4 = .ok (.iload_n 3, 1) := by decide +kernel
theorem d_M_waitingIn_5 : decode b_M_waitingIn 5 = .ok (.aload_n 0, 1) := by decide +kernel
theorem d_M_waitingIn_6 : decode b_M_waitingIn 6 = .ok (.getfield 48, 3) := by decide +kernel
theorem d_M_waitingIn_9 : decode b_M_waitingIn 9 = .ok (.if_icmp .ge 36, 3) := by decide +kernel
theorem d_M_waitingIn_12 : decode b_M_waitingIn 12 = .ok (.iload_n 2, 1) := by decide +kernel
theorem d_M_waitingIn_13 : decode b_M_waitingIn 13 = .ok (.aload_n 0, 1) := by decide +kernel
theorem d_M_waitingIn_14 : decode b_M_waitingIn 14 = .ok (.getfield 26, 3) := by decide +kernel
theorem d_M_waitingIn_17 : decode b_M_waitingIn 17 = .ok (.iload_n 3, 1) := by decide +kernel
theorem d_M_waitingIn_18 : decode b_M_waitingIn 18 = .ok (.iaload, 1) := by decide +kernel
theorem d_M_waitingIn_19 : decode b_M_waitingIn 19 = .ok (.ifCond .ne 17, 3) := by decide +kernel
theorem d_M_waitingIn_22 : decode b_M_waitingIn 22 = .ok (.aload_n 0, 1) := by decide +kernel
theorem d_M_waitingIn_23 : decode b_M_waitingIn 23 = .ok (.getfield 7, 3) := by decide +kernel
theorem d_M_waitingIn_26 : decode b_M_waitingIn 26 = .ok (.iload_n 3, 1) := by decide +kernel
theorem d_M_waitingIn_27 : decode b_M_waitingIn 27 = .ok (.iaload, 1) := by decide +kernel
theorem d_M_waitingIn_28 : decode b_M_waitingIn 28 = .ok (.iload_n 1, 1) := by decide +kernel
theorem d_M_waitingIn_29 : decode b_M_waitingIn 29 = .ok (.if_icmp .ne 7, 3) := by decide +kernel
theorem d_M_waitingIn_32 : decode b_M_waitingIn 32 = .ok (.iconst 1, 1) := by decide +kernel
theorem d_M_waitingIn_33 : decode b_M_waitingIn 33 = .ok (.goto 4, 3) := by decide +kernel
theorem d_M_waitingIn_36 : decode b_M_waitingIn 36 = .ok (.iconst 0, 1) := by decide +kernel
theorem d_M_waitingIn_37 : decode b_M_waitingIn 37 = .ok (.iadd, 1) := by decide +kernel
theorem d_M_waitingIn_38 : decode b_M_waitingIn 38 = .ok (.istore_n 2, 1) := by decide +kernel
theorem d_M_waitingIn_39 : decode b_M_waitingIn 39 = .ok (.iinc 3 1, 3) := by decide +kernel
theorem d_M_waitingIn_42 : decode b_M_waitingIn 42 = .ok (.goto (-38), 3) := by decide +kernel
theorem d_M_waitingIn_45 : decode b_M_waitingIn 45 = .ok (.iload_n 2, 1) := by decide +kernel
theorem d_M_waitingIn_46 : decode b_M_waitingIn 46 = .ok (.ireturn, 1) := by decide +kernel
theorem d_M_inState_0 : decode b_M_inState 0 = .ok (.iconst 0, 1) := by decide +kernel
theorem d_M_inState_1 : decode b_M_inState 1 = .ok (.istore_n 2, 1) := by decide +kernel
theorem d_M_inState_2 : decode b_M_inState 2 = .ok (.iconst 0, 1) := by decide +kernel
theorem d_M_inState_3 : decode b_M_inState 3 = .ok (.istore_n 3, 1) := by decide +kernel
theorem d_M_inState_4 : decode b_M_inState 4 = .ok (.iload_n 3, 1) := by decide +kernel
theorem d_M_inState_5 : decode b_M_inState 5 = .ok (.aload_n 0, 1) := by decide +kernel
theorem d_M_inState_6 : decode b_M_inState 6 = .ok (.getfield 48, 3) := by decide +kernel
theorem d_M_inState_9 : decode b_M_inState 9 = .ok (.if_icmp .ge 27, 3) := by decide +kernel
theorem d_M_inState_12 : decode b_M_inState 12 = .ok (.iload_n 2, 1) := by decide +kernel
theorem d_M_inState_13 : decode b_M_inState 13 = .ok (.aload_n 0, 1) := by decide +kernel
theorem d_M_inState_14 : decode b_M_inState 14 = .ok (.getfield 26, 3) := by decide +kernel
theorem d_M_inState_17 : decode b_M_inState 17 = .ok (.iload_n 3, 1) := by decide +kernel
theorem d_M_inState_18 : decode b_M_inState 18 = .ok (.iaload, 1) := by decide +kernel
theorem d_M_inState_19 : decode b_M_inState 19 = .ok (.iload_n 1, 1) := by decide +kernel
theorem d_M_inState_20 : decode b_M_inState 20 = .ok (.if_icmp .ne 7, 3) := by decide +kernel
theorem d_M_inState_23 : decode b_M_inState 23 = .ok (.iconst 1, 1) := by decide +kernel
theorem d_M_inState_24 : decode b_M_inState 24 = .ok (.goto 4, 3) := by decide +kernel
theorem d_M_inState_27 : decode b_M_inState 27 = .ok (.iconst 0, 1) := by decide +kernel
theorem d_M_inState_28 : decode b_M_inState 28 = .ok (.iadd, 1) := by decide +kernel
theorem d_M_inState_29 : decode b_M_inState 29 = .ok (.istore_n 2, 1) := by decide +kernel
theorem d_M_inState_30 : decode b_M_inState 30 = .ok (.iinc 3 1, 3) := by decide +kernel
theorem d_M_inState_33 : decode b_M_inState 33 = .ok (.goto (-29), 3) := by decide +kernel
theorem d_M_inState_36 : decode b_M_inState 36 = .ok (.iload_n 2, 1) := by decide +kernel
theorem d_M_inState_37 : decode b_M_inState 37 = .ok (.ireturn, 1) := by decide +kernel
theorem d_L_law_0 : decode b_L_law 0 = .ok (.new 8, 3) := by decide +kernel
theorem d_L_law_3 : decode b_L_law 3 = .ok (.dup, 1) := by decide +kernel
theorem d_L_law_4 : decode b_L_law 4 = .ok (.invokespecial 33, 3) := by decide +kernel
theorem d_L_law_7 : decode b_L_law 7 = .ok (.astore_n 1, 1) := by decide +kernel
theorem d_L_law_8 : decode b_L_law 8 = .ok (.new 34, 3) := by decide +kernel
theorem d_L_law_11 : decode b_L_law 11 = .ok (.dup, 1) := by decide +kernel
theorem d_L_law_12 : decode b_L_law 12 = .ok (.invokespecial 36, 3) := by decide +kernel
theorem d_L_law_15 : decode b_L_law 15 = .ok (.astore_n 2, 1) := by decide +kernel
theorem d_L_law_16 : decode b_L_law 16 = .ok (.iconst 1, 1) := by decide +kernel
theorem d_L_law_17 : decode b_L_law 17 = .ok (.newarray .long, 2) := by decide +kernel
theorem d_L_law_19 : decode b_L_law 19 = .ok (.astore_n 3, 1) := by decide +kernel
theorem d_L_law_20 : decode b_L_law 20 = .ok (.iconst 0, 1) := by decide +kernel
theorem d_L_law_21 : decode b_L_law 21 = .ok (.istore 4, 2) := by decide +kernel
theorem d_L_law_23 : decode b_L_law 23 = .ok (.iload 4, 2) := by decide +kernel
theorem d_L_law_25 : decode b_L_law 25 = .ok (.aload_n 0, 1) := by decide +kernel
theorem d_L_law_26 : decode b_L_law 26 = .ok (.arraylength, 1) := by decide +kernel
theorem d_L_law_27 : decode b_L_law 27 = .ok (.bipush 7, 2) := by decide +kernel
theorem d_L_law_29 : decode b_L_law 29 = .ok (.isub, 1) := by decide +kernel
theorem d_L_law_30 : decode b_L_law 30 = .ok (.if_icmp .gt 665, 3) := by decide +kernel
theorem d_L_law_33 : decode b_L_law 33 = .ok (.aload_n 0, 1) := by decide +kernel
theorem d_L_law_34 : decode b_L_law 34 = .ok (.iload 4, 2) := by decide +kernel
theorem d_L_law_36 : decode b_L_law 36 = .ok (.iaload, 1) := by decide +kernel
theorem d_L_law_37 : decode b_L_law 37 = .ok (.bipush 15, 2) := by decide +kernel
theorem d_L_law_39 : decode b_L_law 39 = .ok (.iand, 1) := by decide +kernel
theorem d_L_law_40 : decode b_L_law 40 = .ok (.tableswitch 649 0 11 #[64, 202, 270, 295, 363, 419, 444, 469, 518, 586, 611, 624], 64) := by decide +kernel
theorem d_L_law_104 : decode b_L_law 104 = .ok (.aload_n 1, 1) := by decide +kernel
theorem d_L_law_105 : decode b_L_law 105 = .ok (.aload_n 0, 1) := by decide +kernel
theorem d_L_law_106 : decode b_L_law 106 = .ok (.iload 4, 2) := by decide +kernel
theorem d_L_law_108 : decode b_L_law 108 = .ok (.iconst 1, 1) := by decide +kernel
theorem d_L_law_109 : decode b_L_law 109 = .ok (.iadd, 1) := by decide +kernel
theorem d_L_law_110 : decode b_L_law 110 = .ok (.iaload, 1) := by decide +kernel
theorem d_L_law_111 : decode b_L_law 111 = .ok (.aload_n 0, 1) := by decide +kernel
theorem d_L_law_112 : decode b_L_law 112 = .ok (.iload 4, 2) := by decide +kernel
theorem d_L_law_114 : decode b_L_law 114 = .ok (.iconst 2, 1) := by decide +kernel
theorem d_L_law_115 : decode b_L_law 115 = .ok (.iadd, 1) := by decide +kernel
theorem d_L_law_116 : decode b_L_law 116 = .ok (.iaload, 1) := by decide +kernel
theorem d_L_law_117 : decode b_L_law 117 = .ok (.aload_n 0, 1) := by decide +kernel
theorem d_L_law_118 : decode b_L_law 118 = .ok (.iload 4, 2) := by decide +kernel
theorem d_L_law_120 : decode b_L_law 120 = .ok (.iconst 3, 1) := by decide +kernel
theorem d_L_law_121 : decode b_L_law 121 = .ok (.iadd, 1) := by decide +kernel
theorem d_L_law_122 : decode b_L_law 122 = .ok (.iaload, 1) := by decide +kernel
theorem d_L_law_123 : decode b_L_law 123 = .ok (.aload_n 0, 1) := by decide +kernel
theorem d_L_law_124 : decode b_L_law 124 = .ok (.iload 4, 2) := by decide +kernel
theorem d_L_law_126 : decode b_L_law 126 = .ok (.iconst 4, 1) := by decide +kernel
theorem d_L_law_127 : decode b_L_law 127 = .ok (.iadd, 1) := by decide +kernel
theorem d_L_law_128 : decode b_L_law 128 = .ok (.iaload, 1) := by decide +kernel
theorem d_L_law_129 : decode b_L_law 129 = .ok (.i2l, 1) := by decide +kernel
theorem d_L_law_130 : decode b_L_law 130 = .ok (.bipush 32, 2) := by decide +kernel
theorem d_L_law_132 : decode b_L_law 132 = .ok (.lshl, 1) := by decide +kernel
theorem d_L_law_133 : decode b_L_law 133 = .ok (.aload_n 0, 1) := by decide +kernel
theorem d_L_law_134 : decode b_L_law 134 = .ok (.iload 4, 2) := by decide +kernel
theorem d_L_law_136 : decode b_L_law 136 = .ok (.iconst 5, 1) := by decide +kernel
theorem d_L_law_137 : decode b_L_law 137 = .ok (.iadd, 1) := by decide +kernel
theorem d_L_law_138 : decode b_L_law 138 = .ok (.iaload, 1) := by decide +kernel
theorem d_L_law_139 : decode b_L_law 139 = .ok (.i2l, 1) := by decide +kernel
theorem d_L_law_140 : decode b_L_law 140 = .ok (.ldc2_w 37, 3) := by decide +kernel
theorem d_L_law_143 : decode b_L_law 143 = .ok (.land, 1) := by decide +kernel
theorem d_L_law_144 : decode b_L_law 144 = .ok (.lor, 1) := by decide +kernel
theorem d_L_law_145 : decode b_L_law 145 = .ok (.aload_n 0, 1) := by decide +kernel
theorem d_L_law_146 : decode b_L_law 146 = .ok (.iload 4, 2) := by decide +kernel
theorem d_L_law_148 : decode b_L_law 148 = .ok (.bipush 6, 2) := by decide +kernel
theorem d_L_law_150 : decode b_L_law 150 = .ok (.iadd, 1) := by decide +kernel
theorem d_L_law_151 : decode b_L_law 151 = .ok (.iaload, 1) := by decide +kernel
theorem d_L_law_152 : decode b_L_law 152 = .ok (.aload_n 3, 1) := by decide +kernel
theorem d_L_law_153 : decode b_L_law 153 = .ok (.invokestatic 39, 3) := by decide +kernel
theorem d_L_law_156 : decode b_L_law 156 = .ok (.istore 5, 2) := by decide +kernel
theorem d_L_law_158 : decode b_L_law 158 = .ok (.aload_n 2, 1) := by decide +kernel
theorem d_L_law_159 : decode b_L_law 159 = .ok (.aload_n 0, 1) := by decide +kernel
theorem d_L_law_160 : decode b_L_law 160 = .ok (.iload 4, 2) := by decide +kernel
theorem d_L_law_162 : decode b_L_law 162 = .ok (.iconst 1, 1) := by decide +kernel
theorem d_L_law_163 : decode b_L_law 163 = .ok (.iadd, 1) := by decide +kernel
theorem d_L_law_164 : decode b_L_law 164 = .ok (.iaload, 1) := by decide +kernel
theorem d_L_law_165 : decode b_L_law 165 = .ok (.aload_n 0, 1) := by decide +kernel
theorem d_L_law_166 : decode b_L_law 166 = .ok (.iload 4, 2) := by decide +kernel
theorem d_L_law_168 : decode b_L_law 168 = .ok (.iconst 2, 1) := by decide +kernel
theorem d_L_law_169 : decode b_L_law 169 = .ok (.iadd, 1) := by decide +kernel
theorem d_L_law_170 : decode b_L_law 170 = .ok (.iaload, 1) := by decide +kernel
theorem d_L_law_171 : decode b_L_law 171 = .ok (.aload_n 0, 1) := by decide +kernel
theorem d_L_law_172 : decode b_L_law 172 = .ok (.iload 4, 2) := by decide +kernel
theorem d_L_law_174 : decode b_L_law 174 = .ok (.iconst 3, 1) := by decide +kernel
theorem d_L_law_175 : decode b_L_law 175 = .ok (.iadd, 1) := by decide +kernel
theorem d_L_law_176 : decode b_L_law 176 = .ok (.iaload, 1) := by decide +kernel
theorem d_L_law_177 : decode b_L_law 177 = .ok (.aload_n 0, 1) := by decide +kernel
theorem d_L_law_178 : decode b_L_law 178 = .ok (.iload 4, 2) := by decide +kernel
theorem d_L_law_180 : decode b_L_law 180 = .ok (.iconst 4, 1) := by decide +kernel
theorem d_L_law_181 : decode b_L_law 181 = .ok (.iadd, 1) := by decide +kernel
theorem d_L_law_182 : decode b_L_law 182 = .ok (.iaload, 1) := by decide +kernel
theorem d_L_law_183 : decode b_L_law 183 = .ok (.i2l, 1) := by decide +kernel
theorem d_L_law_184 : decode b_L_law 184 = .ok (.bipush 32, 2) := by decide +kernel
theorem d_L_law_186 : decode b_L_law 186 = .ok (.lshl, 1) := by decide +kernel
theorem d_L_law_187 : decode b_L_law 187 = .ok (.aload_n 0, 1) := by decide +kernel
theorem d_L_law_188 : decode b_L_law 188 = .ok (.iload 4, 2) := by decide +kernel
theorem d_L_law_190 : decode b_L_law 190 = .ok (.iconst 5, 1) := by decide +kernel
theorem d_L_law_191 : decode b_L_law 191 = .ok (.iadd, 1) := by decide +kernel
theorem d_L_law_192 : decode b_L_law 192 = .ok (.iaload, 1) := by decide +kernel
theorem d_L_law_193 : decode b_L_law 193 = .ok (.i2l, 1) := by decide +kernel
theorem d_L_law_194 : decode b_L_law 194 = .ok (.ldc2_w 37, 3) := by decide +kernel
theorem d_L_law_197 : decode b_L_law 197 = .ok (.land, 1) := by decide +kernel
theorem d_L_law_198 : decode b_L_law 198 = .ok (.lor, 1) := by decide +kernel
theorem d_L_law_199 : decode b_L_law 199 = .ok (.aload_n 0, 1) := by decide +kernel
theorem d_L_law_200 : decode b_L_law 200 = .ok (.iload 4, 2) := by decide +kernel
theorem d_L_law_202 : decode b_L_law 202 = .ok (.bipush 6, 2) := by decide +kernel
theorem d_L_law_204 : decode b_L_law 204 = .ok (.iadd, 1) := by decide +kernel
theorem d_L_law_205 : decode b_L_law 205 = .ok (.iaload, 1) := by decide +kernel
theorem d_L_law_206 : decode b_L_law 206 = .ok (.invokevirtual 44, 3) := by decide +kernel
theorem d_L_law_209 : decode b_L_law 209 = .ok (.istore 6, 2) := by decide +kernel
theorem d_L_law_211 : decode b_L_law 211 = .ok (.aload_n 2, 1) := by decide +kernel
theorem d_L_law_212 : decode b_L_law 212 = .ok (.invokevirtual 45, 3) := by decide +kernel
theorem d_L_law_215 : decode b_L_law 215 = .ok (.iload 5, 2) := by decide +kernel
theorem d_L_law_217 : decode b_L_law 217 = .ok (.if_icmp .eq 5, 3) := by decide +kernel
theorem d_L_law_220 : decode b_L_law 220 = .ok (.iconst 0, 1) := by decide +kernel
theorem d_L_law_221 : decode b_L_law 221 = .ok (.ireturn, 1) := by decide +kernel
theorem d_L_law_222 : decode b_L_law 222 = .ok (.iload 5, 2) := by decide +kernel
theorem d_L_law_224 : decode b_L_law 224 = .ok (.ifCond .ne 15, 3) := by decide +kernel
theorem d_L_law_227 : decode b_L_law 227 = .ok (.aload_n 3, 1) := by decide +kernel
theorem d_L_law_228 : decode b_L_law 228 = .ok (.iconst 0, 1) := by decide +kernel
theorem d_L_law_229 : decode b_L_law 229 = .ok (.laload, 1) := by decide +kernel
theorem d_L_law_230 : decode b_L_law 230 = .ok (.iload 6, 2) := by decide +kernel
theorem d_L_law_232 : decode b_L_law 232 = .ok (.i2l, 1) := by decide +kernel
theorem d_L_law_233 : decode b_L_law 233 = .ok (.lcmp, 1) := by decide +kernel
theorem d_L_law_234 : decode b_L_law 234 = .ok (.ifCond .eq 5, 3) := by decide +kernel
theorem d_L_law_237 : decode b_L_law 237 = .ok (.iconst 0, 1) := by decide +kernel
theorem d_L_law_238 : decode b_L_law 238 = .ok (.ireturn, 1) := by decide +kernel
theorem d_L_law_239 : decode b_L_law 239 = .ok (.goto 450, 3) := by decide +kernel
theorem d_L_law_242 : decode b_L_law 242 = .ok (.aload_n 1, 1) := by decide +kernel
theorem d_L_law_243 : decode b_L_law 243 = .ok (.aload_n 0, 1) := by decide +kernel
theorem d_L_law_244 : decode b_L_law 244 = .ok (.iload 4, 2) := by decide +kernel
theorem d_L_law_246 : decode b_L_law 246 = .ok (.iconst 1, 1) := by decide +kernel
theorem d_L_law_247 : decode b_L_law 247 = .ok (.iadd, 1) := by decide +kernel
theorem d_L_law_248 : decode b_L_law 248 = .ok (.iaload, 1) := by decide +kernel
theorem d_L_law_249 : decode b_L_law 249 = .ok (.aload_n 0, 1) := by decide +kernel
theorem d_L_law_250 : decode b_L_law 250 = .ok (.iload 4, 2) := by decide +kernel
theorem d_L_law_252 : decode b_L_law 252 = .ok (.iconst 2, 1) := by decide +kernel
theorem d_L_law_253 : decode b_L_law 253 = .ok (.iadd, 1) := by decide +kernel
theorem d_L_law_254 : decode b_L_law 254 = .ok (.iaload, 1) := by decide +kernel
theorem d_L_law_255 : decode b_L_law 255 = .ok (.aload_n 3, 1) := by decide +kernel
theorem d_L_law_256 : decode b_L_law 256 = .ok (.invokestatic 49, 3) := by decide +kernel
theorem d_L_law_259 : decode b_L_law 259 = .ok (.istore 5, 2) := by decide +kernel
theorem d_L_law_261 : decode b_L_law 261 = .ok (.aload_n 2, 1) := by decide +kernel
theorem d_L_law_262 : decode b_L_law 262 = .ok (.aload_n 0, 1) := by decide +kernel
theorem d_L_law_263 : decode b_L_law 263 = .ok (.iload 4, 2) := by decide +kernel
theorem d_L_law_265 : decode b_L_law 265 = .ok (.iconst 1, 1) := by decide +kernel
theorem d_L_law_266 : decode b_L_law 266 = .ok (.iadd, 1) := by decide +kernel
theorem d_L_law_267 : decode b_L_law 267 = .ok (.iaload, 1) := by decide +kernel
theorem d_L_law_268 : decode b_L_law 268 = .ok (.aload_n 0, 1) := by decide +kernel
theorem d_L_law_269 : decode b_L_law 269 = .ok (.iload 4, 2) := by decide +kernel
theorem d_L_law_271 : decode b_L_law 271 = .ok (.iconst 2, 1) := by decide +kernel
theorem d_L_law_272 : decode b_L_law 272 = .ok (.iadd, 1) := by decide +kernel
theorem d_L_law_273 : decode b_L_law 273 = .ok (.iaload, 1) := by decide +kernel
theorem d_L_law_274 : decode b_L_law 274 = .ok (.invokevirtual 52, 3) := by decide +kernel
theorem d_L_law_277 : decode b_L_law 277 = .ok (.istore 6, 2) := by decide +kernel
theorem d_L_law_279 : decode b_L_law 279 = .ok (.aload_n 2, 1) := by decide +kernel
theorem d_L_law_280 : decode b_L_law 280 = .ok (.invokevirtual 45, 3) := by decide +kernel
theorem d_L_law_283 : decode b_L_law 283 = .ok (.iload 5, 2) := by decide +kernel
theorem d_L_law_285 : decode b_L_law 285 = .ok (.if_icmp .eq 5, 3) := by decide +kernel
theorem d_L_law_288 : decode b_L_law 288 = .ok (.iconst 0, 1) := by decide +kernel
theorem d_L_law_289 : decode b_L_law 289 = .ok (.ireturn, 1) := by decide +kernel
theorem d_L_law_290 : decode b_L_law 290 = .ok (.iload 5, 2) := by decide +kernel
theorem d_L_law_292 : decode b_L_law 292 = .ok (.ifCond .ne 15, 3) := by decide +kernel
theorem d_L_law_295 : decode b_L_law 295 = .ok (.aload_n 3, 1) := by decide +kernel
theorem d_L_law_296 : decode b_L_law 296 = .ok (.iconst 0, 1) := by decide +kernel
theorem d_L_law_297 : decode b_L_law 297 = .ok (.laload, 1) := by decide +kernel
theorem d_L_law_298 : decode b_L_law 298 = .ok (.iload 6, 2) := by decide +kernel
theorem d_L_law_300 : decode b_L_law 300 = .ok (.i2l, 1) := by decide +kernel
theorem d_L_law_301 : decode b_L_law 301 = .ok (.lcmp, 1) := by decide +kernel
theorem d_L_law_302 : decode b_L_law 302 = .ok (.ifCond .eq 5, 3) := by decide +kernel
theorem d_L_law_305 : decode b_L_law 305 = .ok (.iconst 0, 1) := by decide +kernel
theorem d_L_law_306 : decode b_L_law 306 = .ok (.ireturn, 1) := by decide +kernel
theorem d_L_law_307 : decode b_L_law 307 = .ok (.goto 382, 3) := by decide +kernel
theorem d_L_law_310 : decode b_L_law 310 = .ok (.aload_n 1, 1) := by decide +kernel
theorem d_L_law_311 : decode b_L_law 311 = .ok (.aload_n 0, 1) := by decide +kernel
theorem d_L_law_312 : decode b_L_law 312 = .ok (.iload 4, 2) := by decide +kernel
theorem d_L_law_314 : decode b_L_law 314 = .ok (.iconst 1, 1) := by decide +kernel
theorem d_L_law_315 : decode b_L_law 315 = .ok (.iadd, 1) := by decide +kernel
theorem d_L_law_316 : decode b_L_law 316 = .ok (.iaload, 1) := by decide +kernel
theorem d_L_law_317 : decode b_L_law 317 = .ok (.invokevirtual 53, 3) := by decide +kernel
theorem d_L_law_320 : decode b_L_law 320 = .ok (.aload_n 2, 1) := by decide +kernel
theorem d_L_law_321 : decode b_L_law 321 = .ok (.aload_n 0, 1) := by decide +kernel
theorem d_L_law_322 : decode b_L_law 322 = .ok (.iload 4, 2) := by decide +kernel
theorem d_L_law_324 : decode b_L_law 324 = .ok (.iconst 1, 1) := by decide +kernel
theorem d_L_law_325 : decode b_L_law 325 = .ok (.iadd, 1) := by decide +kernel
theorem d_L_law_326 : decode b_L_law 326 = .ok (.iaload, 1) := by decide +kernel
theorem d_L_law_327 : decode b_L_law 327 = .ok (.invokevirtual 57, 3) := by decide +kernel
theorem d_L_law_330 : decode b_L_law 330 = .ok (.if_icmp .eq 359, 3) := by decide +kernel
theorem d_L_law_333 : decode b_L_law 333 = .ok (.iconst 0, 1) := by decide +kernel
theorem d_L_law_334 : decode b_L_law 334 = .ok (.ireturn, 1) := by decide +kernel
theorem d_L_law_335 : decode b_L_law 335 = .ok (.aload_n 1, 1) := by decide +kernel
theorem d_L_law_336 : decode b_L_law 336 = .ok (.aload_n 0, 1) := by decide +kernel
theorem d_L_law_337 : decode b_L_law 337 = .ok (.iload 4, 2) := by decide +kernel
theorem d_L_law_339 : decode b_L_law 339 = .ok (.iconst 1, 1) := by decide +kernel
theorem d_L_law_340 : decode b_L_law 340 = .ok (.iadd, 1) := by decide +kernel
theorem d_L_law_341 : decode b_L_law 341 = .ok (.iaload, 1) := by decide +kernel
theorem d_L_law_342 : decode b_L_law 342 = .ok (.aload_n 0, 1) := by decide +kernel
theorem d_L_law_343 : decode b_L_law 343 = .ok (.iload 4, 2) := by decide +kernel
theorem d_L_law_345 : decode b_L_law 345 = .ok (.iconst 2, 1) := by decide +kernel
theorem d_L_law_346 : decode b_L_law 346 = .ok (.iadd, 1) := by decide +kernel
theorem d_L_law_347 : decode b_L_law 347 = .ok (.iaload, 1) := by decide +kernel
theorem d_L_law_348 : decode b_L_law 348 = .ok (.aload_n 3, 1) := by decide +kernel
theorem d_L_law_349 : decode b_L_law 349 = .ok (.invokestatic 58, 3) := by decide +kernel
theorem d_L_law_352 : decode b_L_law 352 = .ok (.istore 5, 2) := by decide +kernel
theorem d_L_law_354 : decode b_L_law 354 = .ok (.aload_n 2, 1) := by decide +kernel
theorem d_L_law_355 : decode b_L_law 355 = .ok (.aload_n 0, 1) := by decide +kernel
theorem d_L_law_356 : decode b_L_law 356 = .ok (.iload 4, 2) := by decide +kernel
theorem d_L_law_358 : decode b_L_law 358 = .ok (.iconst 1, 1) := by decide +kernel
theorem d_L_law_359 : decode b_L_law 359 = .ok (.iadd, 1) := by decide +kernel
theorem d_L_law_360 : decode b_L_law 360 = .ok (.iaload, 1) := by decide +kernel
theorem d_L_law_361 : decode b_L_law 361 = .ok (.aload_n 0, 1) := by decide +kernel
theorem d_L_law_362 : decode b_L_law 362 = .ok (.iload 4, 2) := by decide +kernel
theorem d_L_law_364 : decode b_L_law 364 = .ok (.iconst 2, 1) := by decide +kernel
theorem d_L_law_365 : decode b_L_law 365 = .ok (.iadd, 1) := by decide +kernel
theorem d_L_law_366 : decode b_L_law 366 = .ok (.iaload, 1) := by decide +kernel
theorem d_L_law_367 : decode b_L_law 367 = .ok (.invokevirtual 60, 3) := by decide +kernel
theorem d_L_law_370 : decode b_L_law 370 = .ok (.istore 6, 2) := by decide +kernel
theorem d_L_law_372 : decode b_L_law 372 = .ok (.aload_n 2, 1) := by decide +kernel
theorem d_L_law_373 : decode b_L_law 373 = .ok (.invokevirtual 45, 3) := by decide +kernel
theorem d_L_law_376 : decode b_L_law 376 = .ok (.iload 5, 2) := by decide +kernel
theorem d_L_law_378 : decode b_L_law 378 = .ok (.if_icmp .eq 5, 3) := by decide +kernel
theorem d_L_law_381 : decode b_L_law 381 = .ok (.iconst 0, 1) := by decide +kernel
theorem d_L_law_382 : decode b_L_law 382 = .ok (.ireturn, 1) := by decide +kernel
theorem d_L_law_383 : decode b_L_law 383 = .ok (.iload 5, 2) := by decide +kernel
theorem d_L_law_385 : decode b_L_law 385 = .ok (.ifCond .ne 15, 3) := by decide +kernel
theorem d_L_law_388 : decode b_L_law 388 = .ok (.aload_n 3, 1) := by decide +kernel
theorem d_L_law_389 : decode b_L_law 389 = .ok (.iconst 0, 1) := by decide +kernel
theorem d_L_law_390 : decode b_L_law 390 = .ok (.laload, 1) := by decide +kernel
theorem d_L_law_391 : decode b_L_law 391 = .ok (.iload 6, 2) := by decide +kernel
theorem d_L_law_393 : decode b_L_law 393 = .ok (.i2l, 1) := by decide +kernel
theorem d_L_law_394 : decode b_L_law 394 = .ok (.lcmp, 1) := by decide +kernel
theorem d_L_law_395 : decode b_L_law 395 = .ok (.ifCond .eq 5, 3) := by decide +kernel
theorem d_L_law_398 : decode b_L_law 398 = .ok (.iconst 0, 1) := by decide +kernel
theorem d_L_law_399 : decode b_L_law 399 = .ok (.ireturn, 1) := by decide +kernel
theorem d_L_law_400 : decode b_L_law 400 = .ok (.goto 289, 3) := by decide +kernel
theorem d_L_law_403 : decode b_L_law 403 = .ok (.aload_n 1, 1) := by decide +kernel
theorem d_L_law_404 : decode b_L_law 404 = .ok (.aload_n 0, 1) := by decide +kernel
theorem d_L_law_405 : decode b_L_law 405 = .ok (.iload 4, 2) := by decide +kernel
theorem d_L_law_407 : decode b_L_law 407 = .ok (.iconst 1, 1) := by decide +kernel
theorem d_L_law_408 : decode b_L_law 408 = .ok (.iadd, 1) := by decide +kernel
theorem d_L_law_409 : decode b_L_law 409 = .ok (.iaload, 1) := by decide +kernel
theorem d_L_law_410 : decode b_L_law 410 = .ok (.aload_n 3, 1) := by decide +kernel
theorem d_L_law_411 : decode b_L_law 411 = .ok (.invokestatic 61, 3) := by decide +kernel
theorem d_L_law_414 : decode b_L_law 414 = .ok (.istore 5, 2) := by decide +kernel
theorem d_L_law_416 : decode b_L_law 416 = .ok (.aload_n 2, 1) := by decide +kernel
theorem d_L_law_417 : decode b_L_law 417 = .ok (.aload_n 0, 1) := by decide +kernel
theorem d_L_law_418 : decode b_L_law 418 = .ok (.iload 4, 2) := by decide +kernel
theorem d_L_law_420 : decode b_L_law 420 = .ok (.iconst 1, 1) := by decide +kernel
theorem d_L_law_421 : decode b_L_law 421 = .ok (.iadd, 1) := by decide +kernel
theorem d_L_law_422 : decode b_L_law 422 = .ok (.iaload, 1) := by decide +kernel
theorem d_L_law_423 : decode b_L_law 423 = .ok (.invokevirtual 64, 3) := by decide +kernel
theorem d_L_law_426 : decode b_L_law 426 = .ok (.istore 6, 2) := by decide +kernel
theorem d_L_law_428 : decode b_L_law 428 = .ok (.aload_n 2, 1) := by decide +kernel
theorem d_L_law_429 : decode b_L_law 429 = .ok (.invokevirtual 45, 3) := by decide +kernel
theorem d_L_law_432 : decode b_L_law 432 = .ok (.iload 5, 2) := by decide +kernel
theorem d_L_law_434 : decode b_L_law 434 = .ok (.if_icmp .eq 5, 3) := by decide +kernel
theorem d_L_law_437 : decode b_L_law 437 = .ok (.iconst 0, 1) := by decide +kernel
theorem d_L_law_438 : decode b_L_law 438 = .ok (.ireturn, 1) := by decide +kernel
theorem d_L_law_439 : decode b_L_law 439 = .ok (.iload 5, 2) := by decide +kernel
theorem d_L_law_441 : decode b_L_law 441 = .ok (.ifCond .ne 15, 3) := by decide +kernel
theorem d_L_law_444 : decode b_L_law 444 = .ok (.aload_n 3, 1) := by decide +kernel
theorem d_L_law_445 : decode b_L_law 445 = .ok (.iconst 0, 1) := by decide +kernel
theorem d_L_law_446 : decode b_L_law 446 = .ok (.laload, 1) := by decide +kernel
theorem d_L_law_447 : decode b_L_law 447 = .ok (.iload 6, 2) := by decide +kernel
theorem d_L_law_449 : decode b_L_law 449 = .ok (.i2l, 1) := by decide +kernel
theorem d_L_law_450 : decode b_L_law 450 = .ok (.lcmp, 1) := by decide +kernel
theorem d_L_law_451 : decode b_L_law 451 = .ok (.ifCond .eq 5, 3) := by decide +kernel
theorem d_L_law_454 : decode b_L_law 454 = .ok (.iconst 0, 1) := by decide +kernel
theorem d_L_law_455 : decode b_L_law 455 = .ok (.ireturn, 1) := by decide +kernel
theorem d_L_law_456 : decode b_L_law 456 = .ok (.goto 233, 3) := by decide +kernel
theorem d_L_law_459 : decode b_L_law 459 = .ok (.aload_n 1, 1) := by decide +kernel
theorem d_L_law_460 : decode b_L_law 460 = .ok (.aload_n 0, 1) := by decide +kernel
theorem d_L_law_461 : decode b_L_law 461 = .ok (.iload 4, 2) := by decide +kernel
theorem d_L_law_463 : decode b_L_law 463 = .ok (.iconst 1, 1) := by decide +kernel
theorem d_L_law_464 : decode b_L_law 464 = .ok (.iadd, 1) := by decide +kernel
theorem d_L_law_465 : decode b_L_law 465 = .ok (.iaload, 1) := by decide +kernel
theorem d_L_law_466 : decode b_L_law 466 = .ok (.invokevirtual 65, 3) := by decide +kernel
theorem d_L_law_469 : decode b_L_law 469 = .ok (.aload_n 2, 1) := by decide +kernel
theorem d_L_law_470 : decode b_L_law 470 = .ok (.aload_n 0, 1) := by decide +kernel
theorem d_L_law_471 : decode b_L_law 471 = .ok (.iload 4, 2) := by decide +kernel
theorem d_L_law_473 : decode b_L_law 473 = .ok (.iconst 1, 1) := by decide +kernel
theorem d_L_law_474 : decode b_L_law 474 = .ok (.iadd, 1) := by decide +kernel
theorem d_L_law_475 : decode b_L_law 475 = .ok (.iaload, 1) := by decide +kernel
theorem d_L_law_476 : decode b_L_law 476 = .ok (.invokevirtual 68, 3) := by decide +kernel
theorem d_L_law_479 : decode b_L_law 479 = .ok (.if_icmp .eq 210, 3) := by decide +kernel
theorem d_L_law_482 : decode b_L_law 482 = .ok (.iconst 0, 1) := by decide +kernel
theorem d_L_law_483 : decode b_L_law 483 = .ok (.ireturn, 1) := by decide +kernel
theorem d_L_law_484 : decode b_L_law 484 = .ok (.aload_n 1, 1) := by decide +kernel
theorem d_L_law_485 : decode b_L_law 485 = .ok (.aload_n 0, 1) := by decide +kernel
theorem d_L_law_486 : decode b_L_law 486 = .ok (.iload 4, 2) := by decide +kernel
theorem d_L_law_488 : decode b_L_law 488 = .ok (.iconst 1, 1) := by decide +kernel
theorem d_L_law_489 : decode b_L_law 489 = .ok (.iadd, 1) := by decide +kernel
theorem d_L_law_490 : decode b_L_law 490 = .ok (.iaload, 1) := by decide +kernel
theorem d_L_law_491 : decode b_L_law 491 = .ok (.invokevirtual 69, 3) := by decide +kernel
theorem d_L_law_494 : decode b_L_law 494 = .ok (.aload_n 2, 1) := by decide +kernel
theorem d_L_law_495 : decode b_L_law 495 = .ok (.aload_n 0, 1) := by decide +kernel
theorem d_L_law_496 : decode b_L_law 496 = .ok (.iload 4, 2) := by decide +kernel
theorem d_L_law_498 : decode b_L_law 498 = .ok (.iconst 1, 1) := by decide +kernel
theorem d_L_law_499 : decode b_L_law 499 = .ok (.iadd, 1) := by decide +kernel
theorem d_L_law_500 : decode b_L_law 500 = .ok (.iaload, 1) := by decide +kernel
theorem d_L_law_501 : decode b_L_law 501 = .ok (.invokevirtual 72, 3) := by decide +kernel
theorem d_L_law_504 : decode b_L_law 504 = .ok (.if_icmp .eq 185, 3) := by decide +kernel
theorem d_L_law_507 : decode b_L_law 507 = .ok (.iconst 0, 1) := by decide +kernel
theorem d_L_law_508 : decode b_L_law 508 = .ok (.ireturn, 1) := by decide +kernel
theorem d_L_law_509 : decode b_L_law 509 = .ok (.aload_n 1, 1) := by decide +kernel
theorem d_L_law_510 : decode b_L_law 510 = .ok (.aload_n 0, 1) := by decide +kernel
theorem d_L_law_511 : decode b_L_law 511 = .ok (.iload 4, 2) := by decide +kernel
theorem d_L_law_513 : decode b_L_law 513 = .ok (.iconst 1, 1) := by decide +kernel
theorem d_L_law_514 : decode b_L_law 514 = .ok (.iadd, 1) := by decide +kernel
theorem d_L_law_515 : decode b_L_law 515 = .ok (.iaload, 1) := by decide +kernel
theorem d_L_law_516 : decode b_L_law 516 = .ok (.aload_n 0, 1) := by decide +kernel
theorem d_L_law_517 : decode b_L_law 517 = .ok (.iload 4, 2) := by decide +kernel
theorem d_L_law_519 : decode b_L_law 519 = .ok (.iconst 2, 1) := by decide +kernel
theorem d_L_law_520 : decode b_L_law 520 = .ok (.iadd, 1) := by decide +kernel
theorem d_L_law_521 : decode b_L_law 521 = .ok (.iaload, 1) := by decide +kernel
theorem d_L_law_522 : decode b_L_law 522 = .ok (.aload_n 0, 1) := by decide +kernel
theorem d_L_law_523 : decode b_L_law 523 = .ok (.iload 4, 2) := by decide +kernel
theorem d_L_law_525 : decode b_L_law 525 = .ok (.iconst 3, 1) := by decide +kernel
theorem d_L_law_526 : decode b_L_law 526 = .ok (.iadd, 1) := by decide +kernel
theorem d_L_law_527 : decode b_L_law 527 = .ok (.iaload, 1) := by decide +kernel
theorem d_L_law_528 : decode b_L_law 528 = .ok (.invokevirtual 73, 3) := by decide +kernel
theorem d_L_law_531 : decode b_L_law 531 = .ok (.aload_n 2, 1) := by decide +kernel
theorem d_L_law_532 : decode b_L_law 532 = .ok (.aload_n 0, 1) := by decide +kernel
theorem d_L_law_533 : decode b_L_law 533 = .ok (.iload 4, 2) := by decide +kernel
theorem d_L_law_535 : decode b_L_law 535 = .ok (.iconst 1, 1) := by decide +kernel
theorem d_L_law_536 : decode b_L_law 536 = .ok (.iadd, 1) := by decide +kernel
theorem d_L_law_537 : decode b_L_law 537 = .ok (.iaload, 1) := by decide +kernel
theorem d_L_law_538 : decode b_L_law 538 = .ok (.aload_n 0, 1) := by decide +kernel
theorem d_L_law_539 : decode b_L_law 539 = .ok (.iload 4, 2) := by decide +kernel
theorem d_L_law_541 : decode b_L_law 541 = .ok (.iconst 2, 1) := by decide +kernel
theorem d_L_law_542 : decode b_L_law 542 = .ok (.iadd, 1) := by decide +kernel
theorem d_L_law_543 : decode b_L_law 543 = .ok (.iaload, 1) := by decide +kernel
theorem d_L_law_544 : decode b_L_law 544 = .ok (.aload_n 0, 1) := by decide +kernel
theorem d_L_law_545 : decode b_L_law 545 = .ok (.iload 4, 2) := by decide +kernel
theorem d_L_law_547 : decode b_L_law 547 = .ok (.iconst 3, 1) := by decide +kernel
theorem d_L_law_548 : decode b_L_law 548 = .ok (.iadd, 1) := by decide +kernel
theorem d_L_law_549 : decode b_L_law 549 = .ok (.iaload, 1) := by decide +kernel
theorem d_L_law_550 : decode b_L_law 550 = .ok (.invokevirtual 77, 3) := by decide +kernel
theorem d_L_law_553 : decode b_L_law 553 = .ok (.if_icmp .eq 136, 3) := by decide +kernel
theorem d_L_law_556 : decode b_L_law 556 = .ok (.iconst 0, 1) := by decide +kernel
theorem d_L_law_557 : decode b_L_law 557 = .ok (.ireturn, 1) := by decide +kernel
theorem d_L_law_558 : decode b_L_law 558 = .ok (.aload_n 1, 1) := by decide +kernel
theorem d_L_law_559 : decode b_L_law 559 = .ok (.aload_n 0, 1) := by decide +kernel
theorem d_L_law_560 : decode b_L_law 560 = .ok (.iload 4, 2) := by decide +kernel
theorem d_L_law_562 : decode b_L_law 562 = .ok (.iconst 1, 1) := by decide +kernel
theorem d_L_law_563 : decode b_L_law 563 = .ok (.iadd, 1) := by decide +kernel
theorem d_L_law_564 : decode b_L_law 564 = .ok (.iaload, 1) := by decide +kernel
theorem d_L_law_565 : decode b_L_law 565 = .ok (.aload_n 0, 1) := by decide +kernel
theorem d_L_law_566 : decode b_L_law 566 = .ok (.iload 4, 2) := by decide +kernel
theorem d_L_law_568 : decode b_L_law 568 = .ok (.iconst 2, 1) := by decide +kernel
theorem d_L_law_569 : decode b_L_law 569 = .ok (.iadd, 1) := by decide +kernel
theorem d_L_law_570 : decode b_L_law 570 = .ok (.iaload, 1) := by decide +kernel
theorem d_L_law_571 : decode b_L_law 571 = .ok (.aload_n 3, 1) := by decide +kernel
theorem d_L_law_572 : decode b_L_law 572 = .ok (.invokestatic 78, 3) := by decide +kernel
theorem d_L_law_575 : decode b_L_law 575 = .ok (.istore 5, 2) := by decide +kernel
theorem d_L_law_577 : decode b_L_law 577 = .ok (.aload_n 2, 1) := by decide +kernel
theorem d_L_law_578 : decode b_L_law 578 = .ok (.aload_n 0, 1) := by decide +kernel
theorem d_L_law_579 : decode b_L_law 579 = .ok (.iload 4, 2) := by decide +kernel
theorem d_L_law_581 : decode b_L_law 581 = .ok (.iconst 1, 1) := by decide +kernel
theorem d_L_law_582 : decode b_L_law 582 = .ok (.iadd, 1) := by decide +kernel
theorem d_L_law_583 : decode b_L_law 583 = .ok (.iaload, 1) := by decide +kernel
theorem d_L_law_584 : decode b_L_law 584 = .ok (.aload_n 0, 1) := by decide +kernel
theorem d_L_law_585 : decode b_L_law 585 = .ok (.iload 4, 2) := by decide +kernel
theorem d_L_law_587 : decode b_L_law 587 = .ok (.iconst 2, 1) := by decide +kernel
theorem d_L_law_588 : decode b_L_law 588 = .ok (.iadd, 1) := by decide +kernel
theorem d_L_law_589 : decode b_L_law 589 = .ok (.iaload, 1) := by decide +kernel
theorem d_L_law_590 : decode b_L_law 590 = .ok (.invokevirtual 80, 3) := by decide +kernel
theorem d_L_law_593 : decode b_L_law 593 = .ok (.istore 6, 2) := by decide +kernel
theorem d_L_law_595 : decode b_L_law 595 = .ok (.aload_n 2, 1) := by decide +kernel
theorem d_L_law_596 : decode b_L_law 596 = .ok (.invokevirtual 45, 3) := by decide +kernel
theorem d_L_law_599 : decode b_L_law 599 = .ok (.iload 5, 2) := by decide +kernel
theorem d_L_law_601 : decode b_L_law 601 = .ok (.if_icmp .eq 5, 3) := by decide +kernel
theorem d_L_law_604 : decode b_L_law 604 = .ok (.iconst 0, 1) := by decide +kernel
theorem d_L_law_605 : decode b_L_law 605 = .ok (.ireturn, 1) := by decide +kernel
theorem d_L_law_606 : decode b_L_law 606 = .ok (.iload 5, 2) := by decide +kernel
theorem d_L_law_608 : decode b_L_law 608 = .ok (.ifCond .ne 15, 3) := by decide +kernel
theorem d_L_law_611 : decode b_L_law 611 = .ok (.aload_n 3, 1) := by decide +kernel
theorem d_L_law_612 : decode b_L_law 612 = .ok (.iconst 0, 1) := by decide +kernel
theorem d_L_law_613 : decode b_L_law 613 = .ok (.laload, 1) := by decide +kernel
theorem d_L_law_614 : decode b_L_law 614 = .ok (.iload 6, 2) := by decide +kernel
theorem d_L_law_616 : decode b_L_law 616 = .ok (.i2l, 1) := by decide +kernel
theorem d_L_law_617 : decode b_L_law 617 = .ok (.lcmp, 1) := by decide +kernel
theorem d_L_law_618 : decode b_L_law 618 = .ok (.ifCond .eq 5, 3) := by decide +kernel
theorem d_L_law_621 : decode b_L_law 621 = .ok (.iconst 0, 1) := by decide +kernel
theorem d_L_law_622 : decode b_L_law 622 = .ok (.ireturn, 1) := by decide +kernel
theorem d_L_law_623 : decode b_L_law 623 = .ok (.goto 66, 3) := by decide +kernel
theorem d_L_law_626 : decode b_L_law 626 = .ok (.aload_n 1, 1) := by decide +kernel
theorem d_L_law_627 : decode b_L_law 627 = .ok (.aload_n 0, 1) := by decide +kernel
theorem d_L_law_628 : decode b_L_law 628 = .ok (.iload 4, 2) := by decide +kernel
theorem d_L_law_630 : decode b_L_law 630 = .ok (.iconst 1, 1) := by decide +kernel
theorem d_L_law_631 : decode b_L_law 631 = .ok (.iadd, 1) := by decide +kernel
theorem d_L_law_632 : decode b_L_law 632 = .ok (.iaload, 1) := by decide +kernel
theorem d_L_law_633 : decode b_L_law 633 = .ok (.invokevirtual 81, 3) := by decide +kernel
theorem d_L_law_636 : decode b_L_law 636 = .ok (.aload_n 2, 1) := by decide +kernel
theorem d_L_law_637 : decode b_L_law 637 = .ok (.aload_n 0, 1) := by decide +kernel
theorem d_L_law_638 : decode b_L_law 638 = .ok (.iload 4, 2) := by decide +kernel
theorem d_L_law_640 : decode b_L_law 640 = .ok (.iconst 1, 1) := by decide +kernel
theorem d_L_law_641 : decode b_L_law 641 = .ok (.iadd, 1) := by decide +kernel
theorem d_L_law_642 : decode b_L_law 642 = .ok (.iaload, 1) := by decide +kernel
theorem d_L_law_643 : decode b_L_law 643 = .ok (.invokevirtual 84, 3) := by decide +kernel
theorem d_L_law_646 : decode b_L_law 646 = .ok (.if_icmp .eq 43, 3) := by decide +kernel
theorem d_L_law_649 : decode b_L_law 649 = .ok (.iconst 0, 1) := by decide +kernel
theorem d_L_law_650 : decode b_L_law 650 = .ok (.ireturn, 1) := by decide +kernel
theorem d_L_law_651 : decode b_L_law 651 = .ok (.aload_n 1, 1) := by decide +kernel
theorem d_L_law_652 : decode b_L_law 652 = .ok (.invokevirtual 85, 3) := by decide +kernel
theorem d_L_law_655 : decode b_L_law 655 = .ok (.aload_n 2, 1) := by decide +kernel
theorem d_L_law_656 : decode b_L_law 656 = .ok (.invokevirtual 88, 3) := by decide +kernel
theorem d_L_law_659 : decode b_L_law 659 = .ok (.if_icmp .eq 30, 3) := by decide +kernel
theorem d_L_law_662 : decode b_L_law 662 = .ok (.iconst 0, 1) := by decide +kernel
theorem d_L_law_663 : decode b_L_law 663 = .ok (.ireturn, 1) := by decide +kernel
theorem d_L_law_664 : decode b_L_law 664 = .ok (.aload_n 1, 1) := by decide +kernel
theorem d_L_law_665 : decode b_L_law 665 = .ok (.aload_n 0, 1) := by decide +kernel
theorem d_L_law_666 : decode b_L_law 666 = .ok (.iload 4, 2) := by decide +kernel
theorem d_L_law_668 : decode b_L_law 668 = .ok (.iconst 1, 1) := by decide +kernel
theorem d_L_law_669 : decode b_L_law 669 = .ok (.iadd, 1) := by decide +kernel
theorem d_L_law_670 : decode b_L_law 670 = .ok (.iaload, 1) := by decide +kernel
theorem d_L_law_671 : decode b_L_law 671 = .ok (.invokevirtual 89, 3) := by decide +kernel
theorem d_L_law_674 : decode b_L_law 674 = .ok (.aload_n 2, 1) := by decide +kernel
theorem d_L_law_675 : decode b_L_law 675 = .ok (.aload_n 0, 1) := by decide +kernel
theorem d_L_law_676 : decode b_L_law 676 = .ok (.iload 4, 2) := by decide +kernel
theorem d_L_law_678 : decode b_L_law 678 = .ok (.iconst 1, 1) := by decide +kernel
theorem d_L_law_679 : decode b_L_law 679 = .ok (.iadd, 1) := by decide +kernel
theorem d_L_law_680 : decode b_L_law 680 = .ok (.iaload, 1) := by decide +kernel
theorem d_L_law_681 : decode b_L_law 681 = .ok (.invokevirtual 92, 3) := by decide +kernel
theorem d_L_law_684 : decode b_L_law 684 = .ok (.if_icmp .eq 5, 3) := by decide +kernel
theorem d_L_law_687 : decode b_L_law 687 = .ok (.iconst 0, 1) := by decide +kernel
theorem d_L_law_688 : decode b_L_law 688 = .ok (.ireturn, 1) := by decide +kernel
theorem d_L_law_689 : decode b_L_law 689 = .ok (.iinc 4 7, 3) := by decide +kernel
theorem d_L_law_692 : decode b_L_law 692 = .ok (.goto (-669), 3) := by decide +kernel
theorem d_L_law_695 : decode b_L_law 695 = .ok (.iconst 1, 1) := by decide +kernel
theorem d_L_law_696 : decode b_L_law 696 = .ok (.ireturn, 1) := by decide +kernel
end
section
-- Z: a world as a list that isn't looked into: its cells by membership
def zin (ws : va_W) (a : Nat) (e : va_E) : Prop := ∃ k : Nat, ws[k]? = some (a, e)
theorem zin_fn {A : Nat → Prop} {ws : va_W} (hD : va_D A ws) {a : Nat} {e e' : va_E} (h : zin ws a e) (h' : zin ws a e') : e = e' := by
  obtain ⟨i, hi⟩ := h
  obtain ⟨j, hj⟩ := h'
  have hij := hD.1 i j _ _ hi hj rfl
  subst hij
  rw [hi] at hj
  exact (Prod.mk.inj (Option.some.inj hj)).2
theorem zin_ne {A : Nat → Prop} {ws : va_W} (hD : va_D A ws) {a b : Nat} {e e' : va_E} (h : zin ws a e) (h' : zin ws b e') (hne : e ≠ e') : a ≠ b := by
  intro hab
  subst hab
  exact hne (zin_fn hD h h')
theorem zin_A {A : Nat → Prop} {ws : va_W} (hD : va_D A ws) {a : Nat} {e : va_E} (h : zin ws a e) : A a := by
  obtain ⟨k, hk⟩ := h
  exact hD.2 k _ hk
theorem zin_lt {D : va_G} {cl : List vw_C} {ws : va_W} {H : Heap} (hP : va_P D cl ws H) {a : Nat} {e : va_E} (h : zin ws a e) : a < H.size := by
  obtain ⟨k, hk⟩ := h
  exact (hP k _ hk).lt
theorem z_P {D : va_G} {cl : List vw_C} {ws : va_W} {H : Heap} (hP : va_P D cl ws H) {a : Nat} {e : va_E} (h : zin ws a e) : va_P D cl [(a, e)] H := by
  obtain ⟨i, hi⟩ := h
  intro k q hk
  cases k with
  | zero =>
    cases hk
    exact hP i _ hi
  | succ k => simp at hk
/-- what a write at a changes -/
def zupd (ws : va_W) (a : Nat) (e : va_E) (ws' : va_W) : Prop := zin ws' a e ∧ ∀ (b : Nat) (f : va_E), b ≠ a → zin ws b f → zin ws' b f
theorem zupd_set {ws : va_W} {q a : Nat} {e0 e : va_E} (h : ws[q]? = some (a, e0)) : zupd ws a e (ws.set q (a, e)) := by
  have hl := (List.getElem?_eq_some_iff.mp h).1
  refine ⟨⟨q, List.getElem?_set_self hl⟩, fun b f hb hz => ?_⟩
  obtain ⟨k, hk⟩ := hz
  refine ⟨k, ?_⟩
  have hkq : q ≠ k := by
    intro z
    subst z
    rw [h] at hk
    exact hb (Prod.mk.inj (Option.some.inj hk)).1.symm
  rw [List.getElem?_set_ne hkq]
  exact hk
/-- what a new cell at a changes -/
def znew (ws : va_W) (a : Nat) (e : va_E) (ws' : va_W) : Prop := zin ws' a e ∧ ∀ (b : Nat) (f : va_E), zin ws b f → zin ws' b f
theorem znew_app {ws : va_W} {a : Nat} {e : va_E} : znew ws a e (ws ++ [(a, e)]) := by
  refine ⟨⟨ws.length, by simp⟩, fun b f hz => ?_⟩
  obtain ⟨k, hk⟩ := hz
  exact ⟨k, by rw [List.getElem?_append_left (List.getElem?_eq_some_iff.mp hk).1]; exact hk⟩
theorem zl_mem {l : List (Nat × Value)} {i : Nat} {v : Value} (h : l.lookup i = some v) : (i, v) ∈ l := by
  induction l with
  | nil => simp at h
  | cons q l ih =>
    obtain ⟨j, w⟩ := q
    rw [List.lookup_cons] at h
    by_cases hj : (i == j) = true
    · rw [hj] at h
      have e1 : i = j := by simpa using hj
      have e2 : w = v := by simpa using h
      subst e1 e2
      exact List.mem_cons_self
    · have hj' : (i == j) = false := by simpa using hj
      rw [hj'] at h
      exact List.mem_cons_of_mem _ (ih h)
/-- a local by its number -/
theorem zl {ls : Array Slot} {nL : Nat} {l : List (Nat × Value)} (h : lv_has ls nL l) {i : Nat} {v : Value} (hk : l.lookup i = some v) : ls[i]? = some (.val v) := h.2.2 (i, v) (zl_mem hk)
/-- booleans as ints -/
def zb (b : Bool) : Int32 := if b = true then 1 else 0
theorem zb_t {b : Bool} (h : ¬ zb b = 0) : b = true := by
  cases b
  · exact absurd rfl h
  · rfl
theorem zb_f {b : Bool} (h : zb b = 0) : b = false := by
  cases b
  · rfl
  · exact absurd h (by decide)
section ZC
variable {p : Program} {l : Launch} {e : Env} {R : Room} {s : State} {m : MethodId} {args : Array Value} {below : List Frame} {meth : Method} {c : Code} {H : Heap} {locs : List Loc} {cells slots : Nat} {Q : State → Prop}
variable {cc : ByteArray} {pc : Nat} {ls : Array Slot} {rest st0 : List Value} {D : va_G} {cl : List vw_C} {A : Nat → Prop} {a : Nat} {tys : List (ClassId × FieldType)} {ws : va_W} {H0 : Heap}
/-- what a state's tables say: the classes, and the three links of nest mates -/
def zN (U : State) : Prop := va_Nw (.methodLinkNest "LoanRounds" 35 y_Q_init "LoanRounds") U ∧ va_Nw (.methodLinkNest "LoanRounds" 36 y_G_init "LoanRounds") U ∧ va_Nw (.methodLinkNest "LoanRounds$Queue" 34 y_X_within "LoanRounds") U
def ZK (D : va_G) (cl : List vw_C) (tys : List (ClassId × FieldType)) (U : State) : Prop := va_K D cl tys U ∧ zN U
theorem ZK.moved {U : State} (hW : s.WarmedH U.vm) (h : ZK D cl tys s) : ZK D cl tys U := ⟨va_K.moved hW.alike h.1, va_Nw.warmM hW h.2.1, va_Nw.warmM hW h.2.2.1, va_Nw.warmM hW h.2.2.2⟩
/-- a contract that reads alone: the heap H is given, and stays -/
def zPc (av : List Value) (H : Heap) (D : va_G) (cl : List vw_C) (tys : List (ClassId × FieldType)) : Array Value → State → Prop := va_Pc av (fun U => U.heap = H ∧ ZK D cl tys U)
def zQi (v : Int32) (H : Heap) : Array Value → State → Outcome → State → Prop := va_Qi (fun r (_ : Unit) => r = v) (fun _ t => t.heap = H) (fun _ => False)
def zQl (v : Int64) (H : Heap) : Array Value → State → Outcome → State → Prop := va_Ql (fun r (_ : Unit) => r = v) (fun _ t => t.heap = H) (fun _ => False)
def zQq (v : Option Nat) (H : Heap) : Array Value → State → Outcome → State → Prop := va_Qq (fun r (_ : Unit) => r = v) (fun _ t => t.heap = H) (fun _ => False)
def zQv (H : Heap) : Array Value → State → Outcome → State → Prop := va_Qv (fun (_ : Unit) => True) (fun _ t => t.heap = H) (fun _ => False)
theorem zPc_blind {av : List Value} : FrameBlind (zPc av H D cl tys) := fun a U g mk q => ⟨q.1, q.2.1, va_K.moved (u := U) (U := U.calling g mk a) (Vm.Alike.refl U.vm) q.2.2.1, va_Nw.same (U := U.calling g mk a) rfl rfl q.2.2.2.1, va_Nw.same (U := U.calling g mk a) rfl rfl q.2.2.2.2.1, va_Nw.same (U := U.calling g mk a) rfl rfl q.2.2.2.2.2⟩
theorem zPc_S {As : List Value} (hK : ZK D cl tys s) : PreS s H (zPc As H D cl tys) As := ⟨zPc_blind, fun U hU hW => ⟨rfl, hU, ZK.moved hW hK⟩⟩
theorem zPc_V {As : List Value} {b ci : Nat} {q : vw_C} {fs : List Value} (hK : ZK D cl tys s) (hP : va_P D cl ws H) (hc : cl[ci]? = some q) (hz : zin ws b (.inr (ci, fs))) : PreV s H q.1 b (zPc (.ref b :: As) H D cl tys) As :=
  ⟨zPc_blind, va_recv hK.1 (z_P hP hz) hc (q0 := 0) rfl, fun U hU hW => ⟨rfl, hU, ZK.moved hW hK⟩⟩
theorem z_calli {v : Int32} {av : Array Value} (hr : va_Run p l e R s m args below meth c H locs cells slots 0 0 (F0 m pc ls st0) rest (zQi v H av) (fun _ => False)) (hS : va_S A H0 H locs)
    (kk : ∀ locs1 : List Loc, va_S A H0 H locs1 → W p l e R s m args below meth c H locs1 cells slots Q (F0 m (pc + 3) ls (.int v :: rest))) : W p l e R s m args below meth c H locs cells slots Q (F0 m pc ls st0) := by
  refine va_calli hr hS (fun q _ h => h.elim) (fun q h => h.elim) (fun r u t H1 locs1 ht hvm hw hB _ _ hS1 => ?_)
  have e1 : H1 = H := ht.symm.trans hB
  subst e1
  have e2 : r = v := hw
  subst e2
  exact kk locs1 hS1
theorem z_calll {v : Int64} {av : Array Value} (hr : va_Run p l e R s m args below meth c H locs cells slots 0 0 (F0 m pc ls st0) rest (zQl v H av) (fun _ => False)) (hS : va_S A H0 H locs)
    (kk : ∀ locs1 : List Loc, va_S A H0 H locs1 → W p l e R s m args below meth c H locs1 cells slots Q (F0 m (pc + 3) ls (.long v :: rest))) : W p l e R s m args below meth c H locs cells slots Q (F0 m pc ls st0) := by
  refine va_calll hr hS (fun q _ h => h.elim) (fun q h => h.elim) (fun r u t H1 locs1 ht hvm hw hB _ _ hS1 => ?_)
  have e1 : H1 = H := ht.symm.trans hB
  subst e1
  have e2 : r = v := hw
  subst e2
  exact kk locs1 hS1
theorem z_callq {v : Option Nat} {av : Array Value} (hr : va_Run p l e R s m args below meth c H locs cells slots 0 0 (F0 m pc ls st0) rest (zQq v H av) (fun _ => False)) (hS : va_S A H0 H locs)
    (kk : ∀ locs1 : List Loc, va_S A H0 H locs1 → W p l e R s m args below meth c H locs1 cells slots Q (F0 m (pc + 3) ls (va_rf v :: rest))) : W p l e R s m args below meth c H locs cells slots Q (F0 m pc ls st0) := by
  refine va_callq hr hS (fun q _ h => h.elim) (fun q h => h.elim) (fun r u t H1 locs1 ht hvm hw hB _ _ hS1 => ?_)
  have e1 : H1 = H := ht.symm.trans hB
  subst e1
  have e2 : r = v := hw
  subst e2
  exact kk locs1 hS1
end ZC
-- Z2: contracts over one list of words TT; entries, ends, calls
def TT : List Cond := lw_tbl.filter goodWord
theorem tt_of {w : Cond} {i : Nat} (h : lw_tbl[i]? = some w) (hg : goodWord w = true) : w ∈ TT := List.mem_filter.mpr ⟨List.mem_of_getElem? h, hg⟩
theorem tt_good {w : Cond} (h : w ∈ TT) : (w.onTables && w.keeps) = true ∨ ∃ ty, w = .arrayClass ty := good_of_word (List.mem_filter.mp h).2
theorem tt_in {c1 : Cond} (h1 : c1 ∈ TT) : GoodIn TT (c1 :: TT) := by
  intro w hw
  have hw' : w ∈ TT := by
    rcases List.mem_cons.mp hw with rfl | h
    · exact h1
    · exact h
  exact ⟨hw', tt_good hw'⟩
theorem tt_V {c1 : Cond} {own C : String} {idx : Nat} {y : MethodName} (h1 : c1 ∈ TT) (hl : Cond.methodLink own idx y ∈ TT) (hi : Cond.instanceMethod y ∈ TT) (hs : Cond.selects C y y ∈ TT) (hn : Cond.initialized C ∈ TT) : GoodIn TT (wsV own idx C y (c1 :: TT)) := by
  intro w hw
  have hw' : w ∈ TT := by
    unfold wsV at hw
    rcases List.mem_append.mp hw with h | h
    · simp only [List.mem_cons, List.not_mem_nil, or_false] at h
      rcases h with rfl | rfl | rfl | rfl <;> assumption
    · rcases List.mem_cons.mp h with rfl | h
      · exact h1
      · exact h
  exact ⟨hw', tt_good hw'⟩
theorem tt_S {c1 : Cond} {own : String} {idx : Nat} {y : MethodName} (h1 : c1 ∈ TT) (hl : Cond.methodLink own idx y ∈ TT) (hs : Cond.static y ∈ TT) (hn : Cond.initialized y.cls ∈ TT) : GoodIn TT (va_wsS own idx y (c1 :: TT)) := by
  intro w hw
  have hw' : w ∈ TT := by
    unfold va_wsS at hw
    rcases List.mem_append.mp hw with h | h
    · simp only [List.mem_cons, List.not_mem_nil, or_false] at h
      rcases h with rfl | rfl | rfl <;> assumption
    · rcases List.mem_cons.mp h with rfl | h
      · exact h1
      · exact h
  exact ⟨hw', tt_good hw'⟩
/-- what a body knows -/
def ZX (p : Program) (s : State) (m : MethodId) (args : Array Value) (meth : Method) (c : Code) (own : String) (cc : ByteArray) (maxL : Nat) (ret : Option FieldType) : Prop :=
  p.tables.exec = Jvm.exec ∧ c.code = cc ∧ meth.sig.returnType = ret ∧ (∀ w ∈ TT, w.before args s = true) ∧ s.vm.findClass own = some m.cls ∧ meth.locks = false ∧ c.maxLocals = maxL
theorem z_body {l : Launch} {y : MethodName} {cc : ByteArray} {maxL : Nat} {ret : Option FieldType} {rm : Room} {av : List Value} {H : Heap} {D : va_G} {cl : List vw_C} {tys : List (ClassId × FieldType)} {Qc : Array Value → State → Outcome → State → Prop} {mc ms : Nat} {free : Addr → Prop}
    (hy : plainName y.cls = true) (hn : (lg_sl av).length ≤ maxL)
    (body : ∀ (p : Program) (e : Env) (s : State) (m : MethodId) (below : List Frame) (meth : Method) (c : Code) (ls : Array Slot), ZX p s m av.toArray meth c y.cls cc maxL ret → s.heap = H → ZK D cl tys s → lv_has ls maxL (lv_args 0 av) →
      W p l e rm s m av.toArray below meth c s.heap [] 0 0 (MQ below Qc av.toArray s mc ms free) (F0 m 0 ls [])) :
    Met l y (Cond.code y cc maxL ret :: TT) rm (zPc av H D cl tys) Qc mc ms free := by
  refine Met.ofW (cc := cc) (maxL := maxL) (ret := ret) hy rfl ?_
  intro p e s m args below meth c s₁ B hml hv
  obtain ⟨rfl, hH, hK⟩ := hv
  have hts := atoms_spec (ws := Cond.code y cc maxL ret :: TT) B.pre
  have hl := lv_entry av (n := maxL) hn
  rw [lg_entry_eq]
  exact body p e s m below meth c _ ⟨B.exec, B.bytes, B.returns, fun w h => hts w (List.mem_cons_of_mem _ h), findClass_of_methodNamed B.named, B.notSynchronized, hml⟩ hH hK hl
section ZE
variable {p : Program} {l : Launch} {e : Env} {R : Room} {s : State} {m : MethodId} {args : Array Value} {below : List Frame} {meth : Method} {c : Code} {H : Heap} {locs : List Loc} {cells slots : Nat} {Q : State → Prop}
variable {cc : ByteArray} {pc : Nat} {ls : Array Slot} {rest st0 : List Value} {D : va_G} {cl : List vw_C} {A : Nat → Prop} {a : Nat} {tys : List (ClassId × FieldType)} {ws : va_W} {H0 : Heap}
theorem z_iret {v v' : Int32} (hx : p.tables.exec = Jvm.exec) (hb : c.code = cc) (hr : meth.sig.returnType = some .int) (hlocks : meth.locks = false) (hS : va_S (fun _ => False) s.heap s.heap locs) (hv : v' = v) (hdg : decode cc pc = .ok (.ireturn, 1)) :
    W p l e R s m args below meth c s.heap locs cells slots (MQ below (zQi v s.heap) args s cells slots (fun _ => False)) (F0 m pc ls [.int v']) := by
  subst hv
  exact W.iret hx hb hr (fun t ht hW => ⟨⟨_, (), rfl, rfl, ht⟩, hS.F ht⟩) hS.2.2 hdg hlocks
theorem z_zret {v : Int32} {b : Bool} (hx : p.tables.exec = Jvm.exec) (hb : c.code = cc) (hr : meth.sig.returnType = some .boolean) (hlocks : meth.locks = false) (hS : va_S (fun _ => False) s.heap s.heap locs) (hv : v = zb b) (hdg : decode cc pc = .ok (.ireturn, 1)) :
    W p l e R s m args below meth c s.heap locs cells slots (MQ below (zQi (zb b) s.heap) args s cells slots (fun _ => False)) (F0 m pc ls [.int v]) := by
  subst hv
  exact W.zret hx hb hr (by cases b <;> rfl) (fun t ht hW => ⟨⟨_, (), rfl, rfl, ht⟩, hS.F ht⟩) hS.2.2 hdg hlocks
theorem z_qret {v o : Option Nat} {rt : FieldType} (hx : p.tables.exec = Jvm.exec) (hb : c.code = cc) (hr : meth.sig.returnType = some rt) (hrt : (∃ n, rt = .object n) ∨ ∃ t, rt = .array t) (hlocks : meth.locks = false) (hS : va_S (fun _ => False) s.heap s.heap locs) (hv : v = o) (hdg : decode cc pc = .ok (.areturn, 1)) :
    W p l e R s m args below meth c s.heap locs cells slots (MQ below (zQq o s.heap) args s cells slots (fun _ => False)) (F0 m pc ls [va_rf v]) := by
  subst hv
  exact W.aret hx hb hr hrt (va_rf_or v) (fun t ht hW => ⟨⟨_, (), rfl, rfl, ht⟩, hS.F ht⟩) hS.2.2 hdg hlocks
/-- the end of a contract that writes: a world R' speaks of, and nothing below B changed -/
def zR (D : va_G) (cl : List vw_C) (B : Nat) (vo : Option Value) (Rl : va_W → Prop) : Array Value → State → Outcome → State → Prop := fun _ st o t =>
  (∃ ws' : va_W, o = .returned vo ∧ Rl ws' ∧ va_P D cl ws' t.heap ∧ va_D (fun q => B ≤ q) ws') ∧ va_F (fun q => B ≤ q) st t
theorem z_call {vo : Option Value} {Rl : va_W → Prop} {B mc ms : Nat} {av : Array Value} (hr : va_Run p l e R s m args below meth c H locs cells slots mc ms (F0 m pc ls st0) rest (zR D cl B vo Rl av) (fun q => B ≤ q)) (hS : va_S (fun q => B ≤ q) H0 H locs)
    (kk : ∀ (ws' : va_W) (H1 : Heap) (locs1 : List Loc), Rl ws' → va_P D cl ws' H1 → va_D (fun q => B ≤ q) ws' → H.size ≤ H1.size → va_S (fun q => B ≤ q) H0 H1 locs1 → W p l e R s m args below meth c H1 locs1 (cells + mc) (slots + ms) Q (F0 m (pc + 3) ls (vo.toList ++ rest))) :
    W p l e R s m args below meth c H locs cells slots Q (F0 m pc ls st0) := by
  intro T hT X
  obtain ⟨v, st₀, t, T', L, h0, X', hL, e1, e2, ⟨⟨ws', hv, hR, hP, hD⟩, hz, hk⟩, st⟩ := hr T hT X
  cases hv
  rw [h0] at hz hk
  obtain ⟨t2, a1, b1⟩ := kk ws' T'.heap (locs ++ L) hR (by rw [e1]; exact hP) hD (by rw [e1]; exact hz)
    ⟨Nat.le_trans hS.1 (by rw [e1]; exact hz), fun q h1 h2 => by rw [e1, hk q (Nat.lt_of_lt_of_le h1 hS.1) h2]; exact hS.2.1 q h1 h2, fun q hq => by
      rcases List.mem_append.mp hq with h | h
      · exact hS.2.2 q h
      · exact hL q h⟩ T' rfl X'
  exact ⟨t2, st t2 a1, b1⟩
theorem z_vretR {Rl : va_W → Prop} {B : Nat} (hx : p.tables.exec = Jvm.exec) (hb : c.code = cc) (hr : meth.sig.returnType = none) (hlocks : meth.locks = false) (hP : va_P D cl ws H) (hD : va_D (fun q => B ≤ q) ws) (hS : va_S (fun q => B ≤ q) s.heap H locs) (hR : Rl ws) (hdg : decode cc pc = .ok (.return_, 1)) :
    W p l e R s m args below meth c H locs cells slots (MQ below (zR D cl B none Rl) args s cells slots (fun q => B ≤ q)) (F0 m pc ls []) :=
  W.vret hx hb hr (fun t ht hW => ⟨⟨ws, rfl, hR, by rw [ht]; exact hP, hD⟩, hS.F ht⟩) hS.2.2 hdg hlocks
theorem z_iretR {Rl : va_W → Prop} {B : Nat} {v v' : Int32} (hx : p.tables.exec = Jvm.exec) (hb : c.code = cc) (hr : meth.sig.returnType = some .int) (hlocks : meth.locks = false) (hP : va_P D cl ws H) (hD : va_D (fun q => B ≤ q) ws) (hS : va_S (fun q => B ≤ q) s.heap H locs) (hv : v' = v) (hR : Rl ws) (hdg : decode cc pc = .ok (.ireturn, 1)) :
    W p l e R s m args below meth c H locs cells slots (MQ below (zR D cl B (some (.int v)) Rl) args s cells slots (fun q => B ≤ q)) (F0 m pc ls [.int v']) := by
  subst hv
  exact W.iret hx hb hr (fun t ht hW => ⟨⟨ws, rfl, hR, by rw [ht]; exact hP, hD⟩, hS.F ht⟩) hS.2.2 hdg hlocks
theorem z_zretR {Rl : va_W → Prop} {B : Nat} {v : Int32} {b : Bool} (hx : p.tables.exec = Jvm.exec) (hb : c.code = cc) (hr : meth.sig.returnType = some .boolean) (hlocks : meth.locks = false) (hP : va_P D cl ws H) (hD : va_D (fun q => B ≤ q) ws) (hS : va_S (fun q => B ≤ q) s.heap H locs) (hv : v = zb b) (hR : Rl ws) (hdg : decode cc pc = .ok (.ireturn, 1)) :
    W p l e R s m args below meth c H locs cells slots (MQ below (zR D cl B (some (.int (zb b))) Rl) args s cells slots (fun q => B ≤ q)) (F0 m pc ls [.int v]) := by
  subst hv
  exact W.zret hx hb hr (by cases b <;> rfl) (fun t ht hW => ⟨⟨ws, rfl, hR, by rw [ht]; exact hP, hD⟩, hS.F ht⟩) hS.2.2 hdg hlocks
theorem z_get (hx : p.tables.exec = Jvm.exec) (hb : c.code = cc) {own ref C : String} {T : u_T} {N ci index : Nat} (hts : ∀ w ∈ TT, w.before args s = true) (hin : ∀ w ∈ u_ws C T N, w ∈ TT) (hown : s.vm.findClass own = some m.cls) (hK : va_K D cl tys s) (hP : va_P D cl ws H) {fs : List Value} (hz : zin ws a (.inr (ci, fs))) (hc : cl[ci]? = some (C, T, N)) (k : Nat) (hk : k < N) (hlink : Cond.fieldLink own index ref (T k).2.1 (T k).2.2.1 ∈ TT) (hsame : ∀ x, s.fieldFound? (T k).1 (T k).2.1 (T k).2.2.1 = some x → s.fieldFound? ref (T k).2.1 (T k).2.2.1 = some x) {v : Value} (hv : fs[k]? = some v) (hdg : decode cc pc = .ok (.getfield index, 3))
    (kk : W p l e R s m args below meth c H locs cells slots Q (F0 m (pc + 3) ls (v :: rest))) : W p l e R s m args below meth c H locs cells slots Q (F0 m pc ls (.ref a :: rest)) :=
  va_get hx hb hts hin hown hK (z_P hP hz) 0 rfl hc k hk (hts _ hlink) hsame hv hdg kk
theorem z_put (hx : p.tables.exec = Jvm.exec) (hb : c.code = cc) {own ref C : String} {T : u_T} {N ci index : Nat} (hts : ∀ w ∈ TT, w.before args s = true) (hin : ∀ w ∈ u_ws C T N, w ∈ TT) (ty0 : Nat → FieldType) (hty : ∀ k, k < N → parseFieldDescriptor (T k).2.2.1 = some (ty0 k)) (hnm : ∀ a, a < N → ∀ b, b < N → a ≠ b → (T a).2.1 ≠ (T b).2.1) (hown : s.vm.findClass own = some m.cls) (hK : va_K D cl tys s) (hP : va_P D cl ws H) (hD : va_D A ws) (hS : va_S A H0 H locs) {fs : List Value} (hz : zin ws a (.inr (ci, fs))) (hc : cl[ci]? = some (C, T, N)) (k : Nat) (hk : k < N) (hlink : Cond.fieldLink own index ref (T k).2.1 (T k).2.2.1 ∈ TT) (hsame : ∀ x, s.fieldFound? (T k).1 (T k).2.1 (T k).2.2.1 = some x → s.fieldFound? ref (T k).2.1 (T k).2.2.1 = some x) (hfin : (T k).2.2.2 = false) {v : Value} (hn : narrow (ty0 k) v = v) (hfit : fits (ty0 k) v = true) (hl : k < fs.length)
    (hdg : decode cc pc = .ok (.putfield index, 3)) (kk : ∀ (ws' : va_W) (H1 : Heap) (locs1 : List Loc), va_P D cl ws' H1 → va_D A ws' → va_S A H0 H1 locs1 → zupd ws a (.inr (ci, fs.set k v)) ws' → W p l e R s m args below meth c H1 locs1 cells slots Q (F0 m (pc + 3) ls rest)) : W p l e R s m args below meth c H locs cells slots Q (F0 m pc ls (v :: .ref a :: rest)) := by
  obtain ⟨q0, he⟩ := hz
  exact va_put hx hb hts hin ty0 hty hnm hown hK hP hD hS q0 he hc k hk (hts _ hlink) hsame hfin (hty k hk) hn hfit hl hdg (fun H1 locs1 h1 h2 h3 => kk _ H1 locs1 h1 h2 h3 (zupd_set he))
theorem z_putF (hx : p.tables.exec = Jvm.exec) (hb : c.code = cc) {own ref C : String} {T : u_T} {N ci index : Nat} (hts : ∀ w ∈ TT, w.before args s = true) (hin : ∀ w ∈ u_ws C T N, w ∈ TT) (ty0 : Nat → FieldType) (hty : ∀ k, k < N → parseFieldDescriptor (T k).2.2.1 = some (ty0 k)) (hnm : ∀ a, a < N → ∀ b, b < N → a ≠ b → (T a).2.1 ≠ (T b).2.1) (hown : s.vm.findClass own = some m.cls) (hK : va_K D cl tys s) (hP : va_P D cl ws H) (hD : va_D A ws) (hS : va_S A H0 H locs) {fs : List Value} (hz : zin ws a (.inr (ci, fs))) (hc : cl[ci]? = some (C, T, N)) (k : Nat) (hk : k < N) (hlink : Cond.fieldLink own index ref (T k).2.1 (T k).2.2.1 ∈ TT) (hsame : ∀ x, s.fieldFound? (T k).1 (T k).2.1 (T k).2.2.1 = some x → s.fieldFound? ref (T k).2.1 (T k).2.2.1 = some x) (hfin : (T k).2.2.2 = true) (hinit : meth.name = "<init>") (hdecl : (T k).1 = own) {v : Value} (hn : narrow (ty0 k) v = v) (hfit : fits (ty0 k) v = true) (hl : k < fs.length)
    (hdg : decode cc pc = .ok (.putfield index, 3)) (kk : ∀ (ws' : va_W) (H1 : Heap) (locs1 : List Loc), va_P D cl ws' H1 → va_D A ws' → va_S A H0 H1 locs1 → zupd ws a (.inr (ci, fs.set k v)) ws' → W p l e R s m args below meth c H1 locs1 cells slots Q (F0 m (pc + 3) ls rest)) : W p l e R s m args below meth c H locs cells slots Q (F0 m pc ls (v :: .ref a :: rest)) := by
  obtain ⟨q0, he⟩ := hz
  exact va_putF hx hb hts hin ty0 hty hnm hown hK hP hD hS q0 he hc k hk (hts _ hlink) hsame hfin hinit hdecl (hty k hk) hn hfit hl hdg (fun H1 locs1 h1 h2 h3 => kk _ H1 locs1 h1 h2 h3 (zupd_set he))
end ZE
-- Z3: arrays and new cells over a world that isn't looked into
section ZA
variable {p : Program} {l : Launch} {e : Env} {R : Room} {s : State} {m : MethodId} {args : Array Value} {below : List Frame} {meth : Method} {c : Code} {H : Heap} {locs : List Loc} {cells slots : Nat} {Q : State → Prop}
variable {cc : ByteArray} {pc : Nat} {ls : Array Slot} {rest st0 : List Value} {D : va_G} {cl : List vw_C} {A : Nat → Prop} {a : Nat} {tys : List (ClassId × FieldType)} {ws : va_W} {H0 : Heap}
theorem z_iald (hx : p.tables.exec = Jvm.exec) (hb : c.code = cc) (hK : va_K D cl tys s) (hP : va_P D cl ws H) (t0 : Nat) {cA : ClassId} {n : Nat} {f : Nat → Int32} (hz : zin ws a (.inl (cA, n, .inl f))) (ht : tys[t0]? = some (cA, .int)) {i : Int32} (j : Nat) (hj : i = nI j) (hn : j < n) (hN : n < 2 ^ 31) (hdg : decode cc pc = .ok (.iaload, 1))
    (kk : W p l e R s m args below meth c H locs cells slots Q (F0 m (pc + 1) ls (.int (f j) :: rest))) : W p l e R s m args below meth c H locs cells slots Q (F0 m pc ls (.int i :: .ref a :: rest)) := by
  subst hj
  refine va_iald hx hb hK (z_P hP hz) 0 t0 rfl ht (vp_in_nI hn hN) hdg ?_
  rw [nI_clamp (by omega)]
  exact kk
theorem z_lald (hx : p.tables.exec = Jvm.exec) (hb : c.code = cc) (hK : va_K D cl tys s) (hP : va_P D cl ws H) (t0 : Nat) {cA : ClassId} {n : Nat} {f : Nat → Int64} (hz : zin ws a (.inl (cA, n, .inr (.inl f)))) (ht : tys[t0]? = some (cA, .long)) {i : Int32} (j : Nat) (hj : i = nI j) (hn : j < n) (hN : n < 2 ^ 31) (hdg : decode cc pc = .ok (.laload, 1))
    (kk : W p l e R s m args below meth c H locs cells slots Q (F0 m (pc + 1) ls (.long (f j) :: rest))) : W p l e R s m args below meth c H locs cells slots Q (F0 m pc ls (.int i :: .ref a :: rest)) := by
  subst hj
  refine va_lald hx hb hK (z_P hP hz) 0 t0 rfl ht (vp_in_nI hn hN) hdg ?_
  rw [nI_clamp (by omega)]
  exact kk
theorem z_aald (hx : p.tables.exec = Jvm.exec) (hb : c.code = cc) (hK : va_K D cl tys s) (hP : va_P D cl ws H) (t0 : Nat) {cA : ClassId} {C : String} {n : Nat} {f : Nat → Option Nat} (hz : zin ws a (.inl (cA, n, .inr (.inr (.inr (.inr f)))))) (ht : tys[t0]? = some (cA, .object C)) {i : Int32} (j : Nat) (hj : i = nI j) (hn : j < n) (hN : n < 2 ^ 31) (hdg : decode cc pc = .ok (.aaload, 1))
    (kk : W p l e R s m args below meth c H locs cells slots Q (F0 m (pc + 1) ls (va_rf (f j) :: rest))) : W p l e R s m args below meth c H locs cells slots Q (F0 m pc ls (.int i :: .ref a :: rest)) := by
  subst hj
  refine va_aldq hx hb hK (z_P hP hz) 0 t0 rfl ht (vp_in_nI hn hN) hdg ?_
  rw [nI_clamp (by omega)]
  exact kk
theorem z_alen (hx : p.tables.exec = Jvm.exec) (hb : c.code = cc) (hK : va_K D cl tys s) (hP : va_P D cl ws H) (t0 : Nat) {cA : ClassId} {x : vp_A} (hz : zin ws a (.inl (cA, x))) {ty : FieldType} (ht : tys[t0]? = some (cA, ty)) (hdg : decode cc pc = .ok (.arraylength, 1))
    (kk : W p l e R s m args below meth c H locs cells slots Q (F0 m (pc + 1) ls (.int (nI x.1) :: rest))) : W p l e R s m args below meth c H locs cells slots Q (F0 m pc ls (.ref a :: rest)) :=
  va_alen hx hb hK (z_P hP hz) 0 t0 rfl ht rfl hdg kk
theorem z_iast (hx : p.tables.exec = Jvm.exec) (hb : c.code = cc) (hK : va_K D cl tys s) (hP : va_P D cl ws H) (hD : va_D A ws) (hS : va_S A H0 H locs) (t0 : Nat) {cA : ClassId} {n : Nat} {f : Nat → Int32} (hz : zin ws a (.inl (cA, n, .inl f))) (ht : tys[t0]? = some (cA, .int)) {i x : Int32} (j : Nat) (hj : i = nI j) (hn : j < n) (hN : n < 2 ^ 31) (hdg : decode cc pc = .ok (.iastore, 1))
    (kk : ∀ (ws' : va_W) (H1 : Heap) (locs1 : List Loc), va_P D cl ws' H1 → va_D A ws' → va_S A H0 H1 locs1 → zupd ws a (.inl (cA, n, .inl (upd f j x))) ws' → W p l e R s m args below meth c H1 locs1 cells slots Q (F0 m (pc + 1) ls rest)) : W p l e R s m args below meth c H locs cells slots Q (F0 m pc ls (.int x :: .int i :: .ref a :: rest)) := by
  subst hj
  obtain ⟨q0, he⟩ := hz
  refine va_iast hx hb hK hP hD hS q0 t0 he ht (vp_in_nI hn hN) hdg (fun H1 locs1 h1 h2 h3 => ?_)
  rw [nI_clamp (by omega)] at h1 h2
  exact kk _ H1 locs1 h1 h2 h3 (zupd_set he)
theorem z_last (hx : p.tables.exec = Jvm.exec) (hb : c.code = cc) (hK : va_K D cl tys s) (hP : va_P D cl ws H) (hD : va_D A ws) (hS : va_S A H0 H locs) (t0 : Nat) {cA : ClassId} {n : Nat} {f : Nat → Int64} (hz : zin ws a (.inl (cA, n, .inr (.inl f)))) (ht : tys[t0]? = some (cA, .long)) {i : Int32} {x : Int64} (j : Nat) (hj : i = nI j) (hn : j < n) (hN : n < 2 ^ 31) (hdg : decode cc pc = .ok (.lastore, 1))
    (kk : ∀ (ws' : va_W) (H1 : Heap) (locs1 : List Loc), va_P D cl ws' H1 → va_D A ws' → va_S A H0 H1 locs1 → zupd ws a (.inl (cA, n, .inr (.inl (vp_updL f j x)))) ws' → W p l e R s m args below meth c H1 locs1 cells slots Q (F0 m (pc + 1) ls rest)) : W p l e R s m args below meth c H locs cells slots Q (F0 m pc ls (.long x :: .int i :: .ref a :: rest)) := by
  subst hj
  obtain ⟨q0, he⟩ := hz
  refine va_last hx hb hK hP hD hS q0 t0 he ht (vp_in_nI hn hN) hdg (fun H1 locs1 h1 h2 h3 => ?_)
  rw [nI_clamp (by omega)] at h1 h2
  exact kk _ H1 locs1 h1 h2 h3 (zupd_set he)
/-- a reference to a cell of the class r into an array of a class of r's -/
theorem z_aast (hx : p.tables.exec = Jvm.exec) (hb : c.code = cc) (hK : va_K D cl tys s) (hP : va_P D cl ws H) (hD : va_D A ws) (hS : va_S A H0 H locs) (t0 ci : Nat) {cA : ClassId} {r : vw_C} {n v : Nat} {vs : List Value} {f : Nat → Option Nat} (hz : zin ws a (.inl (cA, n, .inr (.inr (.inr (.inr f)))))) (ht : tys[t0]? = some (cA, .object r.1)) (hv : zin ws v (.inr (ci, vs))) (hc : cl[ci]? = some r) {i : Int32} (j : Nat) (hj : i = nI j) (hn : j < n) (hN : n < 2 ^ 31) (hdg : decode cc pc = .ok (.aastore, 1))
    (kk : ∀ (ws' : va_W) (H1 : Heap) (locs1 : List Loc), va_P D cl ws' H1 → va_D A ws' → va_S A H0 H1 locs1 → zupd ws a (.inl (cA, n, .inr (.inr (.inr (.inr (va_up f j (some v))))))) ws' → W p l e R s m args below meth c H1 locs1 cells slots Q (F0 m (pc + 1) ls rest)) : W p l e R s m args below meth c H locs cells slots Q (F0 m pc ls (.ref v :: .int i :: .ref a :: rest)) := by
  subst hj
  obtain ⟨q0, he⟩ := hz
  obtain ⟨qk, hk⟩ := hv
  refine va_astq hx hb hK hP hD hS q0 t0 qk ci he ht hk hc (vp_in_nI hn hN) hdg (fun H1 locs1 h1 h2 h3 => ?_)
  rw [nI_clamp (by omega)] at h1 h2
  exact kk _ H1 locs1 h1 h2 h3 (zupd_set he)
theorem znew_ne {ws : va_W} {q : Nat} {en : va_E} (hD : va_D A (ws ++ [(q, en)])) {b : Nat} {f : va_E} (h : zin ws b f) : b ≠ q := by
  intro z
  subst z
  obtain ⟨k, hk⟩ := h
  have hl := (List.getElem?_eq_some_iff.mp hk).1
  have := hD.1 k ws.length (b, f) (b, en) (by rw [List.getElem?_append_left hl]; exact hk) (by simp) rfl
  omega
theorem z_new (hx : p.tables.exec = Jvm.exec) (hb : c.code = cc) {own C : String} {T : u_T} {N ci index : Nat} (hts : ∀ w ∈ TT, w.before args s = true) (hin : ∀ w ∈ u_ws C T N, w ∈ TT) (ty : Nat → FieldType) (hty : ∀ k, k < N → parseFieldDescriptor (T k).2.2.1 = some (ty k)) (hown : s.vm.findClass own = some m.cls) (hcl : Cond.classLink own index C ∈ TT) (hinst : Cond.instantiable C N ∈ TT) (hini : Cond.initialized C ∈ TT)
    (hK : va_K D cl tys s) (hP : va_P D cl ws H) (hD : va_D A ws) (hS : va_S A H0 H locs) (hA : ∀ q, H0.size ≤ q → A q) (hc : cl[ci]? = some (C, T, N)) {fs : List Value} (hfs : ∀ j, j < N → defaultValue (ty j) = vp_V fs j) (hcells : cells + 1 ≤ R.cells) (hslots : slots + N ≤ R.slots) (hdg : decode cc pc = .ok (.new index, 3))
    (kk : ∀ (q : Nat) (ws' : va_W) (H1 : Heap), va_P D cl ws' H1 → va_D A ws' → va_S A H0 H1 locs → znew ws q (.inr (ci, fs)) ws' → (∀ (b : Nat) (f : va_E), zin ws b f → b ≠ q) →
      W p l e R s m args below meth c H1 locs (cells + 1) (slots + N) Q (F0 m (pc + 3) ls (.ref q :: rest))) : W p l e R s m args below meth c H locs cells slots Q (F0 m pc ls rest) :=
  va_new hx hb hts hin ty hty hown (hts _ hcl) (hts _ hinst) (hts _ hini) hK hP hD hS hA hc hfs hcells hslots hdg (fun q H1 h1 h2 h3 => kk q _ H1 h1 h2 h3 znew_app (fun b f h => znew_ne h2 h))
end ZA
end
section
theorem tw_0 : Cond.selects "LoanRounds" ({ cls := "LoanRounds", name := "lentWith", desc := "(I)LLoanRounds$Task;" } : MethodName) ({ cls := "LoanRounds", name := "lentWith", desc := "(I)LLoanRounds$Task;" } : MethodName) ∈ TT := tt_of (i := 0) rfl rfl
theorem tw_1 : Cond.selects "LoanRounds" ({ cls := "LoanRounds", name := "taskAt", desc := "(I)LLoanRounds$Task;" } : MethodName) ({ cls := "LoanRounds", name := "taskAt", desc := "(I)LLoanRounds$Task;" } : MethodName) ∈ TT := tt_of (i := 1) rfl rfl
theorem tw_2 : Cond.selects "LoanRounds" ({ cls := "LoanRounds", name := "liveTasks", desc := "()I" } : MethodName) ({ cls := "LoanRounds", name := "liveTasks", desc := "()I" } : MethodName) ∈ TT := tt_of (i := 2) rfl rfl
theorem tw_3 : Cond.selects "LoanRounds" ({ cls := "LoanRounds", name := "tasksThatAre", desc := "(I)I" } : MethodName) ({ cls := "LoanRounds", name := "tasksThatAre", desc := "(I)I" } : MethodName) ∈ TT := tt_of (i := 3) rfl rfl
theorem tw_4 : Cond.selects "LoanRounds" ({ cls := "LoanRounds", name := "groupAt", desc := "(I)LLoanRounds$Group;" } : MethodName) ({ cls := "LoanRounds", name := "groupAt", desc := "(I)LLoanRounds$Group;" } : MethodName) ∈ TT := tt_of (i := 4) rfl rfl
theorem tw_5 : Cond.selects "LoanRounds" ({ cls := "LoanRounds", name := "queueAt", desc := "(I)LLoanRounds$Queue;" } : MethodName) ({ cls := "LoanRounds", name := "queueAt", desc := "(I)LLoanRounds$Queue;" } : MethodName) ∈ TT := tt_of (i := 5) rfl rfl
theorem tw_6 : Cond.selects "LoanRounds" ({ cls := "LoanRounds", name := "firstOf", desc := "(LLoanRounds$Queue;)LLoanRounds$Task;" } : MethodName) ({ cls := "LoanRounds", name := "firstOf", desc := "(LLoanRounds$Queue;)LLoanRounds$Task;" } : MethodName) ∈ TT := tt_of (i := 6) rfl rfl
theorem tw_7 : Cond.selects "LoanRounds" ({ cls := "LoanRounds", name := "countOfOne", desc := "(I)I" } : MethodName) ({ cls := "LoanRounds", name := "countOfOne", desc := "(I)I" } : MethodName) ∈ TT := tt_of (i := 7) rfl rfl
theorem tw_8 : Cond.selects "LoanRounds" ({ cls := "LoanRounds", name := "lentTo", desc := "(I)I" } : MethodName) ({ cls := "LoanRounds", name := "lentTo", desc := "(I)I" } : MethodName) ∈ TT := tt_of (i := 8) rfl rfl
theorem tw_9 : Cond.selects "LoanRounds" ({ cls := "LoanRounds", name := "waitingIn", desc := "(LLoanRounds$Queue;)I" } : MethodName) ({ cls := "LoanRounds", name := "waitingIn", desc := "(LLoanRounds$Queue;)I" } : MethodName) ∈ TT := tt_of (i := 9) rfl rfl
theorem tw_10 : Cond.selects "java/lang/Throwable" ({ cls := "java/lang/Throwable", name := "fillInStackTrace", desc := "(I)Ljava/lang/Throwable;" } : MethodName) ({ cls := "java/lang/Throwable", name := "fillInStackTrace", desc := "(I)Ljava/lang/Throwable;" } : MethodName) ∈ TT := tt_of (i := 10) rfl rfl
theorem tw_11 : Cond.selects "LoanRounds" ({ cls := "LoanRounds", name := "numberUnder", desc := "(LLoanRounds$Queue;J)I" } : MethodName) ({ cls := "LoanRounds", name := "numberUnder", desc := "(LLoanRounds$Queue;J)I" } : MethodName) ∈ TT := tt_of (i := 11) rfl rfl
theorem tw_12 : Cond.selects "java/util/ArrayList" ({ cls := "java/util/ArrayList", name := "add", desc := "(Ljava/lang/Object;[Ljava/lang/Object;I)V" } : MethodName) ({ cls := "java/util/ArrayList", name := "add", desc := "(Ljava/lang/Object;[Ljava/lang/Object;I)V" } : MethodName) ∈ TT := tt_of (i := 12) rfl rfl
theorem tw_13 : Cond.selects "java/util/ArrayList" ({ cls := "java/util/ArrayList", name := "grow", desc := "()[Ljava/lang/Object;" } : MethodName) ({ cls := "java/util/ArrayList", name := "grow", desc := "()[Ljava/lang/Object;" } : MethodName) ∈ TT := tt_of (i := 13) rfl rfl
theorem tw_14 : Cond.selects "java/util/ArrayList" ({ cls := "java/util/ArrayList", name := "grow", desc := "(I)[Ljava/lang/Object;" } : MethodName) ({ cls := "java/util/ArrayList", name := "grow", desc := "(I)[Ljava/lang/Object;" } : MethodName) ∈ TT := tt_of (i := 14) rfl rfl
theorem tw_15 : Cond.selects "LoanRoundsModel" ({ cls := "LoanRoundsModel", name := "raise", desc := "(I)I" } : MethodName) ({ cls := "LoanRoundsModel", name := "raise", desc := "(I)I" } : MethodName) ∈ TT := tt_of (i := 15) rfl rfl
theorem tw_16 : Cond.selects "LoanRoundsModel" ({ cls := "LoanRoundsModel", name := "found", desc := "(IJ)I" } : MethodName) ({ cls := "LoanRoundsModel", name := "found", desc := "(IJ)I" } : MethodName) ∈ TT := tt_of (i := 16) rfl rfl
theorem tw_17 : Cond.selects "LoanRoundsModel" ({ cls := "LoanRoundsModel", name := "isLive", desc := "(I)Z" } : MethodName) ({ cls := "LoanRoundsModel", name := "isLive", desc := "(I)Z" } : MethodName) ∈ TT := tt_of (i := 17) rfl rfl
theorem tw_18 : Cond.selects "LoanRoundsModel" ({ cls := "LoanRoundsModel", name := "lives", desc := "()I" } : MethodName) ({ cls := "LoanRoundsModel", name := "lives", desc := "()I" } : MethodName) ∈ TT := tt_of (i := 18) rfl rfl
theorem tw_19 : Cond.selects "LoanRoundsModel" ({ cls := "LoanRoundsModel", name := "firstOf", desc := "(I)I" } : MethodName) ({ cls := "LoanRoundsModel", name := "firstOf", desc := "(I)I" } : MethodName) ∈ TT := tt_of (i := 19) rfl rfl
theorem tw_20 : Cond.selects "LoanRoundsModel" ({ cls := "LoanRoundsModel", name := "mayBeHad", desc := "(I)Z" } : MethodName) ({ cls := "LoanRoundsModel", name := "mayBeHad", desc := "(I)Z" } : MethodName) ∈ TT := tt_of (i := 20) rfl rfl
theorem tw_21 : Cond.selects "LoanRoundsModel" ({ cls := "LoanRoundsModel", name := "lentOf", desc := "(I)I" } : MethodName) ({ cls := "LoanRoundsModel", name := "lentOf", desc := "(I)I" } : MethodName) ∈ TT := tt_of (i := 21) rfl rfl
theorem tw_22 : Cond.selects "LoanRoundsModel" ({ cls := "LoanRoundsModel", name := "weight", desc := "(I)I" } : MethodName) ({ cls := "LoanRoundsModel", name := "weight", desc := "(I)I" } : MethodName) ∈ TT := tt_of (i := 22) rfl rfl
theorem tw_23 : Cond.selects "LoanRoundsModel" ({ cls := "LoanRoundsModel", name := "lentTo", desc := "(I)I" } : MethodName) ({ cls := "LoanRoundsModel", name := "lentTo", desc := "(I)I" } : MethodName) ∈ TT := tt_of (i := 23) rfl rfl
theorem tw_24 : Cond.selects "LoanRoundsModel" ({ cls := "LoanRoundsModel", name := "lentWith", desc := "(I)I" } : MethodName) ({ cls := "LoanRoundsModel", name := "lentWith", desc := "(I)I" } : MethodName) ∈ TT := tt_of (i := 24) rfl rfl
theorem tw_25 : Cond.selects "LoanRoundsModel" ({ cls := "LoanRoundsModel", name := "again", desc := "(I)V" } : MethodName) ({ cls := "LoanRoundsModel", name := "again", desc := "(I)V" } : MethodName) ∈ TT := tt_of (i := 25) rfl rfl
theorem tw_26 : Cond.selects "LoanRoundsModel" ({ cls := "LoanRoundsModel", name := "isTask", desc := "(I)Z" } : MethodName) ({ cls := "LoanRoundsModel", name := "isTask", desc := "(I)Z" } : MethodName) ∈ TT := tt_of (i := 26) rfl rfl
theorem tw_27 : Cond.selects "LoanRoundsModel" ({ cls := "LoanRoundsModel", name := "waitingIn", desc := "(I)I" } : MethodName) ({ cls := "LoanRoundsModel", name := "waitingIn", desc := "(I)I" } : MethodName) ∈ TT := tt_of (i := 27) rfl rfl
theorem tw_28 : Cond.selects "LoanRoundsModel" ({ cls := "LoanRoundsModel", name := "inState", desc := "(I)I" } : MethodName) ({ cls := "LoanRoundsModel", name := "inState", desc := "(I)I" } : MethodName) ∈ TT := tt_of (i := 28) rfl rfl
theorem tw_29 : (Jvm.Cond.initialized "LoanRoundsLaw") ∈ TT := tt_of (i := 29) rfl rfl
theorem tw_30 : (Jvm.Cond.initialized "LoanRounds") ∈ TT := tt_of (i := 30) rfl rfl
theorem tw_31 : (Jvm.Cond.initialized "java/util/AbstractCollection") ∈ TT := tt_of (i := 31) rfl rfl
theorem tw_32 : (Jvm.Cond.initialized "java/util/AbstractList") ∈ TT := tt_of (i := 32) rfl rfl
theorem tw_33 : (Jvm.Cond.initialized "java/util/ArrayList") ∈ TT := tt_of (i := 33) rfl rfl
theorem tw_34 : (Jvm.Cond.initialized "LoanRounds$Queue") ∈ TT := tt_of (i := 34) rfl rfl
theorem tw_35 : (Jvm.Cond.initialized "LoanRounds$Group") ∈ TT := tt_of (i := 35) rfl rfl
theorem tw_36 : (Jvm.Cond.initialized "LoanRoundsModel") ∈ TT := tt_of (i := 36) rfl rfl
theorem tw_37 : (Jvm.Cond.initialized "java/lang/Throwable") ∈ TT := tt_of (i := 37) rfl rfl
theorem tw_38 : (Jvm.Cond.initialized "java/lang/Exception") ∈ TT := tt_of (i := 38) rfl rfl
theorem tw_39 : (Jvm.Cond.initialized "java/lang/RuntimeException") ∈ TT := tt_of (i := 39) rfl rfl
theorem tw_40 : (Jvm.Cond.initialized "java/lang/IllegalArgumentException") ∈ TT := tt_of (i := 40) rfl rfl
theorem tw_41 : (Jvm.Cond.initialized "java/util/Objects") ∈ TT := tt_of (i := 41) rfl rfl
theorem tw_42 : (Jvm.Cond.initialized "jdk/internal/util/Preconditions") ∈ TT := tt_of (i := 42) rfl rfl
theorem tw_43 : (Jvm.Cond.initialized "java/lang/IllegalStateException") ∈ TT := tt_of (i := 43) rfl rfl
theorem tw_44 : (Jvm.Cond.initialized "LoanRounds$Task") ∈ TT := tt_of (i := 44) rfl rfl
theorem tw_45 : (Jvm.Cond.initialized "jdk/internal/util/ArraysSupport") ∈ TT := tt_of (i := 45) rfl rfl
theorem tw_46 : (Jvm.Cond.initialized "java/lang/Math") ∈ TT := tt_of (i := 46) rfl rfl
theorem tw_47 : (Jvm.Cond.initialized "java/util/Arrays") ∈ TT := tt_of (i := 47) rfl rfl
theorem tw_48 : (Jvm.Cond.initialized "java/lang/System") ∈ TT := tt_of (i := 48) rfl rfl
theorem tw_49 : (Jvm.Cond.initialized "java/util/NoSuchElementException") ∈ TT := tt_of (i := 49) rfl rfl
theorem tw_50 : (Jvm.Cond.classLink "LoanRoundsLaw" (8 : Nat) "LoanRounds") ∈ TT := tt_of (i := 50) rfl rfl
theorem tw_51 : (Jvm.Cond.instantiable "LoanRounds" (5 : Nat)) ∈ TT := tt_of (i := 51) rfl rfl
theorem tw_52 : (Jvm.Cond.methodLink "LoanRoundsLaw" (33 : Nat) ({ cls := "LoanRounds", name := "<init>", desc := "()V" } : Jvm.MethodName)) ∈ TT := tt_of (i := 52) rfl rfl
theorem tw_53 : (Jvm.Cond.instanceMethod ({ cls := "LoanRounds", name := "<init>", desc := "()V" } : Jvm.MethodName)) ∈ TT := tt_of (i := 53) rfl rfl
theorem tw_54 : (Jvm.Cond.code ({ cls := "LoanRounds", name := "<init>", desc := "()V" } : Jvm.MethodName) prog_1_method_1_code (2 : Nat) (Option.none : Option Jvm.ClassFile.FieldType)) ∈ TT := tt_of (i := 54) rfl rfl
theorem tw_55 : (Jvm.Cond.methodLink "LoanRounds" (1 : Nat) ({ cls := "java/lang/Object", name := "<init>", desc := "()V" } : Jvm.MethodName)) ∈ TT := tt_of (i := 55) rfl rfl
theorem tw_56 : (Jvm.Cond.instanceMethod ({ cls := "java/lang/Object", name := "<init>", desc := "()V" } : Jvm.MethodName)) ∈ TT := tt_of (i := 56) rfl rfl
theorem tw_57 : (Jvm.Cond.code ({ cls := "java/lang/Object", name := "<init>", desc := "()V" } : Jvm.MethodName) object_method_1_code (1 : Nat) (Option.none : Option Jvm.ClassFile.FieldType)) ∈ TT := tt_of (i := 57) rfl rfl
theorem tw_58 : (Jvm.Cond.classLink "LoanRounds" (9 : Nat) "LoanRounds$Queue") ∈ TT := tt_of (i := 58) rfl rfl
theorem tw_60 : (Jvm.Cond.classLink "LoanRounds" (15 : Nat) "LoanRounds$Group") ∈ TT := tt_of (i := 60) rfl rfl
theorem tw_62 : (Jvm.Cond.classLink "LoanRounds" (21 : Nat) "java/util/ArrayList") ∈ TT := tt_of (i := 62) rfl rfl
theorem tw_63 : (Jvm.Cond.instantiable "java/util/ArrayList" (3 : Nat)) ∈ TT := tt_of (i := 63) rfl rfl
theorem tw_64 : (Jvm.Cond.methodLink "LoanRounds" (23 : Nat) ({ cls := "java/util/ArrayList", name := "<init>", desc := "()V" } : Jvm.MethodName)) ∈ TT := tt_of (i := 64) rfl rfl
theorem tw_65 : (Jvm.Cond.instanceMethod ({ cls := "java/util/ArrayList", name := "<init>", desc := "()V" } : Jvm.MethodName)) ∈ TT := tt_of (i := 65) rfl rfl
theorem tw_66 : (Jvm.Cond.code ({ cls := "java/util/ArrayList", name := "<init>", desc := "()V" } : Jvm.MethodName) prog_20_method_2_code (1 : Nat) (Option.none : Option Jvm.ClassFile.FieldType)) ∈ TT := tt_of (i := 66) rfl rfl
theorem tw_67 : (Jvm.Cond.methodLink "java/util/ArrayList" (1 : Nat) ({ cls := "java/util/AbstractList", name := "<init>", desc := "()V" } : Jvm.MethodName)) ∈ TT := tt_of (i := 67) rfl rfl
theorem tw_68 : (Jvm.Cond.instanceMethod ({ cls := "java/util/AbstractList", name := "<init>", desc := "()V" } : Jvm.MethodName)) ∈ TT := tt_of (i := 68) rfl rfl
theorem tw_69 : (Jvm.Cond.code ({ cls := "java/util/AbstractList", name := "<init>", desc := "()V" } : Jvm.MethodName) prog_19_method_1_code (1 : Nat) (Option.none : Option Jvm.ClassFile.FieldType)) ∈ TT := tt_of (i := 69) rfl rfl
theorem tw_70 : (Jvm.Cond.methodLink "java/util/AbstractList" (1 : Nat) ({ cls := "java/util/AbstractCollection", name := "<init>", desc := "()V" } : Jvm.MethodName)) ∈ TT := tt_of (i := 70) rfl rfl
theorem tw_71 : (Jvm.Cond.instanceMethod ({ cls := "java/util/AbstractCollection", name := "<init>", desc := "()V" } : Jvm.MethodName)) ∈ TT := tt_of (i := 71) rfl rfl
theorem tw_72 : (Jvm.Cond.code ({ cls := "java/util/AbstractCollection", name := "<init>", desc := "()V" } : Jvm.MethodName) prog_18_method_1_code (1 : Nat) (Option.none : Option Jvm.ClassFile.FieldType)) ∈ TT := tt_of (i := 72) rfl rfl
theorem tw_73 : (Jvm.Cond.methodLink "java/util/AbstractCollection" (1 : Nat) ({ cls := "java/lang/Object", name := "<init>", desc := "()V" } : Jvm.MethodName)) ∈ TT := tt_of (i := 73) rfl rfl
theorem tw_74 : (Jvm.Cond.fieldLink "java/util/ArrayList" (39 : Nat) "java/util/ArrayList" "DEFAULTCAPACITY_EMPTY_ELEMENTDATA" "[Ljava/lang/Object;") ∈ TT := tt_of (i := 74) rfl rfl
theorem tw_76 : (Jvm.Cond.fieldLink "java/util/ArrayList" (9 : Nat) "java/util/ArrayList" "elementData" "[Ljava/lang/Object;") ∈ TT := tt_of (i := 76) rfl rfl
theorem tw_77 : (Jvm.Cond.fieldLink "java/util/ArrayList" (48 : Nat) "java/util/ArrayList" "size" "I") ∈ TT := tt_of (i := 77) rfl rfl
theorem tw_78 : (Jvm.Cond.fieldLink "java/util/AbstractList" (7 : Nat) "java/util/AbstractList" "modCount" "I") ∈ TT := tt_of (i := 78) rfl rfl
theorem tw_79 : (Jvm.Cond.fieldLink "java/util/ArrayList" (63 : Nat) "java/util/ArrayList" "modCount" "I") ∈ TT := tt_of (i := 79) rfl rfl
theorem tw_80 : (Jvm.Cond.sameField "java/util/ArrayList" "java/util/AbstractList" "modCount" "I") ∈ TT := tt_of (i := 80) rfl rfl
theorem tw_81 : (Jvm.Cond.lays "java/util/ArrayList" "java/util/ArrayList" "elementData" "[Ljava/lang/Object;") ∈ TT := tt_of (i := 81) rfl rfl
theorem tw_83 : (Jvm.Cond.lays "java/util/ArrayList" "java/util/ArrayList" "size" "I") ∈ TT := tt_of (i := 83) rfl rfl
theorem tw_85 : (Jvm.Cond.lays "java/util/ArrayList" "java/util/AbstractList" "modCount" "I") ∈ TT := tt_of (i := 85) rfl rfl
theorem tw_87 : (Jvm.Cond.superclass "java/util/ArrayList" "java/util/AbstractList") ∈ TT := tt_of (i := 87) rfl rfl
theorem tw_88 : (Jvm.Cond.instantiable "LoanRounds$Queue" (6 : Nat)) ∈ TT := tt_of (i := 88) rfl rfl
theorem tw_90 : (Jvm.Cond.instanceMethod ({ cls := "LoanRounds$Queue", name := "<init>", desc := "()V" } : Jvm.MethodName)) ∈ TT := tt_of (i := 90) rfl rfl
theorem tw_91 : (Jvm.Cond.code ({ cls := "LoanRounds$Queue", name := "<init>", desc := "()V" } : Jvm.MethodName) prog_3_method_1_code (1 : Nat) (Option.none : Option Jvm.ClassFile.FieldType)) ∈ TT := tt_of (i := 91) rfl rfl
theorem tw_92 : (Jvm.Cond.methodLink "LoanRounds$Queue" (3 : Nat) ({ cls := "java/lang/Object", name := "<init>", desc := "()V" } : Jvm.MethodName)) ∈ TT := tt_of (i := 92) rfl rfl
theorem tw_93 : (Jvm.Cond.fieldLink "LoanRounds$Queue" (9 : Nat) "LoanRounds$Queue" "loan" "I") ∈ TT := tt_of (i := 93) rfl rfl
theorem tw_94 : (Jvm.Cond.fieldLink "LoanRounds" (109 : Nat) "LoanRounds$Queue" "loan" "I") ∈ TT := tt_of (i := 94) rfl rfl
theorem tw_95 : (Jvm.Cond.fieldLink "LoanRounds$Task" (89 : Nat) "LoanRounds$Queue" "loan" "I") ∈ TT := tt_of (i := 95) rfl rfl
theorem tw_96 : (Jvm.Cond.fieldLink "LoanRounds$Queue" (15 : Nat) "LoanRounds$Queue" "most" "I") ∈ TT := tt_of (i := 96) rfl rfl
theorem tw_97 : (Jvm.Cond.fieldLink "LoanRounds$Task" (92 : Nat) "LoanRounds$Queue" "most" "I") ∈ TT := tt_of (i := 97) rfl rfl
theorem tw_98 : (Jvm.Cond.fieldLink "LoanRounds$Queue" (18 : Nat) "LoanRounds$Queue" "base" "I") ∈ TT := tt_of (i := 98) rfl rfl
theorem tw_99 : (Jvm.Cond.fieldLink "LoanRounds$Queue" (21 : Nat) "LoanRounds$Queue" "top" "I") ∈ TT := tt_of (i := 99) rfl rfl
theorem tw_100 : (Jvm.Cond.fieldLink "LoanRounds$Queue" (24 : Nat) "LoanRounds$Queue" "growth" "I") ∈ TT := tt_of (i := 100) rfl rfl
theorem tw_101 : (Jvm.Cond.fieldLink "LoanRounds$Task" (72 : Nat) "LoanRounds$Queue" "growth" "I") ∈ TT := tt_of (i := 101) rfl rfl
theorem tw_102 : (Jvm.Cond.fieldLink "LoanRounds$Queue" (27 : Nat) "LoanRounds$Queue" "memory" "I") ∈ TT := tt_of (i := 102) rfl rfl
theorem tw_103 : (Jvm.Cond.fieldLink "LoanRounds$Task" (67 : Nat) "LoanRounds$Queue" "memory" "I") ∈ TT := tt_of (i := 103) rfl rfl
theorem tw_104 : (Jvm.Cond.lays "LoanRounds$Queue" "LoanRounds$Queue" "loan" "I") ∈ TT := tt_of (i := 104) rfl rfl
theorem tw_106 : (Jvm.Cond.lays "LoanRounds$Queue" "LoanRounds$Queue" "most" "I") ∈ TT := tt_of (i := 106) rfl rfl
theorem tw_108 : (Jvm.Cond.lays "LoanRounds$Queue" "LoanRounds$Queue" "base" "I") ∈ TT := tt_of (i := 108) rfl rfl
theorem tw_110 : (Jvm.Cond.lays "LoanRounds$Queue" "LoanRounds$Queue" "top" "I") ∈ TT := tt_of (i := 110) rfl rfl
theorem tw_112 : (Jvm.Cond.lays "LoanRounds$Queue" "LoanRounds$Queue" "growth" "I") ∈ TT := tt_of (i := 112) rfl rfl
theorem tw_114 : (Jvm.Cond.lays "LoanRounds$Queue" "LoanRounds$Queue" "memory" "I") ∈ TT := tt_of (i := 114) rfl rfl
theorem tw_116 : (Jvm.Cond.superclass "LoanRounds$Queue" "java/lang/Object") ∈ TT := tt_of (i := 116) rfl rfl
theorem tw_117 : (Jvm.Cond.instantiable "LoanRounds$Group" (2 : Nat)) ∈ TT := tt_of (i := 117) rfl rfl
theorem tw_119 : (Jvm.Cond.instanceMethod ({ cls := "LoanRounds$Group", name := "<init>", desc := "()V" } : Jvm.MethodName)) ∈ TT := tt_of (i := 119) rfl rfl
theorem tw_120 : (Jvm.Cond.code ({ cls := "LoanRounds$Group", name := "<init>", desc := "()V" } : Jvm.MethodName) prog_2_method_1_code (1 : Nat) (Option.none : Option Jvm.ClassFile.FieldType)) ∈ TT := tt_of (i := 120) rfl rfl
theorem tw_121 : (Jvm.Cond.methodLink "LoanRounds$Group" (3 : Nat) ({ cls := "java/lang/Object", name := "<init>", desc := "()V" } : Jvm.MethodName)) ∈ TT := tt_of (i := 121) rfl rfl
theorem tw_122 : (Jvm.Cond.fieldLink "LoanRounds$Group" (9 : Nat) "LoanRounds$Group" "limit" "I") ∈ TT := tt_of (i := 122) rfl rfl
theorem tw_123 : (Jvm.Cond.fieldLink "LoanRounds$Task" (60 : Nat) "LoanRounds$Group" "limit" "I") ∈ TT := tt_of (i := 123) rfl rfl
theorem tw_124 : (Jvm.Cond.fieldLink "LoanRounds" (200 : Nat) "LoanRounds$Group" "limit" "I") ∈ TT := tt_of (i := 124) rfl rfl
theorem tw_125 : (Jvm.Cond.fieldLink "LoanRounds$Group" (15 : Nat) "LoanRounds$Group" "lent" "I") ∈ TT := tt_of (i := 125) rfl rfl
theorem tw_126 : (Jvm.Cond.fieldLink "LoanRounds$Task" (55 : Nat) "LoanRounds$Group" "lent" "I") ∈ TT := tt_of (i := 126) rfl rfl
theorem tw_127 : (Jvm.Cond.fieldLink "LoanRounds" (193 : Nat) "LoanRounds$Group" "lent" "I") ∈ TT := tt_of (i := 127) rfl rfl
theorem tw_128 : (Jvm.Cond.lays "LoanRounds$Group" "LoanRounds$Group" "limit" "I") ∈ TT := tt_of (i := 128) rfl rfl
theorem tw_130 : (Jvm.Cond.lays "LoanRounds$Group" "LoanRounds$Group" "lent" "I") ∈ TT := tt_of (i := 130) rfl rfl
theorem tw_132 : (Jvm.Cond.superclass "LoanRounds$Group" "java/lang/Object") ∈ TT := tt_of (i := 132) rfl rfl
theorem tw_133 : (Jvm.Cond.fieldLink "LoanRounds" (11 : Nat) "LoanRounds" "queues" "[LLoanRounds$Queue;") ∈ TT := tt_of (i := 133) rfl rfl
theorem tw_134 : (Jvm.Cond.fieldLink "LoanRounds" (17 : Nat) "LoanRounds" "groups" "[LLoanRounds$Group;") ∈ TT := tt_of (i := 134) rfl rfl
theorem tw_135 : (Jvm.Cond.fieldLink "LoanRounds" (24 : Nat) "LoanRounds" "tasks" "Ljava/util/ArrayList;") ∈ TT := tt_of (i := 135) rfl rfl
theorem tw_136 : (Jvm.Cond.fieldLink "LoanRounds" (28 : Nat) "LoanRounds" "time" "I") ∈ TT := tt_of (i := 136) rfl rfl
theorem tw_137 : (Jvm.Cond.fieldLink "LoanRounds" (32 : Nat) "LoanRounds" "tokens" "I") ∈ TT := tt_of (i := 137) rfl rfl
theorem tw_138 : (Jvm.Cond.laysFinal "LoanRounds" "LoanRounds" "queues" "[LLoanRounds$Queue;") ∈ TT := tt_of (i := 138) rfl rfl
theorem tw_140 : (Jvm.Cond.laysFinal "LoanRounds" "LoanRounds" "groups" "[LLoanRounds$Group;") ∈ TT := tt_of (i := 140) rfl rfl
theorem tw_142 : (Jvm.Cond.laysFinal "LoanRounds" "LoanRounds" "tasks" "Ljava/util/ArrayList;") ∈ TT := tt_of (i := 142) rfl rfl
theorem tw_144 : (Jvm.Cond.lays "LoanRounds" "LoanRounds" "time" "I") ∈ TT := tt_of (i := 144) rfl rfl
theorem tw_146 : (Jvm.Cond.lays "LoanRounds" "LoanRounds" "tokens" "I") ∈ TT := tt_of (i := 146) rfl rfl
theorem tw_148 : (Jvm.Cond.superclass "LoanRounds" "java/lang/Object") ∈ TT := tt_of (i := 148) rfl rfl
theorem tw_149 : (Jvm.Cond.methodLink "LoanRoundsLaw" (53 : Nat) ({ cls := "LoanRounds", name := "beat", desc := "(I)Z" } : Jvm.MethodName)) ∈ TT := tt_of (i := 149) rfl rfl
theorem tw_150 : (Jvm.Cond.instanceMethod ({ cls := "LoanRounds", name := "beat", desc := "(I)Z" } : Jvm.MethodName)) ∈ TT := tt_of (i := 150) rfl rfl
theorem tw_151 : (Jvm.Cond.selects "LoanRounds" ({ cls := "LoanRounds", name := "beat", desc := "(I)Z" } : Jvm.MethodName) ({ cls := "LoanRounds", name := "beat", desc := "(I)Z" } : Jvm.MethodName)) ∈ TT := tt_of (i := 151) rfl rfl
theorem tw_152 : (Jvm.Cond.code ({ cls := "LoanRounds", name := "beat", desc := "(I)Z" } : Jvm.MethodName) prog_1_method_4_code (3 : Nat) (Option.some Jvm.ClassFile.FieldType.boolean)) ∈ TT := tt_of (i := 152) rfl rfl
theorem tw_153 : (Jvm.Cond.methodLink "LoanRounds" (101 : Nat) ({ cls := "LoanRounds", name := "lentWith", desc := "(I)LLoanRounds$Task;" } : Jvm.MethodName)) ∈ TT := tt_of (i := 153) rfl rfl
theorem tw_155 : (Jvm.Cond.instanceMethod ({ cls := "LoanRounds", name := "lentWith", desc := "(I)LLoanRounds$Task;" } : Jvm.MethodName)) ∈ TT := tt_of (i := 155) rfl rfl
theorem tw_156 : (Jvm.Cond.code ({ cls := "LoanRounds", name := "lentWith", desc := "(I)LLoanRounds$Task;" } : Jvm.MethodName) prog_1_method_21_code (4 : Nat) (Option.some (Jvm.ClassFile.FieldType.object "LoanRounds$Task"))) ∈ TT := tt_of (i := 156) rfl rfl
theorem tw_157 : (Jvm.Cond.methodLink "LoanRounds" (66 : Nat) ({ cls := "java/util/ArrayList", name := "size", desc := "()I" } : Jvm.MethodName)) ∈ TT := tt_of (i := 157) rfl rfl
theorem tw_158 : (Jvm.Cond.instanceMethod ({ cls := "java/util/ArrayList", name := "size", desc := "()I" } : Jvm.MethodName)) ∈ TT := tt_of (i := 158) rfl rfl
theorem tw_159 : (Jvm.Cond.selects "java/util/ArrayList" ({ cls := "java/util/ArrayList", name := "size", desc := "()I" } : Jvm.MethodName) ({ cls := "java/util/ArrayList", name := "size", desc := "()I" } : Jvm.MethodName)) ∈ TT := tt_of (i := 159) rfl rfl
theorem tw_160 : (Jvm.Cond.code ({ cls := "java/util/ArrayList", name := "size", desc := "()I" } : Jvm.MethodName) prog_20_method_8_code (1 : Nat) (Option.some Jvm.ClassFile.FieldType.int)) ∈ TT := tt_of (i := 160) rfl rfl
theorem tw_161 : (Jvm.Cond.methodLink "LoanRounds" (140 : Nat) ({ cls := "java/util/ArrayList", name := "get", desc := "(I)Ljava/lang/Object;" } : Jvm.MethodName)) ∈ TT := tt_of (i := 161) rfl rfl
theorem tw_162 : (Jvm.Cond.instanceMethod ({ cls := "java/util/ArrayList", name := "get", desc := "(I)Ljava/lang/Object;" } : Jvm.MethodName)) ∈ TT := tt_of (i := 162) rfl rfl
theorem tw_163 : (Jvm.Cond.selects "java/util/ArrayList" ({ cls := "java/util/ArrayList", name := "get", desc := "(I)Ljava/lang/Object;" } : Jvm.MethodName) ({ cls := "java/util/ArrayList", name := "get", desc := "(I)Ljava/lang/Object;" } : Jvm.MethodName)) ∈ TT := tt_of (i := 163) rfl rfl
theorem tw_164 : (Jvm.Cond.code ({ cls := "java/util/ArrayList", name := "get", desc := "(I)Ljava/lang/Object;" } : Jvm.MethodName) prog_20_method_20_code (2 : Nat) (Option.some (Jvm.ClassFile.FieldType.object "java/lang/Object"))) ∈ TT := tt_of (i := 164) rfl rfl
theorem tw_165 : (Jvm.Cond.methodLink "java/util/ArrayList" (118 : Nat) ({ cls := "java/util/Objects", name := "checkIndex", desc := "(II)I" } : Jvm.MethodName)) ∈ TT := tt_of (i := 165) rfl rfl
theorem tw_166 : (Jvm.Cond.static ({ cls := "java/util/Objects", name := "checkIndex", desc := "(II)I" } : Jvm.MethodName)) ∈ TT := tt_of (i := 166) rfl rfl
theorem tw_167 : (Jvm.Cond.code ({ cls := "java/util/Objects", name := "checkIndex", desc := "(II)I" } : Jvm.MethodName) prog_25_method_17_code (2 : Nat) (Option.some Jvm.ClassFile.FieldType.int)) ∈ TT := tt_of (i := 167) rfl rfl
theorem tw_168 : (Jvm.Cond.methodLink "java/util/Objects" (105 : Nat) ({ cls := "jdk/internal/util/Preconditions", name := "checkIndex", desc := "(IILjava/util/function/BiFunction;)I" } : Jvm.MethodName)) ∈ TT := tt_of (i := 168) rfl rfl
theorem tw_169 : (Jvm.Cond.static ({ cls := "jdk/internal/util/Preconditions", name := "checkIndex", desc := "(IILjava/util/function/BiFunction;)I" } : Jvm.MethodName)) ∈ TT := tt_of (i := 169) rfl rfl
theorem tw_170 : (Jvm.Cond.code ({ cls := "jdk/internal/util/Preconditions", name := "checkIndex", desc := "(IILjava/util/function/BiFunction;)I" } : Jvm.MethodName) prog_29_method_11_code (3 : Nat) (Option.some Jvm.ClassFile.FieldType.int)) ∈ TT := tt_of (i := 170) rfl rfl
theorem tw_171 : (Jvm.Cond.methodLink "java/util/ArrayList" (123 : Nat) ({ cls := "java/util/ArrayList", name := "elementData", desc := "(I)Ljava/lang/Object;" } : Jvm.MethodName)) ∈ TT := tt_of (i := 171) rfl rfl
theorem tw_172 : (Jvm.Cond.instanceMethod ({ cls := "java/util/ArrayList", name := "elementData", desc := "(I)Ljava/lang/Object;" } : Jvm.MethodName)) ∈ TT := tt_of (i := 172) rfl rfl
theorem tw_173 : (Jvm.Cond.selects "java/util/ArrayList" ({ cls := "java/util/ArrayList", name := "elementData", desc := "(I)Ljava/lang/Object;" } : Jvm.MethodName) ({ cls := "java/util/ArrayList", name := "elementData", desc := "(I)Ljava/lang/Object;" } : Jvm.MethodName)) ∈ TT := tt_of (i := 173) rfl rfl
theorem tw_174 : (Jvm.Cond.code ({ cls := "java/util/ArrayList", name := "elementData", desc := "(I)Ljava/lang/Object;" } : Jvm.MethodName) prog_20_method_18_code (2 : Nat) (Option.some (Jvm.ClassFile.FieldType.object "java/lang/Object"))) ∈ TT := tt_of (i := 174) rfl rfl
theorem tw_175 : (Jvm.Cond.classLink "LoanRounds" (74 : Nat) "LoanRounds$Task") ∈ TT := tt_of (i := 175) rfl rfl
theorem tw_176 : (Jvm.Cond.methodLink "LoanRoundsLaw" (65 : Nat) ({ cls := "LoanRounds", name := "cancel", desc := "(I)Z" } : Jvm.MethodName)) ∈ TT := tt_of (i := 176) rfl rfl
theorem tw_177 : (Jvm.Cond.instanceMethod ({ cls := "LoanRounds", name := "cancel", desc := "(I)Z" } : Jvm.MethodName)) ∈ TT := tt_of (i := 177) rfl rfl
theorem tw_178 : (Jvm.Cond.selects "LoanRounds" ({ cls := "LoanRounds", name := "cancel", desc := "(I)Z" } : Jvm.MethodName) ({ cls := "LoanRounds", name := "cancel", desc := "(I)Z" } : Jvm.MethodName)) ∈ TT := tt_of (i := 178) rfl rfl
theorem tw_179 : (Jvm.Cond.code ({ cls := "LoanRounds", name := "cancel", desc := "(I)Z" } : Jvm.MethodName) prog_1_method_7_code (3 : Nat) (Option.some Jvm.ClassFile.FieldType.boolean)) ∈ TT := tt_of (i := 179) rfl rfl
theorem tw_180 : (Jvm.Cond.methodLink "LoanRounds" (147 : Nat) ({ cls := "LoanRounds", name := "taskAt", desc := "(I)LLoanRounds$Task;" } : Jvm.MethodName)) ∈ TT := tt_of (i := 180) rfl rfl
theorem tw_182 : (Jvm.Cond.instanceMethod ({ cls := "LoanRounds", name := "taskAt", desc := "(I)LLoanRounds$Task;" } : Jvm.MethodName)) ∈ TT := tt_of (i := 182) rfl rfl
theorem tw_183 : (Jvm.Cond.code ({ cls := "LoanRounds", name := "taskAt", desc := "(I)LLoanRounds$Task;" } : Jvm.MethodName) prog_1_method_20_code (2 : Nat) (Option.some (Jvm.ClassFile.FieldType.object "LoanRounds$Task"))) ∈ TT := tt_of (i := 183) rfl rfl
theorem tw_184 : (Jvm.Cond.methodLink "LoanRounds" (41 : Nat) ({ cls := "LoanRounds", name := "within", desc := "(III)Z" } : Jvm.MethodName)) ∈ TT := tt_of (i := 184) rfl rfl
theorem tw_185 : (Jvm.Cond.static ({ cls := "LoanRounds", name := "within", desc := "(III)Z" } : Jvm.MethodName)) ∈ TT := tt_of (i := 185) rfl rfl
theorem tw_186 : (Jvm.Cond.code ({ cls := "LoanRounds", name := "within", desc := "(III)Z" } : Jvm.MethodName) prog_1_method_15_code (3 : Nat) (Option.some Jvm.ClassFile.FieldType.boolean)) ∈ TT := tt_of (i := 186) rfl rfl
theorem tw_187 : (Jvm.Cond.methodLink "LoanRounds" (150 : Nat) ({ cls := "LoanRounds$Task", name := "isLive", desc := "()Z" } : Jvm.MethodName)) ∈ TT := tt_of (i := 187) rfl rfl
theorem tw_188 : (Jvm.Cond.instanceMethod ({ cls := "LoanRounds$Task", name := "isLive", desc := "()Z" } : Jvm.MethodName)) ∈ TT := tt_of (i := 188) rfl rfl
theorem tw_189 : (Jvm.Cond.selects "LoanRounds$Task" ({ cls := "LoanRounds$Task", name := "isLive", desc := "()Z" } : Jvm.MethodName) ({ cls := "LoanRounds$Task", name := "isLive", desc := "()Z" } : Jvm.MethodName)) ∈ TT := tt_of (i := 189) rfl rfl
theorem tw_190 : (Jvm.Cond.code ({ cls := "LoanRounds$Task", name := "isLive", desc := "()Z" } : Jvm.MethodName) prog_4_method_2_code (1 : Nat) (Option.some Jvm.ClassFile.FieldType.boolean)) ∈ TT := tt_of (i := 190) rfl rfl
theorem tw_191 : (Jvm.Cond.methodLink "LoanRounds" (154 : Nat) ({ cls := "LoanRounds$Task", name := "become", desc := "(I)V" } : Jvm.MethodName)) ∈ TT := tt_of (i := 191) rfl rfl
theorem tw_192 : (Jvm.Cond.instanceMethod ({ cls := "LoanRounds$Task", name := "become", desc := "(I)V" } : Jvm.MethodName)) ∈ TT := tt_of (i := 192) rfl rfl
theorem tw_193 : (Jvm.Cond.selects "LoanRounds$Task" ({ cls := "LoanRounds$Task", name := "become", desc := "(I)V" } : Jvm.MethodName) ({ cls := "LoanRounds$Task", name := "become", desc := "(I)V" } : Jvm.MethodName)) ∈ TT := tt_of (i := 193) rfl rfl
theorem tw_194 : (Jvm.Cond.code ({ cls := "LoanRounds$Task", name := "become", desc := "(I)V" } : Jvm.MethodName) prog_4_method_8_code (2 : Nat) (Option.none : Option Jvm.ClassFile.FieldType)) ∈ TT := tt_of (i := 194) rfl rfl
theorem tw_195 : (Jvm.Cond.methodLink "LoanRoundsLaw" (69 : Nat) ({ cls := "LoanRounds", name := "revive", desc := "(I)Z" } : Jvm.MethodName)) ∈ TT := tt_of (i := 195) rfl rfl
theorem tw_196 : (Jvm.Cond.instanceMethod ({ cls := "LoanRounds", name := "revive", desc := "(I)Z" } : Jvm.MethodName)) ∈ TT := tt_of (i := 196) rfl rfl
theorem tw_197 : (Jvm.Cond.selects "LoanRounds" ({ cls := "LoanRounds", name := "revive", desc := "(I)Z" } : Jvm.MethodName) ({ cls := "LoanRounds", name := "revive", desc := "(I)Z" } : Jvm.MethodName)) ∈ TT := tt_of (i := 197) rfl rfl
theorem tw_198 : (Jvm.Cond.code ({ cls := "LoanRounds", name := "revive", desc := "(I)Z" } : Jvm.MethodName) prog_1_method_8_code (3 : Nat) (Option.some Jvm.ClassFile.FieldType.boolean)) ∈ TT := tt_of (i := 198) rfl rfl
theorem tw_199 : (Jvm.Cond.methodLink "LoanRounds" (62 : Nat) ({ cls := "LoanRounds", name := "liveTasks", desc := "()I" } : Jvm.MethodName)) ∈ TT := tt_of (i := 199) rfl rfl
theorem tw_201 : (Jvm.Cond.instanceMethod ({ cls := "LoanRounds", name := "liveTasks", desc := "()I" } : Jvm.MethodName)) ∈ TT := tt_of (i := 201) rfl rfl
theorem tw_202 : (Jvm.Cond.code ({ cls := "LoanRounds", name := "liveTasks", desc := "()I" } : Jvm.MethodName) prog_1_method_24_code (1 : Nat) (Option.some Jvm.ClassFile.FieldType.int)) ∈ TT := tt_of (i := 202) rfl rfl
theorem tw_203 : (Jvm.Cond.methodLink "LoanRounds" (187 : Nat) ({ cls := "LoanRounds", name := "tasksThatAre", desc := "(I)I" } : Jvm.MethodName)) ∈ TT := tt_of (i := 203) rfl rfl
theorem tw_205 : (Jvm.Cond.instanceMethod ({ cls := "LoanRounds", name := "tasksThatAre", desc := "(I)I" } : Jvm.MethodName)) ∈ TT := tt_of (i := 205) rfl rfl
theorem tw_206 : (Jvm.Cond.code ({ cls := "LoanRounds", name := "tasksThatAre", desc := "(I)I" } : Jvm.MethodName) prog_1_method_25_code (4 : Nat) (Option.some Jvm.ClassFile.FieldType.int)) ∈ TT := tt_of (i := 206) rfl rfl
theorem tw_207 : (Jvm.Cond.methodLink "LoanRounds" (127 : Nat) ({ cls := "LoanRounds$Task", name := "becomeWaiting", desc := "(I)V" } : Jvm.MethodName)) ∈ TT := tt_of (i := 207) rfl rfl
theorem tw_208 : (Jvm.Cond.instanceMethod ({ cls := "LoanRounds$Task", name := "becomeWaiting", desc := "(I)V" } : Jvm.MethodName)) ∈ TT := tt_of (i := 208) rfl rfl
theorem tw_209 : (Jvm.Cond.selects "LoanRounds$Task" ({ cls := "LoanRounds$Task", name := "becomeWaiting", desc := "(I)V" } : Jvm.MethodName) ({ cls := "LoanRounds$Task", name := "becomeWaiting", desc := "(I)V" } : Jvm.MethodName)) ∈ TT := tt_of (i := 209) rfl rfl
theorem tw_210 : (Jvm.Cond.code ({ cls := "LoanRounds$Task", name := "becomeWaiting", desc := "(I)V" } : Jvm.MethodName) prog_4_method_9_code (2 : Nat) (Option.none : Option Jvm.ClassFile.FieldType)) ∈ TT := tt_of (i := 210) rfl rfl
theorem tw_211 : (Jvm.Cond.methodLink "LoanRounds$Task" (85 : Nat) ({ cls := "LoanRounds$Task", name := "become", desc := "(I)V" } : Jvm.MethodName)) ∈ TT := tt_of (i := 211) rfl rfl
theorem tw_212 : (Jvm.Cond.methodLink "LoanRoundsLaw" (73 : Nat) ({ cls := "LoanRounds", name := "set", desc := "(III)Z" } : Jvm.MethodName)) ∈ TT := tt_of (i := 212) rfl rfl
theorem tw_213 : (Jvm.Cond.instanceMethod ({ cls := "LoanRounds", name := "set", desc := "(III)Z" } : Jvm.MethodName)) ∈ TT := tt_of (i := 213) rfl rfl
theorem tw_214 : (Jvm.Cond.selects "LoanRounds" ({ cls := "LoanRounds", name := "set", desc := "(III)Z" } : Jvm.MethodName) ({ cls := "LoanRounds", name := "set", desc := "(III)Z" } : Jvm.MethodName)) ∈ TT := tt_of (i := 214) rfl rfl
theorem tw_215 : (Jvm.Cond.code ({ cls := "LoanRounds", name := "set", desc := "(III)Z" } : Jvm.MethodName) prog_1_method_9_code (5 : Nat) (Option.some Jvm.ClassFile.FieldType.boolean)) ∈ TT := tt_of (i := 215) rfl rfl
theorem tw_216 : (Jvm.Cond.methodLink "LoanRounds" (52 : Nat) ({ cls := "LoanRounds", name := "groupAt", desc := "(I)LLoanRounds$Group;" } : Jvm.MethodName)) ∈ TT := tt_of (i := 216) rfl rfl
theorem tw_218 : (Jvm.Cond.instanceMethod ({ cls := "LoanRounds", name := "groupAt", desc := "(I)LLoanRounds$Group;" } : Jvm.MethodName)) ∈ TT := tt_of (i := 218) rfl rfl
theorem tw_219 : (Jvm.Cond.code ({ cls := "LoanRounds", name := "groupAt", desc := "(I)LLoanRounds$Group;" } : Jvm.MethodName) prog_1_method_19_code (2 : Nat) (Option.some (Jvm.ClassFile.FieldType.object "LoanRounds$Group"))) ∈ TT := tt_of (i := 219) rfl rfl
theorem tw_220 : (Jvm.Cond.methodLink "LoanRounds" (157 : Nat) ({ cls := "LoanRounds", name := "changeLimit", desc := "(LLoanRounds$Group;I)Z" } : Jvm.MethodName)) ∈ TT := tt_of (i := 220) rfl rfl
theorem tw_221 : (Jvm.Cond.static ({ cls := "LoanRounds", name := "changeLimit", desc := "(LLoanRounds$Group;I)Z" } : Jvm.MethodName)) ∈ TT := tt_of (i := 221) rfl rfl
theorem tw_222 : (Jvm.Cond.code ({ cls := "LoanRounds", name := "changeLimit", desc := "(LLoanRounds$Group;I)Z" } : Jvm.MethodName) prog_1_method_17_code (2 : Nat) (Option.some Jvm.ClassFile.FieldType.boolean)) ∈ TT := tt_of (i := 222) rfl rfl
theorem tw_223 : (Jvm.Cond.methodLink "LoanRounds" (37 : Nat) ({ cls := "LoanRounds", name := "queueAt", desc := "(I)LLoanRounds$Queue;" } : Jvm.MethodName)) ∈ TT := tt_of (i := 223) rfl rfl
theorem tw_225 : (Jvm.Cond.instanceMethod ({ cls := "LoanRounds", name := "queueAt", desc := "(I)LLoanRounds$Queue;" } : Jvm.MethodName)) ∈ TT := tt_of (i := 225) rfl rfl
theorem tw_226 : (Jvm.Cond.code ({ cls := "LoanRounds", name := "queueAt", desc := "(I)LLoanRounds$Queue;" } : Jvm.MethodName) prog_1_method_18_code (2 : Nat) (Option.some (Jvm.ClassFile.FieldType.object "LoanRounds$Queue"))) ∈ TT := tt_of (i := 226) rfl rfl
theorem tw_227 : (Jvm.Cond.methodLink "LoanRounds" (161 : Nat) ({ cls := "LoanRounds$Queue", name := "change", desc := "(II)Z" } : Jvm.MethodName)) ∈ TT := tt_of (i := 227) rfl rfl
theorem tw_228 : (Jvm.Cond.instanceMethod ({ cls := "LoanRounds$Queue", name := "change", desc := "(II)Z" } : Jvm.MethodName)) ∈ TT := tt_of (i := 228) rfl rfl
theorem tw_229 : (Jvm.Cond.selects "LoanRounds$Queue" ({ cls := "LoanRounds$Queue", name := "change", desc := "(II)Z" } : Jvm.MethodName) ({ cls := "LoanRounds$Queue", name := "change", desc := "(II)Z" } : Jvm.MethodName)) ∈ TT := tt_of (i := 229) rfl rfl
theorem tw_230 : (Jvm.Cond.code ({ cls := "LoanRounds$Queue", name := "change", desc := "(II)Z" } : Jvm.MethodName) prog_3_method_2_code (3 : Nat) (Option.some Jvm.ClassFile.FieldType.boolean)) ∈ TT := tt_of (i := 230) rfl rfl
theorem tw_231 : (Jvm.Cond.methodLink "LoanRounds$Queue" (30 : Nat) ({ cls := "LoanRounds$Queue", name := "mayBe", desc := "(II)Z" } : Jvm.MethodName)) ∈ TT := tt_of (i := 231) rfl rfl
theorem tw_232 : (Jvm.Cond.static ({ cls := "LoanRounds$Queue", name := "mayBe", desc := "(II)Z" } : Jvm.MethodName)) ∈ TT := tt_of (i := 232) rfl rfl
theorem tw_233 : (Jvm.Cond.code ({ cls := "LoanRounds$Queue", name := "mayBe", desc := "(II)Z" } : Jvm.MethodName) prog_3_method_3_code (2 : Nat) (Option.some Jvm.ClassFile.FieldType.boolean)) ∈ TT := tt_of (i := 233) rfl rfl
theorem tw_235 : (Jvm.Cond.methodLink "LoanRoundsLaw" (81 : Nat) ({ cls := "LoanRounds", name := "first", desc := "(I)I" } : Jvm.MethodName)) ∈ TT := tt_of (i := 235) rfl rfl
theorem tw_236 : (Jvm.Cond.instanceMethod ({ cls := "LoanRounds", name := "first", desc := "(I)I" } : Jvm.MethodName)) ∈ TT := tt_of (i := 236) rfl rfl
theorem tw_237 : (Jvm.Cond.selects "LoanRounds" ({ cls := "LoanRounds", name := "first", desc := "(I)I" } : Jvm.MethodName) ({ cls := "LoanRounds", name := "first", desc := "(I)I" } : Jvm.MethodName)) ∈ TT := tt_of (i := 237) rfl rfl
theorem tw_238 : (Jvm.Cond.code ({ cls := "LoanRounds", name := "first", desc := "(I)I" } : Jvm.MethodName) prog_1_method_11_code (4 : Nat) (Option.some Jvm.ClassFile.FieldType.int)) ∈ TT := tt_of (i := 238) rfl rfl
theorem tw_239 : (Jvm.Cond.methodLink "LoanRounds" (89 : Nat) ({ cls := "LoanRounds", name := "firstOf", desc := "(LLoanRounds$Queue;)LLoanRounds$Task;" } : Jvm.MethodName)) ∈ TT := tt_of (i := 239) rfl rfl
theorem tw_241 : (Jvm.Cond.instanceMethod ({ cls := "LoanRounds", name := "firstOf", desc := "(LLoanRounds$Queue;)LLoanRounds$Task;" } : Jvm.MethodName)) ∈ TT := tt_of (i := 241) rfl rfl
theorem tw_242 : (Jvm.Cond.code ({ cls := "LoanRounds", name := "firstOf", desc := "(LLoanRounds$Queue;)LLoanRounds$Task;" } : Jvm.MethodName) prog_1_method_23_code (5 : Nat) (Option.some (Jvm.ClassFile.FieldType.object "LoanRounds$Task"))) ∈ TT := tt_of (i := 242) rfl rfl
theorem tw_243 : (Jvm.Cond.methodLink "LoanRounds" (210 : Nat) ({ cls := "LoanRounds$Task", name := "mayBeHad", desc := "(I)Z" } : Jvm.MethodName)) ∈ TT := tt_of (i := 243) rfl rfl
theorem tw_244 : (Jvm.Cond.instanceMethod ({ cls := "LoanRounds$Task", name := "mayBeHad", desc := "(I)Z" } : Jvm.MethodName)) ∈ TT := tt_of (i := 244) rfl rfl
theorem tw_245 : (Jvm.Cond.selects "LoanRounds$Task" ({ cls := "LoanRounds$Task", name := "mayBeHad", desc := "(I)Z" } : Jvm.MethodName) ({ cls := "LoanRounds$Task", name := "mayBeHad", desc := "(I)Z" } : Jvm.MethodName)) ∈ TT := tt_of (i := 245) rfl rfl
theorem tw_246 : (Jvm.Cond.code ({ cls := "LoanRounds$Task", name := "mayBeHad", desc := "(I)Z" } : Jvm.MethodName) prog_4_method_4_code (2 : Nat) (Option.some Jvm.ClassFile.FieldType.boolean)) ∈ TT := tt_of (i := 246) rfl rfl
theorem tw_247 : (Jvm.Cond.methodLink "LoanRounds$Task" (51 : Nat) ({ cls := "LoanRounds$Task", name := "isDue", desc := "(I)Z" } : Jvm.MethodName)) ∈ TT := tt_of (i := 247) rfl rfl
theorem tw_248 : (Jvm.Cond.instanceMethod ({ cls := "LoanRounds$Task", name := "isDue", desc := "(I)Z" } : Jvm.MethodName)) ∈ TT := tt_of (i := 248) rfl rfl
theorem tw_249 : (Jvm.Cond.selects "LoanRounds$Task" ({ cls := "LoanRounds$Task", name := "isDue", desc := "(I)Z" } : Jvm.MethodName) ({ cls := "LoanRounds$Task", name := "isDue", desc := "(I)Z" } : Jvm.MethodName)) ∈ TT := tt_of (i := 249) rfl rfl
theorem tw_250 : (Jvm.Cond.code ({ cls := "LoanRounds$Task", name := "isDue", desc := "(I)Z" } : Jvm.MethodName) prog_4_method_3_code (2 : Nat) (Option.some Jvm.ClassFile.FieldType.boolean)) ∈ TT := tt_of (i := 250) rfl rfl
theorem tw_251 : (Jvm.Cond.methodLink "LoanRounds" (213 : Nat) ({ cls := "LoanRounds$Task", name := "goesBefore", desc := "(LLoanRounds$Task;I)Z" } : Jvm.MethodName)) ∈ TT := tt_of (i := 251) rfl rfl
theorem tw_252 : (Jvm.Cond.instanceMethod ({ cls := "LoanRounds$Task", name := "goesBefore", desc := "(LLoanRounds$Task;I)Z" } : Jvm.MethodName)) ∈ TT := tt_of (i := 252) rfl rfl
theorem tw_253 : (Jvm.Cond.selects "LoanRounds$Task" ({ cls := "LoanRounds$Task", name := "goesBefore", desc := "(LLoanRounds$Task;I)Z" } : Jvm.MethodName) ({ cls := "LoanRounds$Task", name := "goesBefore", desc := "(LLoanRounds$Task;I)Z" } : Jvm.MethodName)) ∈ TT := tt_of (i := 253) rfl rfl
theorem tw_254 : (Jvm.Cond.code ({ cls := "LoanRounds$Task", name := "goesBefore", desc := "(LLoanRounds$Task;I)Z" } : Jvm.MethodName) prog_4_method_7_code (5 : Nat) (Option.some Jvm.ClassFile.FieldType.boolean)) ∈ TT := tt_of (i := 254) rfl rfl
theorem tw_255 : (Jvm.Cond.methodLink "LoanRounds$Task" (81 : Nat) ({ cls := "LoanRounds$Task", name := "weight", desc := "(I)I" } : Jvm.MethodName)) ∈ TT := tt_of (i := 255) rfl rfl
theorem tw_256 : (Jvm.Cond.instanceMethod ({ cls := "LoanRounds$Task", name := "weight", desc := "(I)I" } : Jvm.MethodName)) ∈ TT := tt_of (i := 256) rfl rfl
theorem tw_257 : (Jvm.Cond.selects "LoanRounds$Task" ({ cls := "LoanRounds$Task", name := "weight", desc := "(I)I" } : Jvm.MethodName) ({ cls := "LoanRounds$Task", name := "weight", desc := "(I)I" } : Jvm.MethodName)) ∈ TT := tt_of (i := 257) rfl rfl
theorem tw_258 : (Jvm.Cond.code ({ cls := "LoanRounds$Task", name := "weight", desc := "(I)I" } : Jvm.MethodName) prog_4_method_6_code (3 : Nat) (Option.some Jvm.ClassFile.FieldType.int)) ∈ TT := tt_of (i := 258) rfl rfl
theorem tw_259 : (Jvm.Cond.methodLink "LoanRounds$Task" (75 : Nat) ({ cls := "java/lang/Math", name := "min", desc := "(II)I" } : Jvm.MethodName)) ∈ TT := tt_of (i := 259) rfl rfl
theorem tw_260 : (Jvm.Cond.static ({ cls := "java/lang/Math", name := "min", desc := "(II)I" } : Jvm.MethodName)) ∈ TT := tt_of (i := 260) rfl rfl
theorem tw_261 : (Jvm.Cond.code ({ cls := "java/lang/Math", name := "min", desc := "(II)I" } : Jvm.MethodName) prog_13_method_69_code (2 : Nat) (Option.some Jvm.ClassFile.FieldType.int)) ∈ TT := tt_of (i := 261) rfl rfl
theorem tw_262 : (Jvm.Cond.methodLink "LoanRoundsLaw" (85 : Nat) ({ cls := "LoanRounds", name := "next", desc := "()I" } : Jvm.MethodName)) ∈ TT := tt_of (i := 262) rfl rfl
theorem tw_263 : (Jvm.Cond.instanceMethod ({ cls := "LoanRounds", name := "next", desc := "()I" } : Jvm.MethodName)) ∈ TT := tt_of (i := 263) rfl rfl
theorem tw_264 : (Jvm.Cond.selects "LoanRounds" ({ cls := "LoanRounds", name := "next", desc := "()I" } : Jvm.MethodName) ({ cls := "LoanRounds", name := "next", desc := "()I" } : Jvm.MethodName)) ∈ TT := tt_of (i := 264) rfl rfl
theorem tw_265 : (Jvm.Cond.code ({ cls := "LoanRounds", name := "next", desc := "()I" } : Jvm.MethodName) prog_1_method_12_code (4 : Nat) (Option.some Jvm.ClassFile.FieldType.int)) ∈ TT := tt_of (i := 265) rfl rfl
theorem tw_266 : (Jvm.Cond.methodLink "LoanRounds" (184 : Nat) ({ cls := "LoanRounds$Task", name := "comesAt", desc := "()I" } : Jvm.MethodName)) ∈ TT := tt_of (i := 266) rfl rfl
theorem tw_267 : (Jvm.Cond.instanceMethod ({ cls := "LoanRounds$Task", name := "comesAt", desc := "()I" } : Jvm.MethodName)) ∈ TT := tt_of (i := 267) rfl rfl
theorem tw_268 : (Jvm.Cond.selects "LoanRounds$Task" ({ cls := "LoanRounds$Task", name := "comesAt", desc := "()I" } : Jvm.MethodName) ({ cls := "LoanRounds$Task", name := "comesAt", desc := "()I" } : Jvm.MethodName)) ∈ TT := tt_of (i := 268) rfl rfl
theorem tw_269 : (Jvm.Cond.code ({ cls := "LoanRounds$Task", name := "comesAt", desc := "()I" } : Jvm.MethodName) prog_4_method_13_code (1 : Nat) (Option.some Jvm.ClassFile.FieldType.int)) ∈ TT := tt_of (i := 269) rfl rfl
theorem tw_270 : (Jvm.Cond.methodLink "LoanRoundsLaw" (89 : Nat) ({ cls := "LoanRounds", name := "count", desc := "(I)I" } : Jvm.MethodName)) ∈ TT := tt_of (i := 270) rfl rfl
theorem tw_271 : (Jvm.Cond.instanceMethod ({ cls := "LoanRounds", name := "count", desc := "(I)I" } : Jvm.MethodName)) ∈ TT := tt_of (i := 271) rfl rfl
theorem tw_272 : (Jvm.Cond.selects "LoanRounds" ({ cls := "LoanRounds", name := "count", desc := "(I)I" } : Jvm.MethodName) ({ cls := "LoanRounds", name := "count", desc := "(I)I" } : Jvm.MethodName)) ∈ TT := tt_of (i := 272) rfl rfl
theorem tw_273 : (Jvm.Cond.code ({ cls := "LoanRounds", name := "count", desc := "(I)I" } : Jvm.MethodName) prog_1_method_13_code (2 : Nat) (Option.some Jvm.ClassFile.FieldType.int)) ∈ TT := tt_of (i := 273) rfl rfl
theorem tw_274 : (Jvm.Cond.methodLink "LoanRounds" (190 : Nat) ({ cls := "LoanRounds", name := "countOfOne", desc := "(I)I" } : Jvm.MethodName)) ∈ TT := tt_of (i := 274) rfl rfl
theorem tw_276 : (Jvm.Cond.instanceMethod ({ cls := "LoanRounds", name := "countOfOne", desc := "(I)I" } : Jvm.MethodName)) ∈ TT := tt_of (i := 276) rfl rfl
theorem tw_277 : (Jvm.Cond.code ({ cls := "LoanRounds", name := "countOfOne", desc := "(I)I" } : Jvm.MethodName) prog_1_method_14_code (4 : Nat) (Option.some Jvm.ClassFile.FieldType.int)) ∈ TT := tt_of (i := 277) rfl rfl
theorem tw_278 : (Jvm.Cond.methodLink "LoanRounds" (83 : Nat) ({ cls := "LoanRounds", name := "isWorker", desc := "(I)Z" } : Jvm.MethodName)) ∈ TT := tt_of (i := 278) rfl rfl
theorem tw_279 : (Jvm.Cond.static ({ cls := "LoanRounds", name := "isWorker", desc := "(I)Z" } : Jvm.MethodName)) ∈ TT := tt_of (i := 279) rfl rfl
theorem tw_280 : (Jvm.Cond.code ({ cls := "LoanRounds", name := "isWorker", desc := "(I)Z" } : Jvm.MethodName) prog_1_method_16_code (1 : Nat) (Option.some Jvm.ClassFile.FieldType.boolean)) ∈ TT := tt_of (i := 280) rfl rfl
theorem tw_281 : (Jvm.Cond.methodLink "LoanRounds" (93 : Nat) ({ cls := "LoanRounds", name := "lentTo", desc := "(I)I" } : Jvm.MethodName)) ∈ TT := tt_of (i := 281) rfl rfl
theorem tw_283 : (Jvm.Cond.instanceMethod ({ cls := "LoanRounds", name := "lentTo", desc := "(I)I" } : Jvm.MethodName)) ∈ TT := tt_of (i := 283) rfl rfl
theorem tw_284 : (Jvm.Cond.code ({ cls := "LoanRounds", name := "lentTo", desc := "(I)I" } : Jvm.MethodName) prog_1_method_26_code (5 : Nat) (Option.some Jvm.ClassFile.FieldType.int)) ∈ TT := tt_of (i := 284) rfl rfl
theorem tw_285 : (Jvm.Cond.methodLink "LoanRounds" (196 : Nat) ({ cls := "LoanRounds", name := "waitingIn", desc := "(LLoanRounds$Queue;)I" } : Jvm.MethodName)) ∈ TT := tt_of (i := 285) rfl rfl
theorem tw_287 : (Jvm.Cond.instanceMethod ({ cls := "LoanRounds", name := "waitingIn", desc := "(LLoanRounds$Queue;)I" } : Jvm.MethodName)) ∈ TT := tt_of (i := 287) rfl rfl
theorem tw_288 : (Jvm.Cond.code ({ cls := "LoanRounds", name := "waitingIn", desc := "(LLoanRounds$Queue;)I" } : Jvm.MethodName) prog_1_method_27_code (5 : Nat) (Option.some Jvm.ClassFile.FieldType.int)) ∈ TT := tt_of (i := 288) rfl rfl
theorem tw_289 : (Jvm.Cond.methodLink "LoanRoundsLaw" (39 : Nat) ({ cls := "LoanRoundsLaw", name := "add", desc := "(LLoanRounds;IIIJI[J)I" } : Jvm.MethodName)) ∈ TT := tt_of (i := 289) rfl rfl
theorem tw_290 : (Jvm.Cond.static ({ cls := "LoanRoundsLaw", name := "add", desc := "(LLoanRounds;IIIJI[J)I" } : Jvm.MethodName)) ∈ TT := tt_of (i := 290) rfl rfl
theorem tw_292 : (Jvm.Cond.classLink "LoanRoundsLaw" (13 : Nat) "java/lang/IllegalArgumentException") ∈ TT := tt_of (i := 292) rfl rfl
theorem tw_293 : (Jvm.Cond.classLink "LoanRoundsLaw" (15 : Nat) "java/lang/IllegalStateException") ∈ TT := tt_of (i := 293) rfl rfl
theorem tw_294 : (Jvm.Cond.methodLink "LoanRoundsLaw" (7 : Nat) ({ cls := "LoanRounds", name := "add", desc := "(IIIJI)I" } : Jvm.MethodName)) ∈ TT := tt_of (i := 294) rfl rfl
theorem tw_295 : (Jvm.Cond.instanceMethod ({ cls := "LoanRounds", name := "add", desc := "(IIIJI)I" } : Jvm.MethodName)) ∈ TT := tt_of (i := 295) rfl rfl
theorem tw_296 : (Jvm.Cond.selects "LoanRounds" ({ cls := "LoanRounds", name := "add", desc := "(IIIJI)I" } : Jvm.MethodName) ({ cls := "LoanRounds", name := "add", desc := "(IIIJI)I" } : Jvm.MethodName)) ∈ TT := tt_of (i := 296) rfl rfl
theorem tw_297 : (Jvm.Cond.code ({ cls := "LoanRounds", name := "add", desc := "(IIIJI)I" } : Jvm.MethodName) prog_1_method_2_code (10 : Nat) (Option.some Jvm.ClassFile.FieldType.int)) ∈ TT := tt_of (i := 297) rfl rfl
theorem tw_298 : (Jvm.Cond.classLink "LoanRounds" (45 : Nat) "java/lang/IllegalArgumentException") ∈ TT := tt_of (i := 298) rfl rfl
theorem tw_299 : (Jvm.Cond.instantiable "java/lang/IllegalArgumentException" (6 : Nat)) ∈ TT := tt_of (i := 299) rfl rfl
theorem tw_307 : (Jvm.Cond.selects "java/lang/IllegalArgumentException" ({ cls := "java/lang/Throwable", name := "fillInStackTrace", desc := "(I)Ljava/lang/Throwable;" } : Jvm.MethodName) ({ cls := "java/lang/Throwable", name := "fillInStackTrace", desc := "(I)Ljava/lang/Throwable;" } : Jvm.MethodName)) ∈ TT := tt_of (i := 307) rfl rfl
theorem tw_308 : (Jvm.Cond.selects "java/lang/IllegalArgumentException" ({ cls := "java/lang/Throwable", name := "fillInStackTrace", desc := "()Ljava/lang/Throwable;" } : Jvm.MethodName) ({ cls := "java/lang/Throwable", name := "fillInStackTrace", desc := "()Ljava/lang/Throwable;" } : Jvm.MethodName)) ∈ TT := tt_of (i := 308) rfl rfl
theorem tw_309 : (Jvm.Cond.lays "java/lang/IllegalArgumentException" "java/lang/Throwable" "cause" "Ljava/lang/Throwable;") ∈ TT := tt_of (i := 309) rfl rfl
theorem tw_310 : (Jvm.Cond.lays "java/lang/Throwable" "java/lang/Throwable" "cause" "Ljava/lang/Throwable;") ∈ TT := tt_of (i := 310) rfl rfl
theorem tw_311 : (Jvm.Cond.lays "java/lang/IllegalArgumentException" "java/lang/Throwable" "stackTrace" "[Ljava/lang/StackTraceElement;") ∈ TT := tt_of (i := 311) rfl rfl
theorem tw_312 : (Jvm.Cond.lays "java/lang/Throwable" "java/lang/Throwable" "stackTrace" "[Ljava/lang/StackTraceElement;") ∈ TT := tt_of (i := 312) rfl rfl
theorem tw_313 : (Jvm.Cond.lays "java/lang/IllegalArgumentException" "java/lang/Throwable" "suppressedExceptions" "Ljava/util/List;") ∈ TT := tt_of (i := 313) rfl rfl
theorem tw_314 : (Jvm.Cond.lays "java/lang/Throwable" "java/lang/Throwable" "suppressedExceptions" "Ljava/util/List;") ∈ TT := tt_of (i := 314) rfl rfl
theorem tw_315 : (Jvm.Cond.lays "java/lang/IllegalArgumentException" "java/lang/Throwable" "detailMessage" "Ljava/lang/String;") ∈ TT := tt_of (i := 315) rfl rfl
theorem tw_316 : (Jvm.Cond.lays "java/lang/Throwable" "java/lang/Throwable" "detailMessage" "Ljava/lang/String;") ∈ TT := tt_of (i := 316) rfl rfl
theorem tw_317 : (Jvm.Cond.lays "java/lang/IllegalArgumentException" "java/lang/Throwable" "backtrace" "Ljava/lang/Object;") ∈ TT := tt_of (i := 317) rfl rfl
theorem tw_318 : (Jvm.Cond.lays "java/lang/Throwable" "java/lang/Throwable" "backtrace" "Ljava/lang/Object;") ∈ TT := tt_of (i := 318) rfl rfl
theorem tw_319 : (Jvm.Cond.fieldLink "java/lang/Throwable" (198 : Nat) "java/lang/Throwable" "backtrace" "Ljava/lang/Object;") ∈ TT := tt_of (i := 319) rfl rfl
theorem tw_320 : (Jvm.Cond.superclass "java/lang/Throwable" "java/lang/Object") ∈ TT := tt_of (i := 320) rfl rfl
theorem tw_321 : (Jvm.Cond.instanceMethod ({ cls := "java/lang/Throwable", name := "<init>", desc := "()V" } : Jvm.MethodName)) ∈ TT := tt_of (i := 321) rfl rfl
theorem tw_322 : (Jvm.Cond.code ({ cls := "java/lang/Throwable", name := "<init>", desc := "()V" } : Jvm.MethodName) prog_17_method_1_code (1 : Nat) (Option.none : Option Jvm.ClassFile.FieldType)) ∈ TT := tt_of (i := 322) rfl rfl
theorem tw_323 : (Jvm.Cond.methodLink "java/lang/Throwable" (1 : Nat) ({ cls := "java/lang/Object", name := "<init>", desc := "()V" } : Jvm.MethodName)) ∈ TT := tt_of (i := 323) rfl rfl
theorem tw_324 : (Jvm.Cond.fieldLink "java/lang/Throwable" (13 : Nat) "java/lang/Throwable" "UNASSIGNED_STACK" "[Ljava/lang/StackTraceElement;") ∈ TT := tt_of (i := 324) rfl rfl
theorem tw_326 : (Jvm.Cond.fieldLink "java/lang/Throwable" (20 : Nat) "java/lang/Throwable" "SUPPRESSED_SENTINEL" "Ljava/util/List;") ∈ TT := tt_of (i := 326) rfl rfl
theorem tw_328 : (Jvm.Cond.methodLink "java/lang/Throwable" (27 : Nat) ({ cls := "java/lang/Throwable", name := "fillInStackTrace", desc := "()Ljava/lang/Throwable;" } : Jvm.MethodName)) ∈ TT := tt_of (i := 328) rfl rfl
theorem tw_329 : (Jvm.Cond.instanceMethod ({ cls := "java/lang/Throwable", name := "fillInStackTrace", desc := "()Ljava/lang/Throwable;" } : Jvm.MethodName)) ∈ TT := tt_of (i := 329) rfl rfl
theorem tw_330 : (Jvm.Cond.sameMethod "java/lang/Throwable" "java/lang/Throwable" "fillInStackTrace" "()Ljava/lang/Throwable;") ∈ TT := tt_of (i := 330) rfl rfl
theorem tw_331 : (Jvm.Cond.selects "java/lang/IllegalStateException" ({ cls := "java/lang/Throwable", name := "fillInStackTrace", desc := "()Ljava/lang/Throwable;" } : Jvm.MethodName) ({ cls := "java/lang/Throwable", name := "fillInStackTrace", desc := "()Ljava/lang/Throwable;" } : Jvm.MethodName)) ∈ TT := tt_of (i := 331) rfl rfl
theorem tw_332 : (Jvm.Cond.selects "java/util/NoSuchElementException" ({ cls := "java/lang/Throwable", name := "fillInStackTrace", desc := "()Ljava/lang/Throwable;" } : Jvm.MethodName) ({ cls := "java/lang/Throwable", name := "fillInStackTrace", desc := "()Ljava/lang/Throwable;" } : Jvm.MethodName)) ∈ TT := tt_of (i := 332) rfl rfl
theorem tw_334 : (Jvm.Cond.methodLink "java/lang/Throwable" (202 : Nat) ({ cls := "java/lang/Throwable", name := "fillInStackTrace", desc := "(I)Ljava/lang/Throwable;" } : Jvm.MethodName)) ∈ TT := tt_of (i := 334) rfl rfl
theorem tw_336 : (Jvm.Cond.instanceMethod ({ cls := "java/lang/Throwable", name := "fillInStackTrace", desc := "(I)Ljava/lang/Throwable;" } : Jvm.MethodName)) ∈ TT := tt_of (i := 336) rfl rfl
theorem tw_337 : (Jvm.Cond.instantiable "java/lang/Throwable" (6 : Nat)) ∈ TT := tt_of (i := 337) rfl rfl
theorem tw_340 : (Jvm.Cond.methodLink "LoanRounds" (49 : Nat) ({ cls := "java/lang/IllegalArgumentException", name := "<init>", desc := "(Ljava/lang/String;)V" } : Jvm.MethodName)) ∈ TT := tt_of (i := 340) rfl rfl
theorem tw_341 : (Jvm.Cond.instanceMethod ({ cls := "java/lang/IllegalArgumentException", name := "<init>", desc := "(Ljava/lang/String;)V" } : Jvm.MethodName)) ∈ TT := tt_of (i := 341) rfl rfl
theorem tw_342 : (Jvm.Cond.code ({ cls := "java/lang/IllegalArgumentException", name := "<init>", desc := "(Ljava/lang/String;)V" } : Jvm.MethodName) prog_10_method_2_code (2 : Nat) (Option.none : Option Jvm.ClassFile.FieldType)) ∈ TT := tt_of (i := 342) rfl rfl
theorem tw_343 : (Jvm.Cond.methodLink "java/lang/IllegalArgumentException" (7 : Nat) ({ cls := "java/lang/RuntimeException", name := "<init>", desc := "(Ljava/lang/String;)V" } : Jvm.MethodName)) ∈ TT := tt_of (i := 343) rfl rfl
theorem tw_344 : (Jvm.Cond.instanceMethod ({ cls := "java/lang/RuntimeException", name := "<init>", desc := "(Ljava/lang/String;)V" } : Jvm.MethodName)) ∈ TT := tt_of (i := 344) rfl rfl
theorem tw_345 : (Jvm.Cond.code ({ cls := "java/lang/RuntimeException", name := "<init>", desc := "(Ljava/lang/String;)V" } : Jvm.MethodName) prog_14_method_2_code (2 : Nat) (Option.none : Option Jvm.ClassFile.FieldType)) ∈ TT := tt_of (i := 345) rfl rfl
theorem tw_346 : (Jvm.Cond.methodLink "java/lang/RuntimeException" (7 : Nat) ({ cls := "java/lang/Exception", name := "<init>", desc := "(Ljava/lang/String;)V" } : Jvm.MethodName)) ∈ TT := tt_of (i := 346) rfl rfl
theorem tw_347 : (Jvm.Cond.instanceMethod ({ cls := "java/lang/Exception", name := "<init>", desc := "(Ljava/lang/String;)V" } : Jvm.MethodName)) ∈ TT := tt_of (i := 347) rfl rfl
theorem tw_348 : (Jvm.Cond.code ({ cls := "java/lang/Exception", name := "<init>", desc := "(Ljava/lang/String;)V" } : Jvm.MethodName) prog_9_method_2_code (2 : Nat) (Option.none : Option Jvm.ClassFile.FieldType)) ∈ TT := tt_of (i := 348) rfl rfl
theorem tw_349 : (Jvm.Cond.methodLink "java/lang/Exception" (7 : Nat) ({ cls := "java/lang/Throwable", name := "<init>", desc := "(Ljava/lang/String;)V" } : Jvm.MethodName)) ∈ TT := tt_of (i := 349) rfl rfl
theorem tw_350 : (Jvm.Cond.instanceMethod ({ cls := "java/lang/Throwable", name := "<init>", desc := "(Ljava/lang/String;)V" } : Jvm.MethodName)) ∈ TT := tt_of (i := 350) rfl rfl
theorem tw_351 : (Jvm.Cond.code ({ cls := "java/lang/Throwable", name := "<init>", desc := "(Ljava/lang/String;)V" } : Jvm.MethodName) prog_17_method_2_code (2 : Nat) (Option.none : Option Jvm.ClassFile.FieldType)) ∈ TT := tt_of (i := 351) rfl rfl
theorem tw_352 : (Jvm.Cond.fieldLink "java/lang/Throwable" (198 : Nat) "java/lang/Throwable" "backtrace" "Ljava/lang/Object;") ∈ TT := tt_of (i := 352) rfl rfl
theorem tw_353 : (Jvm.Cond.fieldLink "java/lang/Throwable" (31 : Nat) "java/lang/Throwable" "detailMessage" "Ljava/lang/String;") ∈ TT := tt_of (i := 353) rfl rfl
theorem tw_354 : (Jvm.Cond.fieldLink "java/lang/Throwable" (7 : Nat) "java/lang/Throwable" "cause" "Ljava/lang/Throwable;") ∈ TT := tt_of (i := 354) rfl rfl
theorem tw_355 : (Jvm.Cond.fieldLink "java/lang/Throwable" (17 : Nat) "java/lang/Throwable" "stackTrace" "[Ljava/lang/StackTraceElement;") ∈ TT := tt_of (i := 355) rfl rfl
theorem tw_356 : (Jvm.Cond.fieldLink "java/lang/Throwable" (24 : Nat) "java/lang/Throwable" "suppressedExceptions" "Ljava/util/List;") ∈ TT := tt_of (i := 356) rfl rfl
theorem tw_361 : (Jvm.Cond.lays "java/lang/IllegalArgumentException" "java/lang/Throwable" "depth" "I") ∈ TT := tt_of (i := 361) rfl rfl
theorem tw_364 : (Jvm.Cond.superclass "java/lang/IllegalArgumentException" "java/lang/RuntimeException") ∈ TT := tt_of (i := 364) rfl rfl
theorem tw_365 : (Jvm.Cond.arrayClass Jvm.ClassFile.FieldType.byte) ∈ TT := tt_of (i := 365) rfl rfl
theorem tw_367 : (Jvm.Cond.methodLink "LoanRounds" (58 : Nat) ({ cls := "LoanRounds", name := "numberUnder", desc := "(LLoanRounds$Queue;J)I" } : Jvm.MethodName)) ∈ TT := tt_of (i := 367) rfl rfl
theorem tw_369 : (Jvm.Cond.instanceMethod ({ cls := "LoanRounds", name := "numberUnder", desc := "(LLoanRounds$Queue;J)I" } : Jvm.MethodName)) ∈ TT := tt_of (i := 369) rfl rfl
theorem tw_370 : (Jvm.Cond.code ({ cls := "LoanRounds", name := "numberUnder", desc := "(LLoanRounds$Queue;J)I" } : Jvm.MethodName) prog_1_method_22_code (6 : Nat) (Option.some Jvm.ClassFile.FieldType.int)) ∈ TT := tt_of (i := 370) rfl rfl
theorem tw_371 : (Jvm.Cond.methodLink "LoanRounds" (207 : Nat) ({ cls := "LoanRounds$Task", name := "holdsKey", desc := "(I)Z" } : Jvm.MethodName)) ∈ TT := tt_of (i := 371) rfl rfl
theorem tw_372 : (Jvm.Cond.instanceMethod ({ cls := "LoanRounds$Task", name := "holdsKey", desc := "(I)Z" } : Jvm.MethodName)) ∈ TT := tt_of (i := 372) rfl rfl
theorem tw_373 : (Jvm.Cond.selects "LoanRounds$Task" ({ cls := "LoanRounds$Task", name := "holdsKey", desc := "(I)Z" } : Jvm.MethodName) ({ cls := "LoanRounds$Task", name := "holdsKey", desc := "(I)Z" } : Jvm.MethodName)) ∈ TT := tt_of (i := 373) rfl rfl
theorem tw_374 : (Jvm.Cond.code ({ cls := "LoanRounds$Task", name := "holdsKey", desc := "(I)Z" } : Jvm.MethodName) prog_4_method_5_code (2 : Nat) (Option.some Jvm.ClassFile.FieldType.boolean)) ∈ TT := tt_of (i := 374) rfl rfl
theorem tw_375 : (Jvm.Cond.methodLink "LoanRounds$Task" (63 : Nat) ({ cls := "LoanRounds$Task", name := "isLive", desc := "()Z" } : Jvm.MethodName)) ∈ TT := tt_of (i := 375) rfl rfl
theorem tw_376 : (Jvm.Cond.classLink "LoanRounds" (69 : Nat) "java/lang/IllegalStateException") ∈ TT := tt_of (i := 376) rfl rfl
theorem tw_377 : (Jvm.Cond.instantiable "java/lang/IllegalStateException" (6 : Nat)) ∈ TT := tt_of (i := 377) rfl rfl
theorem tw_379 : (Jvm.Cond.selects "java/lang/IllegalStateException" ({ cls := "java/lang/Throwable", name := "fillInStackTrace", desc := "(I)Ljava/lang/Throwable;" } : Jvm.MethodName) ({ cls := "java/lang/Throwable", name := "fillInStackTrace", desc := "(I)Ljava/lang/Throwable;" } : Jvm.MethodName)) ∈ TT := tt_of (i := 379) rfl rfl
set_option maxRecDepth 20000 in
theorem tw_380 : (Jvm.Cond.lays "java/lang/IllegalStateException" "java/lang/Throwable" "cause" "Ljava/lang/Throwable;") ∈ TT := tt_of (i := 380) rfl rfl
set_option maxRecDepth 20000 in
theorem tw_381 : (Jvm.Cond.lays "java/lang/IllegalStateException" "java/lang/Throwable" "stackTrace" "[Ljava/lang/StackTraceElement;") ∈ TT := tt_of (i := 381) rfl rfl
set_option maxRecDepth 20000 in
theorem tw_382 : (Jvm.Cond.lays "java/lang/IllegalStateException" "java/lang/Throwable" "suppressedExceptions" "Ljava/util/List;") ∈ TT := tt_of (i := 382) rfl rfl
set_option maxRecDepth 20000 in
theorem tw_383 : (Jvm.Cond.lays "java/lang/IllegalStateException" "java/lang/Throwable" "detailMessage" "Ljava/lang/String;") ∈ TT := tt_of (i := 383) rfl rfl
set_option maxRecDepth 20000 in
theorem tw_384 : (Jvm.Cond.lays "java/lang/IllegalStateException" "java/lang/Throwable" "backtrace" "Ljava/lang/Object;") ∈ TT := tt_of (i := 384) rfl rfl
set_option maxRecDepth 20000 in
theorem tw_386 : (Jvm.Cond.methodLink "LoanRounds" (73 : Nat) ({ cls := "java/lang/IllegalStateException", name := "<init>", desc := "(Ljava/lang/String;)V" } : Jvm.MethodName)) ∈ TT := tt_of (i := 386) rfl rfl
set_option maxRecDepth 20000 in
theorem tw_387 : (Jvm.Cond.instanceMethod ({ cls := "java/lang/IllegalStateException", name := "<init>", desc := "(Ljava/lang/String;)V" } : Jvm.MethodName)) ∈ TT := tt_of (i := 387) rfl rfl
set_option maxRecDepth 20000 in
theorem tw_388 : (Jvm.Cond.code ({ cls := "java/lang/IllegalStateException", name := "<init>", desc := "(Ljava/lang/String;)V" } : Jvm.MethodName) prog_11_method_2_code (2 : Nat) (Option.none : Option Jvm.ClassFile.FieldType)) ∈ TT := tt_of (i := 388) rfl rfl
set_option maxRecDepth 20000 in
theorem tw_389 : (Jvm.Cond.methodLink "java/lang/IllegalStateException" (7 : Nat) ({ cls := "java/lang/RuntimeException", name := "<init>", desc := "(Ljava/lang/String;)V" } : Jvm.MethodName)) ∈ TT := tt_of (i := 389) rfl rfl
set_option maxRecDepth 20000 in
theorem tw_390 : (Jvm.Cond.lays "java/lang/IllegalStateException" "java/lang/Throwable" "depth" "I") ∈ TT := tt_of (i := 390) rfl rfl
set_option maxRecDepth 20000 in
theorem tw_391 : (Jvm.Cond.superclass "java/lang/IllegalStateException" "java/lang/RuntimeException") ∈ TT := tt_of (i := 391) rfl rfl
set_option maxRecDepth 20000 in
theorem tw_392 : (Jvm.Cond.instantiable "LoanRounds$Task" (12 : Nat)) ∈ TT := tt_of (i := 392) rfl rfl
set_option maxRecDepth 20000 in
theorem tw_393 : (Jvm.Cond.methodLink "LoanRounds" (76 : Nat) ({ cls := "LoanRounds$Task", name := "<init>", desc := "(ILLoanRounds$Queue;ILLoanRounds$Group;JI)V" } : Jvm.MethodName)) ∈ TT := tt_of (i := 393) rfl rfl
set_option maxRecDepth 20000 in
theorem tw_394 : (Jvm.Cond.instanceMethod ({ cls := "LoanRounds$Task", name := "<init>", desc := "(ILLoanRounds$Queue;ILLoanRounds$Group;JI)V" } : Jvm.MethodName)) ∈ TT := tt_of (i := 394) rfl rfl
set_option maxRecDepth 20000 in
theorem tw_395 : (Jvm.Cond.code ({ cls := "LoanRounds$Task", name := "<init>", desc := "(ILLoanRounds$Queue;ILLoanRounds$Group;JI)V" } : Jvm.MethodName) prog_4_method_1_code (8 : Nat) (Option.none : Option Jvm.ClassFile.FieldType)) ∈ TT := tt_of (i := 395) rfl rfl
set_option maxRecDepth 20000 in
theorem tw_396 : (Jvm.Cond.methodLink "LoanRounds$Task" (3 : Nat) ({ cls := "java/lang/Object", name := "<init>", desc := "()V" } : Jvm.MethodName)) ∈ TT := tt_of (i := 396) rfl rfl
set_option maxRecDepth 20000 in
theorem tw_397 : (Jvm.Cond.fieldLink "LoanRounds$Task" (30 : Nat) "LoanRounds$Task" "number" "I") ∈ TT := tt_of (i := 397) rfl rfl
set_option maxRecDepth 20000 in
theorem tw_398 : (Jvm.Cond.fieldLink "LoanRounds" (135 : Nat) "LoanRounds$Task" "number" "I") ∈ TT := tt_of (i := 398) rfl rfl
set_option maxRecDepth 20000 in
theorem tw_399 : (Jvm.Cond.fieldLink "LoanRounds$Task" (33 : Nat) "LoanRounds$Task" "queue" "LLoanRounds$Queue;") ∈ TT := tt_of (i := 399) rfl rfl
set_option maxRecDepth 20000 in
theorem tw_400 : (Jvm.Cond.fieldLink "LoanRounds" (105 : Nat) "LoanRounds$Task" "queue" "LLoanRounds$Queue;") ∈ TT := tt_of (i := 400) rfl rfl
set_option maxRecDepth 20000 in
theorem tw_401 : (Jvm.Cond.fieldLink "LoanRounds$Task" (37 : Nat) "LoanRounds$Task" "rank" "I") ∈ TT := tt_of (i := 401) rfl rfl
set_option maxRecDepth 20000 in
theorem tw_402 : (Jvm.Cond.fieldLink "LoanRounds$Task" (40 : Nat) "LoanRounds$Task" "group" "LLoanRounds$Group;") ∈ TT := tt_of (i := 402) rfl rfl
set_option maxRecDepth 20000 in
theorem tw_403 : (Jvm.Cond.fieldLink "LoanRounds$Task" (44 : Nat) "LoanRounds$Task" "key" "J") ∈ TT := tt_of (i := 403) rfl rfl
set_option maxRecDepth 20000 in
theorem tw_404 : (Jvm.Cond.fieldLink "LoanRounds" (203 : Nat) "LoanRounds$Task" "key" "J") ∈ TT := tt_of (i := 404) rfl rfl
set_option maxRecDepth 20000 in
theorem tw_405 : (Jvm.Cond.fieldLink "LoanRounds$Task" (9 : Nat) "LoanRounds$Task" "state" "I") ∈ TT := tt_of (i := 405) rfl rfl
set_option maxRecDepth 20000 in
theorem tw_406 : (Jvm.Cond.fieldLink "LoanRounds" (144 : Nat) "LoanRounds$Task" "state" "I") ∈ TT := tt_of (i := 406) rfl rfl
set_option maxRecDepth 20000 in
theorem tw_407 : (Jvm.Cond.fieldLink "LoanRounds$Task" (15 : Nat) "LoanRounds$Task" "tries" "I") ∈ TT := tt_of (i := 407) rfl rfl
set_option maxRecDepth 20000 in
theorem tw_408 : (Jvm.Cond.fieldLink "LoanRounds" (130 : Nat) "LoanRounds$Task" "tries" "I") ∈ TT := tt_of (i := 408) rfl rfl
set_option maxRecDepth 20000 in
theorem tw_409 : (Jvm.Cond.fieldLink "LoanRounds$Task" (48 : Nat) "LoanRounds$Task" "dueAt" "I") ∈ TT := tt_of (i := 409) rfl rfl
set_option maxRecDepth 20000 in
theorem tw_410 : (Jvm.Cond.fieldLink "LoanRounds" (167 : Nat) "LoanRounds$Task" "dueAt" "I") ∈ TT := tt_of (i := 410) rfl rfl
set_option maxRecDepth 20000 in
theorem tw_411 : (Jvm.Cond.fieldLink "LoanRounds$Task" (18 : Nat) "LoanRounds$Task" "endsAt" "I") ∈ TT := tt_of (i := 411) rfl rfl
set_option maxRecDepth 20000 in
theorem tw_412 : (Jvm.Cond.fieldLink "LoanRounds" (112 : Nat) "LoanRounds$Task" "endsAt" "I") ∈ TT := tt_of (i := 412) rfl rfl
set_option maxRecDepth 20000 in
theorem tw_413 : (Jvm.Cond.fieldLink "LoanRounds$Task" (21 : Nat) "LoanRounds$Task" "worker" "I") ∈ TT := tt_of (i := 413) rfl rfl
set_option maxRecDepth 20000 in
theorem tw_414 : (Jvm.Cond.fieldLink "LoanRounds" (170 : Nat) "LoanRounds$Task" "worker" "I") ∈ TT := tt_of (i := 414) rfl rfl
set_option maxRecDepth 20000 in
theorem tw_415 : (Jvm.Cond.fieldLink "LoanRounds$Task" (24 : Nat) "LoanRounds$Task" "token" "I") ∈ TT := tt_of (i := 415) rfl rfl
set_option maxRecDepth 20000 in
theorem tw_416 : (Jvm.Cond.fieldLink "LoanRounds" (173 : Nat) "LoanRounds$Task" "token" "I") ∈ TT := tt_of (i := 416) rfl rfl
set_option maxRecDepth 20000 in
theorem tw_417 : (Jvm.Cond.fieldLink "LoanRounds$Task" (27 : Nat) "LoanRounds$Task" "doneAt" "I") ∈ TT := tt_of (i := 417) rfl rfl
set_option maxRecDepth 20000 in
theorem tw_418 : (Jvm.Cond.laysFinal "LoanRounds$Task" "LoanRounds$Task" "number" "I") ∈ TT := tt_of (i := 418) rfl rfl
set_option maxRecDepth 20000 in
theorem tw_420 : (Jvm.Cond.laysFinal "LoanRounds$Task" "LoanRounds$Task" "queue" "LLoanRounds$Queue;") ∈ TT := tt_of (i := 420) rfl rfl
set_option maxRecDepth 20000 in
theorem tw_422 : (Jvm.Cond.laysFinal "LoanRounds$Task" "LoanRounds$Task" "rank" "I") ∈ TT := tt_of (i := 422) rfl rfl
set_option maxRecDepth 20000 in
theorem tw_424 : (Jvm.Cond.laysFinal "LoanRounds$Task" "LoanRounds$Task" "group" "LLoanRounds$Group;") ∈ TT := tt_of (i := 424) rfl rfl
set_option maxRecDepth 20000 in
theorem tw_426 : (Jvm.Cond.laysFinal "LoanRounds$Task" "LoanRounds$Task" "key" "J") ∈ TT := tt_of (i := 426) rfl rfl
set_option maxRecDepth 20000 in
theorem tw_428 : (Jvm.Cond.lays "LoanRounds$Task" "LoanRounds$Task" "state" "I") ∈ TT := tt_of (i := 428) rfl rfl
set_option maxRecDepth 20000 in
theorem tw_430 : (Jvm.Cond.lays "LoanRounds$Task" "LoanRounds$Task" "tries" "I") ∈ TT := tt_of (i := 430) rfl rfl
set_option maxRecDepth 20000 in
theorem tw_432 : (Jvm.Cond.lays "LoanRounds$Task" "LoanRounds$Task" "dueAt" "I") ∈ TT := tt_of (i := 432) rfl rfl
set_option maxRecDepth 20000 in
theorem tw_434 : (Jvm.Cond.lays "LoanRounds$Task" "LoanRounds$Task" "endsAt" "I") ∈ TT := tt_of (i := 434) rfl rfl
set_option maxRecDepth 20000 in
theorem tw_436 : (Jvm.Cond.lays "LoanRounds$Task" "LoanRounds$Task" "worker" "I") ∈ TT := tt_of (i := 436) rfl rfl
set_option maxRecDepth 20000 in
theorem tw_438 : (Jvm.Cond.lays "LoanRounds$Task" "LoanRounds$Task" "token" "I") ∈ TT := tt_of (i := 438) rfl rfl
set_option maxRecDepth 20000 in
theorem tw_440 : (Jvm.Cond.lays "LoanRounds$Task" "LoanRounds$Task" "doneAt" "I") ∈ TT := tt_of (i := 440) rfl rfl
set_option maxRecDepth 20000 in
theorem tw_442 : (Jvm.Cond.superclass "LoanRounds$Task" "java/lang/Object") ∈ TT := tt_of (i := 442) rfl rfl
set_option maxRecDepth 20000 in
theorem tw_443 : (Jvm.Cond.methodLink "LoanRounds" (79 : Nat) ({ cls := "java/util/ArrayList", name := "add", desc := "(Ljava/lang/Object;)Z" } : Jvm.MethodName)) ∈ TT := tt_of (i := 443) rfl rfl
set_option maxRecDepth 20000 in
theorem tw_444 : (Jvm.Cond.instanceMethod ({ cls := "java/util/ArrayList", name := "add", desc := "(Ljava/lang/Object;)Z" } : Jvm.MethodName)) ∈ TT := tt_of (i := 444) rfl rfl
set_option maxRecDepth 20000 in
theorem tw_445 : (Jvm.Cond.selects "java/util/ArrayList" ({ cls := "java/util/ArrayList", name := "add", desc := "(Ljava/lang/Object;)Z" } : Jvm.MethodName) ({ cls := "java/util/ArrayList", name := "add", desc := "(Ljava/lang/Object;)Z" } : Jvm.MethodName)) ∈ TT := tt_of (i := 445) rfl rfl
set_option maxRecDepth 20000 in
theorem tw_446 : (Jvm.Cond.code ({ cls := "java/util/ArrayList", name := "add", desc := "(Ljava/lang/Object;)Z" } : Jvm.MethodName) prog_20_method_25_code (2 : Nat) (Option.some Jvm.ClassFile.FieldType.boolean)) ∈ TT := tt_of (i := 446) rfl rfl
set_option maxRecDepth 20000 in
theorem tw_447 : (Jvm.Cond.methodLink "java/util/ArrayList" (131 : Nat) ({ cls := "java/util/ArrayList", name := "add", desc := "(Ljava/lang/Object;[Ljava/lang/Object;I)V" } : Jvm.MethodName)) ∈ TT := tt_of (i := 447) rfl rfl
set_option maxRecDepth 20000 in
theorem tw_449 : (Jvm.Cond.instanceMethod ({ cls := "java/util/ArrayList", name := "add", desc := "(Ljava/lang/Object;[Ljava/lang/Object;I)V" } : Jvm.MethodName)) ∈ TT := tt_of (i := 449) rfl rfl
set_option maxRecDepth 20000 in
theorem tw_450 : (Jvm.Cond.code ({ cls := "java/util/ArrayList", name := "add", desc := "(Ljava/lang/Object;[Ljava/lang/Object;I)V" } : Jvm.MethodName) prog_20_method_24_code (4 : Nat) (Option.none : Option Jvm.ClassFile.FieldType)) ∈ TT := tt_of (i := 450) rfl rfl
set_option maxRecDepth 20000 in
theorem tw_451 : (Jvm.Cond.methodLink "java/util/ArrayList" (129 : Nat) ({ cls := "java/util/ArrayList", name := "grow", desc := "()[Ljava/lang/Object;" } : Jvm.MethodName)) ∈ TT := tt_of (i := 451) rfl rfl
set_option maxRecDepth 20000 in
theorem tw_453 : (Jvm.Cond.instanceMethod ({ cls := "java/util/ArrayList", name := "grow", desc := "()[Ljava/lang/Object;" } : Jvm.MethodName)) ∈ TT := tt_of (i := 453) rfl rfl
set_option maxRecDepth 20000 in
theorem tw_454 : (Jvm.Cond.code ({ cls := "java/util/ArrayList", name := "grow", desc := "()[Ljava/lang/Object;" } : Jvm.MethodName) prog_20_method_7_code (1 : Nat) (Option.some (Jvm.ClassFile.FieldType.array (Jvm.ClassFile.FieldType.object "java/lang/Object")))) ∈ TT := tt_of (i := 454) rfl rfl
set_option maxRecDepth 20000 in
theorem tw_455 : (Jvm.Cond.methodLink "java/util/ArrayList" (69 : Nat) ({ cls := "java/util/ArrayList", name := "grow", desc := "(I)[Ljava/lang/Object;" } : Jvm.MethodName)) ∈ TT := tt_of (i := 455) rfl rfl
set_option maxRecDepth 20000 in
theorem tw_457 : (Jvm.Cond.instanceMethod ({ cls := "java/util/ArrayList", name := "grow", desc := "(I)[Ljava/lang/Object;" } : Jvm.MethodName)) ∈ TT := tt_of (i := 457) rfl rfl
set_option maxRecDepth 20000 in
theorem tw_458 : (Jvm.Cond.code ({ cls := "java/util/ArrayList", name := "grow", desc := "(I)[Ljava/lang/Object;" } : Jvm.MethodName) prog_20_method_6_code (4 : Nat) (Option.some (Jvm.ClassFile.FieldType.array (Jvm.ClassFile.FieldType.object "java/lang/Object")))) ∈ TT := tt_of (i := 458) rfl rfl
set_option maxRecDepth 20000 in
theorem tw_459 : (Jvm.Cond.methodLink "java/util/ArrayList" (73 : Nat) ({ cls := "jdk/internal/util/ArraysSupport", name := "newLength", desc := "(III)I" } : Jvm.MethodName)) ∈ TT := tt_of (i := 459) rfl rfl
set_option maxRecDepth 20000 in
theorem tw_460 : (Jvm.Cond.static ({ cls := "jdk/internal/util/ArraysSupport", name := "newLength", desc := "(III)I" } : Jvm.MethodName)) ∈ TT := tt_of (i := 460) rfl rfl
set_option maxRecDepth 20000 in
theorem tw_461 : (Jvm.Cond.code ({ cls := "jdk/internal/util/ArraysSupport", name := "newLength", desc := "(III)I" } : Jvm.MethodName) prog_28_method_27_code (4 : Nat) (Option.some Jvm.ClassFile.FieldType.int)) ∈ TT := tt_of (i := 461) rfl rfl
set_option maxRecDepth 20000 in
theorem tw_462 : (Jvm.Cond.methodLink "jdk/internal/util/ArraysSupport" (194 : Nat) ({ cls := "java/lang/Math", name := "max", desc := "(II)I" } : Jvm.MethodName)) ∈ TT := tt_of (i := 462) rfl rfl
set_option maxRecDepth 20000 in
theorem tw_463 : (Jvm.Cond.static ({ cls := "java/lang/Math", name := "max", desc := "(II)I" } : Jvm.MethodName)) ∈ TT := tt_of (i := 463) rfl rfl
set_option maxRecDepth 20000 in
theorem tw_464 : (Jvm.Cond.code ({ cls := "java/lang/Math", name := "max", desc := "(II)I" } : Jvm.MethodName) prog_13_method_65_code (2 : Nat) (Option.some Jvm.ClassFile.FieldType.int)) ∈ TT := tt_of (i := 464) rfl rfl
set_option maxRecDepth 20000 in
theorem tw_465 : (Jvm.Cond.constant "jdk/internal/util/ArraysSupport" (200 : Nat) (2147483639 : Int32)) ∈ TT := tt_of (i := 465) rfl rfl
set_option maxRecDepth 20000 in
theorem tw_466 : (Jvm.Cond.methodLink "jdk/internal/util/ArraysSupport" (201 : Nat) ({ cls := "jdk/internal/util/ArraysSupport", name := "hugeLength", desc := "(II)I" } : Jvm.MethodName)) ∈ TT := tt_of (i := 466) rfl rfl
set_option maxRecDepth 20000 in
theorem tw_467 : (Jvm.Cond.static ({ cls := "jdk/internal/util/ArraysSupport", name := "hugeLength", desc := "(II)I" } : Jvm.MethodName)) ∈ TT := tt_of (i := 467) rfl rfl
set_option maxRecDepth 20000 in
theorem tw_468 : (Jvm.Cond.code ({ cls := "jdk/internal/util/ArraysSupport", name := "hugeLength", desc := "(II)I" } : Jvm.MethodName) prog_28_method_28_code (3 : Nat) (Option.some Jvm.ClassFile.FieldType.int)) ∈ TT := tt_of (i := 468) rfl rfl
set_option maxRecDepth 20000 in
theorem tw_469 : (Jvm.Cond.methodLink "java/util/ArrayList" (66 : Nat) ({ cls := "java/util/Arrays", name := "copyOf", desc := "([Ljava/lang/Object;I)[Ljava/lang/Object;" } : Jvm.MethodName)) ∈ TT := tt_of (i := 469) rfl rfl
set_option maxRecDepth 20000 in
theorem tw_470 : (Jvm.Cond.static ({ cls := "java/util/Arrays", name := "copyOf", desc := "([Ljava/lang/Object;I)[Ljava/lang/Object;" } : Jvm.MethodName)) ∈ TT := tt_of (i := 470) rfl rfl
set_option maxRecDepth 20000 in
theorem tw_471 : (Jvm.Cond.code ({ cls := "java/util/Arrays", name := "copyOf", desc := "([Ljava/lang/Object;I)[Ljava/lang/Object;" } : Jvm.MethodName) prog_21_method_119_code (2 : Nat) (Option.some (Jvm.ClassFile.FieldType.array (Jvm.ClassFile.FieldType.object "java/lang/Object")))) ∈ TT := tt_of (i := 471) rfl rfl
set_option maxRecDepth 20000 in
theorem tw_472 : (Jvm.Cond.methodLink "java/util/Arrays" (86 : Nat) ({ cls := "java/lang/Object", name := "getClass", desc := "()Ljava/lang/Class;" } : Jvm.MethodName)) ∈ TT := tt_of (i := 472) rfl rfl
set_option maxRecDepth 20000 in
theorem tw_473 : (Jvm.Cond.instanceMethod ({ cls := "java/lang/Object", name := "getClass", desc := "()Ljava/lang/Class;" } : Jvm.MethodName)) ∈ TT := tt_of (i := 473) rfl rfl
set_option maxRecDepth 20000 in
theorem tw_474 : (Jvm.Cond.sameMethod "java/lang/Object" "java/lang/Object" "getClass" "()Ljava/lang/Class;") ∈ TT := tt_of (i := 474) rfl rfl
set_option maxRecDepth 20000 in
theorem tw_475 : (Jvm.Cond.selects "LoanRounds" ({ cls := "java/lang/Object", name := "getClass", desc := "()Ljava/lang/Class;" } : Jvm.MethodName) ({ cls := "java/lang/Object", name := "getClass", desc := "()Ljava/lang/Class;" } : Jvm.MethodName)) ∈ TT := tt_of (i := 475) rfl rfl
set_option maxRecDepth 20000 in
theorem tw_476 : (Jvm.Cond.selects "LoanRounds$Group" ({ cls := "java/lang/Object", name := "getClass", desc := "()Ljava/lang/Class;" } : Jvm.MethodName) ({ cls := "java/lang/Object", name := "getClass", desc := "()Ljava/lang/Class;" } : Jvm.MethodName)) ∈ TT := tt_of (i := 476) rfl rfl
set_option maxRecDepth 20000 in
theorem tw_477 : (Jvm.Cond.selects "LoanRounds$Queue" ({ cls := "java/lang/Object", name := "getClass", desc := "()Ljava/lang/Class;" } : Jvm.MethodName) ({ cls := "java/lang/Object", name := "getClass", desc := "()Ljava/lang/Class;" } : Jvm.MethodName)) ∈ TT := tt_of (i := 477) rfl rfl
set_option maxRecDepth 20000 in
theorem tw_478 : (Jvm.Cond.selects "LoanRounds$Task" ({ cls := "java/lang/Object", name := "getClass", desc := "()Ljava/lang/Class;" } : Jvm.MethodName) ({ cls := "java/lang/Object", name := "getClass", desc := "()Ljava/lang/Class;" } : Jvm.MethodName)) ∈ TT := tt_of (i := 478) rfl rfl
set_option maxRecDepth 20000 in
theorem tw_479 : (Jvm.Cond.selects "LoanRoundsModel" ({ cls := "java/lang/Object", name := "getClass", desc := "()Ljava/lang/Class;" } : Jvm.MethodName) ({ cls := "java/lang/Object", name := "getClass", desc := "()Ljava/lang/Class;" } : Jvm.MethodName)) ∈ TT := tt_of (i := 479) rfl rfl
set_option maxRecDepth 20000 in
theorem tw_480 : (Jvm.Cond.selects "java/lang/IllegalArgumentException" ({ cls := "java/lang/Object", name := "getClass", desc := "()Ljava/lang/Class;" } : Jvm.MethodName) ({ cls := "java/lang/Object", name := "getClass", desc := "()Ljava/lang/Class;" } : Jvm.MethodName)) ∈ TT := tt_of (i := 480) rfl rfl
set_option maxRecDepth 20000 in
theorem tw_481 : (Jvm.Cond.selects "java/lang/IllegalStateException" ({ cls := "java/lang/Object", name := "getClass", desc := "()Ljava/lang/Class;" } : Jvm.MethodName) ({ cls := "java/lang/Object", name := "getClass", desc := "()Ljava/lang/Class;" } : Jvm.MethodName)) ∈ TT := tt_of (i := 481) rfl rfl
set_option maxRecDepth 20000 in
theorem tw_482 : (Jvm.Cond.selects "java/util/ArrayList" ({ cls := "java/lang/Object", name := "getClass", desc := "()Ljava/lang/Class;" } : Jvm.MethodName) ({ cls := "java/lang/Object", name := "getClass", desc := "()Ljava/lang/Class;" } : Jvm.MethodName)) ∈ TT := tt_of (i := 482) rfl rfl
set_option maxRecDepth 20000 in
theorem tw_483 : (Jvm.Cond.selects "java/util/NoSuchElementException" ({ cls := "java/lang/Object", name := "getClass", desc := "()Ljava/lang/Class;" } : Jvm.MethodName) ({ cls := "java/lang/Object", name := "getClass", desc := "()Ljava/lang/Class;" } : Jvm.MethodName)) ∈ TT := tt_of (i := 483) rfl rfl
set_option maxRecDepth 20000 in
theorem tw_485 : (Jvm.Cond.methodLink "java/util/Arrays" (300 : Nat) ({ cls := "java/util/Arrays", name := "copyOf", desc := "([Ljava/lang/Object;ILjava/lang/Class;)[Ljava/lang/Object;" } : Jvm.MethodName)) ∈ TT := tt_of (i := 485) rfl rfl
set_option maxRecDepth 20000 in
theorem tw_486 : (Jvm.Cond.static ({ cls := "java/util/Arrays", name := "copyOf", desc := "([Ljava/lang/Object;ILjava/lang/Class;)[Ljava/lang/Object;" } : Jvm.MethodName)) ∈ TT := tt_of (i := 486) rfl rfl
set_option maxRecDepth 20000 in
theorem tw_487 : (Jvm.Cond.code ({ cls := "java/util/Arrays", name := "copyOf", desc := "([Ljava/lang/Object;ILjava/lang/Class;)[Ljava/lang/Object;" } : Jvm.MethodName) prog_21_method_120_code (4 : Nat) (Option.some (Jvm.ClassFile.FieldType.array (Jvm.ClassFile.FieldType.object "java/lang/Object")))) ∈ TT := tt_of (i := 487) rfl rfl
set_option maxRecDepth 20000 in
theorem tw_488 : (Jvm.Cond.classLink "java/util/Arrays" (110 : Nat) "[Ljava/lang/Object;") ∈ TT := tt_of (i := 488) rfl rfl
set_option maxRecDepth 20000 in
theorem tw_490 : (Jvm.Cond.classLink "java/util/Arrays" (2 : Nat) "java/lang/Object") ∈ TT := tt_of (i := 490) rfl rfl
set_option maxRecDepth 20000 in
theorem tw_491 : (Jvm.Cond.methodLink "java/util/Arrays" (304 : Nat) ({ cls := "java/lang/Math", name := "min", desc := "(II)I" } : Jvm.MethodName)) ∈ TT := tt_of (i := 491) rfl rfl
set_option maxRecDepth 20000 in
theorem tw_492 : (Jvm.Cond.methodLink "java/util/Arrays" (150 : Nat) ({ cls := "java/lang/System", name := "arraycopy", desc := "(Ljava/lang/Object;ILjava/lang/Object;II)V" } : Jvm.MethodName)) ∈ TT := tt_of (i := 492) rfl rfl
set_option maxRecDepth 20000 in
theorem tw_493 : (Jvm.Cond.static ({ cls := "java/lang/System", name := "arraycopy", desc := "(Ljava/lang/Object;ILjava/lang/Object;II)V" } : Jvm.MethodName)) ∈ TT := tt_of (i := 493) rfl rfl
set_option maxRecDepth 20000 in
theorem tw_495 : (Jvm.Cond.methodLink "java/util/ArrayList" (79 : Nat) ({ cls := "java/lang/Math", name := "max", desc := "(II)I" } : Jvm.MethodName)) ∈ TT := tt_of (i := 495) rfl rfl
set_option maxRecDepth 20000 in
theorem tw_496 : (Jvm.Cond.classLink "java/util/ArrayList" (7 : Nat) "java/lang/Object") ∈ TT := tt_of (i := 496) rfl rfl
set_option maxRecDepth 20000 in
theorem tw_497 : (Jvm.Cond.methodLink "LoanRoundsLaw" (49 : Nat) ({ cls := "LoanRoundsLaw", name := "lend", desc := "(LLoanRounds;II[J)I" } : Jvm.MethodName)) ∈ TT := tt_of (i := 497) rfl rfl
set_option maxRecDepth 20000 in
theorem tw_498 : (Jvm.Cond.static ({ cls := "LoanRoundsLaw", name := "lend", desc := "(LLoanRounds;II[J)I" } : Jvm.MethodName)) ∈ TT := tt_of (i := 498) rfl rfl
set_option maxRecDepth 20000 in
theorem tw_500 : (Jvm.Cond.methodLink "LoanRoundsLaw" (17 : Nat) ({ cls := "LoanRounds", name := "lend", desc := "(II)I" } : Jvm.MethodName)) ∈ TT := tt_of (i := 500) rfl rfl
set_option maxRecDepth 20000 in
theorem tw_501 : (Jvm.Cond.instanceMethod ({ cls := "LoanRounds", name := "lend", desc := "(II)I" } : Jvm.MethodName)) ∈ TT := tt_of (i := 501) rfl rfl
set_option maxRecDepth 20000 in
theorem tw_502 : (Jvm.Cond.selects "LoanRounds" ({ cls := "LoanRounds", name := "lend", desc := "(II)I" } : Jvm.MethodName) ({ cls := "LoanRounds", name := "lend", desc := "(II)I" } : Jvm.MethodName)) ∈ TT := tt_of (i := 502) rfl rfl
set_option maxRecDepth 20000 in
theorem tw_503 : (Jvm.Cond.code ({ cls := "LoanRounds", name := "lend", desc := "(II)I" } : Jvm.MethodName) prog_1_method_3_code (6 : Nat) (Option.some Jvm.ClassFile.FieldType.int)) ∈ TT := tt_of (i := 503) rfl rfl
set_option maxRecDepth 20000 in
theorem tw_505 : (Jvm.Cond.methodLink "LoanRounds" (97 : Nat) ({ cls := "LoanRounds$Task", name := "becomeLent", desc := "(III)V" } : Jvm.MethodName)) ∈ TT := tt_of (i := 505) rfl rfl
set_option maxRecDepth 20000 in
theorem tw_506 : (Jvm.Cond.instanceMethod ({ cls := "LoanRounds$Task", name := "becomeLent", desc := "(III)V" } : Jvm.MethodName)) ∈ TT := tt_of (i := 506) rfl rfl
set_option maxRecDepth 20000 in
theorem tw_507 : (Jvm.Cond.selects "LoanRounds$Task" ({ cls := "LoanRounds$Task", name := "becomeLent", desc := "(III)V" } : Jvm.MethodName) ({ cls := "LoanRounds$Task", name := "becomeLent", desc := "(III)V" } : Jvm.MethodName)) ∈ TT := tt_of (i := 507) rfl rfl
set_option maxRecDepth 20000 in
theorem tw_508 : (Jvm.Cond.code ({ cls := "LoanRounds$Task", name := "becomeLent", desc := "(III)V" } : Jvm.MethodName) prog_4_method_10_code (4 : Nat) (Option.none : Option Jvm.ClassFile.FieldType)) ∈ TT := tt_of (i := 508) rfl rfl
set_option maxRecDepth 20000 in
theorem tw_509 : (Jvm.Cond.methodLink "LoanRoundsLaw" (58 : Nat) ({ cls := "LoanRoundsLaw", name := "end", desc := "(LLoanRounds;II[J)I" } : Jvm.MethodName)) ∈ TT := tt_of (i := 509) rfl rfl
set_option maxRecDepth 20000 in
theorem tw_510 : (Jvm.Cond.static ({ cls := "LoanRoundsLaw", name := "end", desc := "(LLoanRounds;II[J)I" } : Jvm.MethodName)) ∈ TT := tt_of (i := 510) rfl rfl
set_option maxRecDepth 20000 in
theorem tw_512 : (Jvm.Cond.classLink "LoanRoundsLaw" (24 : Nat) "java/util/NoSuchElementException") ∈ TT := tt_of (i := 512) rfl rfl
set_option maxRecDepth 20000 in
theorem tw_513 : (Jvm.Cond.methodLink "LoanRoundsLaw" (21 : Nat) ({ cls := "LoanRounds", name := "end", desc := "(II)I" } : Jvm.MethodName)) ∈ TT := tt_of (i := 513) rfl rfl
set_option maxRecDepth 20000 in
theorem tw_514 : (Jvm.Cond.instanceMethod ({ cls := "LoanRounds", name := "end", desc := "(II)I" } : Jvm.MethodName)) ∈ TT := tt_of (i := 514) rfl rfl
set_option maxRecDepth 20000 in
theorem tw_515 : (Jvm.Cond.selects "LoanRounds" ({ cls := "LoanRounds", name := "end", desc := "(II)I" } : Jvm.MethodName) ({ cls := "LoanRounds", name := "end", desc := "(II)I" } : Jvm.MethodName)) ∈ TT := tt_of (i := 515) rfl rfl
set_option maxRecDepth 20000 in
theorem tw_516 : (Jvm.Cond.code ({ cls := "LoanRounds", name := "end", desc := "(II)I" } : Jvm.MethodName) prog_1_method_5_code (4 : Nat) (Option.some Jvm.ClassFile.FieldType.int)) ∈ TT := tt_of (i := 516) rfl rfl
set_option maxRecDepth 20000 in
theorem tw_517 : (Jvm.Cond.classLink "LoanRounds" (115 : Nat) "java/util/NoSuchElementException") ∈ TT := tt_of (i := 517) rfl rfl
set_option maxRecDepth 20000 in
theorem tw_518 : (Jvm.Cond.instantiable "java/util/NoSuchElementException" (6 : Nat)) ∈ TT := tt_of (i := 518) rfl rfl
set_option maxRecDepth 20000 in
theorem tw_520 : (Jvm.Cond.selects "java/util/NoSuchElementException" ({ cls := "java/lang/Throwable", name := "fillInStackTrace", desc := "(I)Ljava/lang/Throwable;" } : Jvm.MethodName) ({ cls := "java/lang/Throwable", name := "fillInStackTrace", desc := "(I)Ljava/lang/Throwable;" } : Jvm.MethodName)) ∈ TT := tt_of (i := 520) rfl rfl
set_option maxRecDepth 20000 in
theorem tw_521 : (Jvm.Cond.lays "java/util/NoSuchElementException" "java/lang/Throwable" "cause" "Ljava/lang/Throwable;") ∈ TT := tt_of (i := 521) rfl rfl
set_option maxRecDepth 20000 in
theorem tw_522 : (Jvm.Cond.lays "java/util/NoSuchElementException" "java/lang/Throwable" "stackTrace" "[Ljava/lang/StackTraceElement;") ∈ TT := tt_of (i := 522) rfl rfl
set_option maxRecDepth 20000 in
theorem tw_523 : (Jvm.Cond.lays "java/util/NoSuchElementException" "java/lang/Throwable" "suppressedExceptions" "Ljava/util/List;") ∈ TT := tt_of (i := 523) rfl rfl
set_option maxRecDepth 20000 in
theorem tw_524 : (Jvm.Cond.lays "java/util/NoSuchElementException" "java/lang/Throwable" "detailMessage" "Ljava/lang/String;") ∈ TT := tt_of (i := 524) rfl rfl
set_option maxRecDepth 20000 in
theorem tw_525 : (Jvm.Cond.lays "java/util/NoSuchElementException" "java/lang/Throwable" "backtrace" "Ljava/lang/Object;") ∈ TT := tt_of (i := 525) rfl rfl
set_option maxRecDepth 20000 in
theorem tw_527 : (Jvm.Cond.methodLink "LoanRounds" (119 : Nat) ({ cls := "java/util/NoSuchElementException", name := "<init>", desc := "(Ljava/lang/String;)V" } : Jvm.MethodName)) ∈ TT := tt_of (i := 527) rfl rfl
set_option maxRecDepth 20000 in
theorem tw_528 : (Jvm.Cond.instanceMethod ({ cls := "java/util/NoSuchElementException", name := "<init>", desc := "(Ljava/lang/String;)V" } : Jvm.MethodName)) ∈ TT := tt_of (i := 528) rfl rfl
set_option maxRecDepth 20000 in
theorem tw_529 : (Jvm.Cond.code ({ cls := "java/util/NoSuchElementException", name := "<init>", desc := "(Ljava/lang/String;)V" } : Jvm.MethodName) prog_24_method_4_code (2 : Nat) (Option.none : Option Jvm.ClassFile.FieldType)) ∈ TT := tt_of (i := 529) rfl rfl
set_option maxRecDepth 20000 in
theorem tw_530 : (Jvm.Cond.methodLink "java/util/NoSuchElementException" (13 : Nat) ({ cls := "java/lang/RuntimeException", name := "<init>", desc := "(Ljava/lang/String;)V" } : Jvm.MethodName)) ∈ TT := tt_of (i := 530) rfl rfl
set_option maxRecDepth 20000 in
theorem tw_531 : (Jvm.Cond.lays "java/util/NoSuchElementException" "java/lang/Throwable" "depth" "I") ∈ TT := tt_of (i := 531) rfl rfl
set_option maxRecDepth 20000 in
theorem tw_532 : (Jvm.Cond.superclass "java/util/NoSuchElementException" "java/lang/RuntimeException") ∈ TT := tt_of (i := 532) rfl rfl
set_option maxRecDepth 20000 in
theorem tw_533 : (Jvm.Cond.methodLink "LoanRounds" (120 : Nat) ({ cls := "LoanRounds$Task", name := "becomeDone", desc := "(I)V" } : Jvm.MethodName)) ∈ TT := tt_of (i := 533) rfl rfl
set_option maxRecDepth 20000 in
theorem tw_534 : (Jvm.Cond.instanceMethod ({ cls := "LoanRounds$Task", name := "becomeDone", desc := "(I)V" } : Jvm.MethodName)) ∈ TT := tt_of (i := 534) rfl rfl
set_option maxRecDepth 20000 in
theorem tw_535 : (Jvm.Cond.selects "LoanRounds$Task" ({ cls := "LoanRounds$Task", name := "becomeDone", desc := "(I)V" } : Jvm.MethodName) ({ cls := "LoanRounds$Task", name := "becomeDone", desc := "(I)V" } : Jvm.MethodName)) ∈ TT := tt_of (i := 535) rfl rfl
set_option maxRecDepth 20000 in
theorem tw_536 : (Jvm.Cond.code ({ cls := "LoanRounds$Task", name := "becomeDone", desc := "(I)V" } : Jvm.MethodName) prog_4_method_11_code (2 : Nat) (Option.none : Option Jvm.ClassFile.FieldType)) ∈ TT := tt_of (i := 536) rfl rfl
set_option maxRecDepth 20000 in
theorem tw_537 : (Jvm.Cond.methodLink "LoanRounds" (124 : Nat) ({ cls := "LoanRounds$Task", name := "tryAgain", desc := "(I)V" } : Jvm.MethodName)) ∈ TT := tt_of (i := 537) rfl rfl
set_option maxRecDepth 20000 in
theorem tw_538 : (Jvm.Cond.instanceMethod ({ cls := "LoanRounds$Task", name := "tryAgain", desc := "(I)V" } : Jvm.MethodName)) ∈ TT := tt_of (i := 538) rfl rfl
set_option maxRecDepth 20000 in
theorem tw_539 : (Jvm.Cond.selects "LoanRounds$Task" ({ cls := "LoanRounds$Task", name := "tryAgain", desc := "(I)V" } : Jvm.MethodName) ({ cls := "LoanRounds$Task", name := "tryAgain", desc := "(I)V" } : Jvm.MethodName)) ∈ TT := tt_of (i := 539) rfl rfl
set_option maxRecDepth 20000 in
theorem tw_540 : (Jvm.Cond.code ({ cls := "LoanRounds$Task", name := "tryAgain", desc := "(I)V" } : Jvm.MethodName) prog_4_method_12_code (2 : Nat) (Option.none : Option Jvm.ClassFile.FieldType)) ∈ TT := tt_of (i := 540) rfl rfl
set_option maxRecDepth 20000 in
theorem tw_541 : (Jvm.Cond.methodLink "LoanRounds$Task" (95 : Nat) ({ cls := "LoanRounds$Queue", name := "pauseAfter", desc := "(I)I" } : Jvm.MethodName)) ∈ TT := tt_of (i := 541) rfl rfl
set_option maxRecDepth 20000 in
theorem tw_542 : (Jvm.Cond.instanceMethod ({ cls := "LoanRounds$Queue", name := "pauseAfter", desc := "(I)I" } : Jvm.MethodName)) ∈ TT := tt_of (i := 542) rfl rfl
set_option maxRecDepth 20000 in
theorem tw_543 : (Jvm.Cond.selects "LoanRounds$Queue" ({ cls := "LoanRounds$Queue", name := "pauseAfter", desc := "(I)I" } : Jvm.MethodName) ({ cls := "LoanRounds$Queue", name := "pauseAfter", desc := "(I)I" } : Jvm.MethodName)) ∈ TT := tt_of (i := 543) rfl rfl
set_option maxRecDepth 20000 in
theorem tw_544 : (Jvm.Cond.code ({ cls := "LoanRounds$Queue", name := "pauseAfter", desc := "(I)I" } : Jvm.MethodName) prog_3_method_4_code (2 : Nat) (Option.some Jvm.ClassFile.FieldType.int)) ∈ TT := tt_of (i := 544) rfl rfl
set_option maxRecDepth 20000 in
theorem tw_545 : (Jvm.Cond.methodLink "LoanRounds$Queue" (38 : Nat) ({ cls := "java/lang/Math", name := "min", desc := "(II)I" } : Jvm.MethodName)) ∈ TT := tt_of (i := 545) rfl rfl
set_option maxRecDepth 20000 in
theorem tw_546 : (Jvm.Cond.methodLink "LoanRounds$Task" (98 : Nat) ({ cls := "LoanRounds$Task", name := "becomeWaiting", desc := "(I)V" } : Jvm.MethodName)) ∈ TT := tt_of (i := 546) rfl rfl
set_option maxRecDepth 20000 in
theorem tw_548 : (Jvm.Cond.methodLink "LoanRoundsLaw" (61 : Nat) ({ cls := "LoanRoundsLaw", name := "tick", desc := "(LLoanRounds;I[J)I" } : Jvm.MethodName)) ∈ TT := tt_of (i := 548) rfl rfl
set_option maxRecDepth 20000 in
theorem tw_549 : (Jvm.Cond.static ({ cls := "LoanRoundsLaw", name := "tick", desc := "(LLoanRounds;I[J)I" } : Jvm.MethodName)) ∈ TT := tt_of (i := 549) rfl rfl
set_option maxRecDepth 20000 in
theorem tw_551 : (Jvm.Cond.methodLink "LoanRoundsLaw" (26 : Nat) ({ cls := "LoanRounds", name := "tick", desc := "(I)I" } : Jvm.MethodName)) ∈ TT := tt_of (i := 551) rfl rfl
set_option maxRecDepth 20000 in
theorem tw_552 : (Jvm.Cond.instanceMethod ({ cls := "LoanRounds", name := "tick", desc := "(I)I" } : Jvm.MethodName)) ∈ TT := tt_of (i := 552) rfl rfl
set_option maxRecDepth 20000 in
theorem tw_553 : (Jvm.Cond.selects "LoanRounds" ({ cls := "LoanRounds", name := "tick", desc := "(I)I" } : Jvm.MethodName) ({ cls := "LoanRounds", name := "tick", desc := "(I)I" } : Jvm.MethodName)) ∈ TT := tt_of (i := 553) rfl rfl
set_option maxRecDepth 20000 in
theorem tw_554 : (Jvm.Cond.code ({ cls := "LoanRounds", name := "tick", desc := "(I)I" } : Jvm.MethodName) prog_1_method_6_code (6 : Nat) (Option.some Jvm.ClassFile.FieldType.int)) ∈ TT := tt_of (i := 554) rfl rfl
set_option maxRecDepth 20000 in
theorem tw_556 : (Jvm.Cond.methodLink "LoanRoundsLaw" (78 : Nat) ({ cls := "LoanRoundsLaw", name := "task", desc := "(LLoanRounds;II[J)I" } : Jvm.MethodName)) ∈ TT := tt_of (i := 556) rfl rfl
set_option maxRecDepth 20000 in
theorem tw_557 : (Jvm.Cond.static ({ cls := "LoanRoundsLaw", name := "task", desc := "(LLoanRounds;II[J)I" } : Jvm.MethodName)) ∈ TT := tt_of (i := 557) rfl rfl
set_option maxRecDepth 20000 in
theorem tw_559 : (Jvm.Cond.methodLink "LoanRoundsLaw" (30 : Nat) ({ cls := "LoanRounds", name := "task", desc := "(II)I" } : Jvm.MethodName)) ∈ TT := tt_of (i := 559) rfl rfl
set_option maxRecDepth 20000 in
theorem tw_560 : (Jvm.Cond.instanceMethod ({ cls := "LoanRounds", name := "task", desc := "(II)I" } : Jvm.MethodName)) ∈ TT := tt_of (i := 560) rfl rfl
set_option maxRecDepth 20000 in
theorem tw_561 : (Jvm.Cond.selects "LoanRounds" ({ cls := "LoanRounds", name := "task", desc := "(II)I" } : Jvm.MethodName) ({ cls := "LoanRounds", name := "task", desc := "(II)I" } : Jvm.MethodName)) ∈ TT := tt_of (i := 561) rfl rfl
set_option maxRecDepth 20000 in
theorem tw_562 : (Jvm.Cond.code ({ cls := "LoanRounds", name := "task", desc := "(II)I" } : Jvm.MethodName) prog_1_method_10_code (4 : Nat) (Option.some Jvm.ClassFile.FieldType.int)) ∈ TT := tt_of (i := 562) rfl rfl
set_option maxRecDepth 20000 in
theorem tw_564 : (Jvm.Cond.methodLink "LoanRounds" (176 : Nat) ({ cls := "LoanRounds$Task", name := "isDue", desc := "(I)Z" } : Jvm.MethodName)) ∈ TT := tt_of (i := 564) rfl rfl
set_option maxRecDepth 20000 in
theorem tw_565 : (Jvm.Cond.methodLink "LoanRounds" (179 : Nat) ({ cls := "LoanRounds$Task", name := "weight", desc := "(I)I" } : Jvm.MethodName)) ∈ TT := tt_of (i := 565) rfl rfl
set_option maxRecDepth 20000 in
theorem tw_567 : (Jvm.Cond.classLink "LoanRoundsLaw" (34 : Nat) "LoanRoundsModel") ∈ TT := tt_of (i := 567) rfl rfl
set_option maxRecDepth 20000 in
theorem tw_568 : (Jvm.Cond.instantiable "LoanRoundsModel" (15 : Nat)) ∈ TT := tt_of (i := 568) rfl rfl
set_option maxRecDepth 20000 in
theorem tw_569 : (Jvm.Cond.methodLink "LoanRoundsLaw" (36 : Nat) ({ cls := "LoanRoundsModel", name := "<init>", desc := "()V" } : Jvm.MethodName)) ∈ TT := tt_of (i := 569) rfl rfl
set_option maxRecDepth 20000 in
theorem tw_570 : (Jvm.Cond.instanceMethod ({ cls := "LoanRoundsModel", name := "<init>", desc := "()V" } : Jvm.MethodName)) ∈ TT := tt_of (i := 570) rfl rfl
set_option maxRecDepth 20000 in
theorem tw_571 : (Jvm.Cond.code ({ cls := "LoanRoundsModel", name := "<init>", desc := "()V" } : Jvm.MethodName) prog_6_method_1_code (2 : Nat) (Option.none : Option Jvm.ClassFile.FieldType)) ∈ TT := tt_of (i := 571) rfl rfl
set_option maxRecDepth 20000 in
theorem tw_572 : (Jvm.Cond.methodLink "LoanRoundsModel" (1 : Nat) ({ cls := "java/lang/Object", name := "<init>", desc := "()V" } : Jvm.MethodName)) ∈ TT := tt_of (i := 572) rfl rfl
set_option maxRecDepth 20000 in
theorem tw_573 : (Jvm.Cond.fieldLink "LoanRoundsModel" (44 : Nat) "LoanRoundsModel" "thrown" "I") ∈ TT := tt_of (i := 573) rfl rfl
set_option maxRecDepth 20000 in
theorem tw_574 : (Jvm.Cond.fieldLink "LoanRoundsModel" (55 : Nat) "LoanRoundsModel" "time" "I") ∈ TT := tt_of (i := 574) rfl rfl
set_option maxRecDepth 20000 in
theorem tw_575 : (Jvm.Cond.fieldLink "LoanRoundsModel" (48 : Nat) "LoanRoundsModel" "tasks" "I") ∈ TT := tt_of (i := 575) rfl rfl
set_option maxRecDepth 20000 in
theorem tw_576 : (Jvm.Cond.fieldLink "LoanRoundsModel" (89 : Nat) "LoanRoundsModel" "tokens" "I") ∈ TT := tt_of (i := 576) rfl rfl
set_option maxRecDepth 20000 in
theorem tw_577 : (Jvm.Cond.fieldLink "LoanRoundsModel" (7 : Nat) "LoanRoundsModel" "queue" "[I") ∈ TT := tt_of (i := 577) rfl rfl
set_option maxRecDepth 20000 in
theorem tw_578 : (Jvm.Cond.fieldLink "LoanRoundsModel" (13 : Nat) "LoanRoundsModel" "rank" "[I") ∈ TT := tt_of (i := 578) rfl rfl
set_option maxRecDepth 20000 in
theorem tw_579 : (Jvm.Cond.fieldLink "LoanRoundsModel" (16 : Nat) "LoanRoundsModel" "group" "[I") ∈ TT := tt_of (i := 579) rfl rfl
set_option maxRecDepth 20000 in
theorem tw_580 : (Jvm.Cond.fieldLink "LoanRoundsModel" (19 : Nat) "LoanRoundsModel" "key" "[J") ∈ TT := tt_of (i := 580) rfl rfl
set_option maxRecDepth 20000 in
theorem tw_581 : (Jvm.Cond.fieldLink "LoanRoundsModel" (23 : Nat) "LoanRoundsModel" "tries" "[I") ∈ TT := tt_of (i := 581) rfl rfl
set_option maxRecDepth 20000 in
theorem tw_582 : (Jvm.Cond.fieldLink "LoanRoundsModel" (26 : Nat) "LoanRoundsModel" "state" "[I") ∈ TT := tt_of (i := 582) rfl rfl
set_option maxRecDepth 20000 in
theorem tw_583 : (Jvm.Cond.fieldLink "LoanRoundsModel" (29 : Nat) "LoanRoundsModel" "when" "[I") ∈ TT := tt_of (i := 583) rfl rfl
set_option maxRecDepth 20000 in
theorem tw_584 : (Jvm.Cond.fieldLink "LoanRoundsModel" (32 : Nat) "LoanRoundsModel" "worker" "[I") ∈ TT := tt_of (i := 584) rfl rfl
set_option maxRecDepth 20000 in
theorem tw_585 : (Jvm.Cond.fieldLink "LoanRoundsModel" (35 : Nat) "LoanRoundsModel" "token" "[I") ∈ TT := tt_of (i := 585) rfl rfl
set_option maxRecDepth 20000 in
theorem tw_586 : (Jvm.Cond.fieldLink "LoanRoundsModel" (38 : Nat) "LoanRoundsModel" "told" "[I") ∈ TT := tt_of (i := 586) rfl rfl
set_option maxRecDepth 20000 in
theorem tw_587 : (Jvm.Cond.fieldLink "LoanRoundsModel" (41 : Nat) "LoanRoundsModel" "limit" "[I") ∈ TT := tt_of (i := 587) rfl rfl
set_option maxRecDepth 20000 in
theorem tw_588 : (Jvm.Cond.lays "LoanRoundsModel" "LoanRoundsModel" "thrown" "I") ∈ TT := tt_of (i := 588) rfl rfl
set_option maxRecDepth 20000 in
theorem tw_590 : (Jvm.Cond.lays "LoanRoundsModel" "LoanRoundsModel" "time" "I") ∈ TT := tt_of (i := 590) rfl rfl
set_option maxRecDepth 20000 in
theorem tw_592 : (Jvm.Cond.lays "LoanRoundsModel" "LoanRoundsModel" "tasks" "I") ∈ TT := tt_of (i := 592) rfl rfl
set_option maxRecDepth 20000 in
theorem tw_594 : (Jvm.Cond.lays "LoanRoundsModel" "LoanRoundsModel" "tokens" "I") ∈ TT := tt_of (i := 594) rfl rfl
set_option maxRecDepth 20000 in
theorem tw_596 : (Jvm.Cond.laysFinal "LoanRoundsModel" "LoanRoundsModel" "queue" "[I") ∈ TT := tt_of (i := 596) rfl rfl
set_option maxRecDepth 20000 in
theorem tw_598 : (Jvm.Cond.laysFinal "LoanRoundsModel" "LoanRoundsModel" "rank" "[I") ∈ TT := tt_of (i := 598) rfl rfl
set_option maxRecDepth 20000 in
theorem tw_600 : (Jvm.Cond.laysFinal "LoanRoundsModel" "LoanRoundsModel" "group" "[I") ∈ TT := tt_of (i := 600) rfl rfl
set_option maxRecDepth 20000 in
theorem tw_602 : (Jvm.Cond.laysFinal "LoanRoundsModel" "LoanRoundsModel" "key" "[J") ∈ TT := tt_of (i := 602) rfl rfl
set_option maxRecDepth 20000 in
theorem tw_604 : (Jvm.Cond.laysFinal "LoanRoundsModel" "LoanRoundsModel" "tries" "[I") ∈ TT := tt_of (i := 604) rfl rfl
set_option maxRecDepth 20000 in
theorem tw_606 : (Jvm.Cond.laysFinal "LoanRoundsModel" "LoanRoundsModel" "state" "[I") ∈ TT := tt_of (i := 606) rfl rfl
set_option maxRecDepth 20000 in
theorem tw_608 : (Jvm.Cond.laysFinal "LoanRoundsModel" "LoanRoundsModel" "when" "[I") ∈ TT := tt_of (i := 608) rfl rfl
set_option maxRecDepth 20000 in
theorem tw_610 : (Jvm.Cond.laysFinal "LoanRoundsModel" "LoanRoundsModel" "worker" "[I") ∈ TT := tt_of (i := 610) rfl rfl
set_option maxRecDepth 20000 in
theorem tw_612 : (Jvm.Cond.laysFinal "LoanRoundsModel" "LoanRoundsModel" "token" "[I") ∈ TT := tt_of (i := 612) rfl rfl
set_option maxRecDepth 20000 in
theorem tw_614 : (Jvm.Cond.laysFinal "LoanRoundsModel" "LoanRoundsModel" "told" "[I") ∈ TT := tt_of (i := 614) rfl rfl
set_option maxRecDepth 20000 in
theorem tw_616 : (Jvm.Cond.laysFinal "LoanRoundsModel" "LoanRoundsModel" "limit" "[I") ∈ TT := tt_of (i := 616) rfl rfl
set_option maxRecDepth 20000 in
theorem tw_618 : (Jvm.Cond.superclass "LoanRoundsModel" "java/lang/Object") ∈ TT := tt_of (i := 618) rfl rfl
set_option maxRecDepth 20000 in
theorem tw_619 : (Jvm.Cond.arrayClass Jvm.ClassFile.FieldType.int) ∈ TT := tt_of (i := 619) rfl rfl
set_option maxRecDepth 20000 in
theorem tw_620 : (Jvm.Cond.arrayClass Jvm.ClassFile.FieldType.long) ∈ TT := tt_of (i := 620) rfl rfl
set_option maxRecDepth 20000 in
theorem tw_621 : (Jvm.Cond.methodLink "LoanRoundsLaw" (45 : Nat) ({ cls := "LoanRoundsModel", name := "thrown", desc := "()I" } : Jvm.MethodName)) ∈ TT := tt_of (i := 621) rfl rfl
set_option maxRecDepth 20000 in
theorem tw_622 : (Jvm.Cond.instanceMethod ({ cls := "LoanRoundsModel", name := "thrown", desc := "()I" } : Jvm.MethodName)) ∈ TT := tt_of (i := 622) rfl rfl
set_option maxRecDepth 20000 in
theorem tw_623 : (Jvm.Cond.selects "LoanRoundsModel" ({ cls := "LoanRoundsModel", name := "thrown", desc := "()I" } : Jvm.MethodName) ({ cls := "LoanRoundsModel", name := "thrown", desc := "()I" } : Jvm.MethodName)) ∈ TT := tt_of (i := 623) rfl rfl
set_option maxRecDepth 20000 in
theorem tw_624 : (Jvm.Cond.code ({ cls := "LoanRoundsModel", name := "thrown", desc := "()I" } : Jvm.MethodName) prog_6_method_2_code (1 : Nat) (Option.some Jvm.ClassFile.FieldType.int)) ∈ TT := tt_of (i := 624) rfl rfl
set_option maxRecDepth 20000 in
theorem tw_625 : (Jvm.Cond.methodLink "LoanRoundsLaw" (44 : Nat) ({ cls := "LoanRoundsModel", name := "add", desc := "(IIIJI)I" } : Jvm.MethodName)) ∈ TT := tt_of (i := 625) rfl rfl
set_option maxRecDepth 20000 in
theorem tw_626 : (Jvm.Cond.instanceMethod ({ cls := "LoanRoundsModel", name := "add", desc := "(IIIJI)I" } : Jvm.MethodName)) ∈ TT := tt_of (i := 626) rfl rfl
set_option maxRecDepth 20000 in
theorem tw_627 : (Jvm.Cond.selects "LoanRoundsModel" ({ cls := "LoanRoundsModel", name := "add", desc := "(IIIJI)I" } : Jvm.MethodName) ({ cls := "LoanRoundsModel", name := "add", desc := "(IIIJI)I" } : Jvm.MethodName)) ∈ TT := tt_of (i := 627) rfl rfl
set_option maxRecDepth 20000 in
theorem tw_628 : (Jvm.Cond.code ({ cls := "LoanRoundsModel", name := "add", desc := "(IIIJI)I" } : Jvm.MethodName) prog_6_method_8_code (9 : Nat) (Option.some Jvm.ClassFile.FieldType.int)) ∈ TT := tt_of (i := 628) rfl rfl
set_option maxRecDepth 20000 in
theorem tw_629 : (Jvm.Cond.methodLink "LoanRoundsModel" (58 : Nat) ({ cls := "LoanRoundsModel", name := "within", desc := "(III)Z" } : Jvm.MethodName)) ∈ TT := tt_of (i := 629) rfl rfl
set_option maxRecDepth 20000 in
theorem tw_630 : (Jvm.Cond.static ({ cls := "LoanRoundsModel", name := "within", desc := "(III)Z" } : Jvm.MethodName)) ∈ TT := tt_of (i := 630) rfl rfl
set_option maxRecDepth 20000 in
theorem tw_631 : (Jvm.Cond.code ({ cls := "LoanRoundsModel", name := "within", desc := "(III)Z" } : Jvm.MethodName) prog_6_method_4_code (3 : Nat) (Option.some Jvm.ClassFile.FieldType.boolean)) ∈ TT := tt_of (i := 631) rfl rfl
set_option maxRecDepth 20000 in
theorem tw_632 : (Jvm.Cond.methodLink "LoanRoundsModel" (62 : Nat) ({ cls := "LoanRoundsModel", name := "raise", desc := "(I)I" } : Jvm.MethodName)) ∈ TT := tt_of (i := 632) rfl rfl
set_option maxRecDepth 20000 in
theorem tw_634 : (Jvm.Cond.instanceMethod ({ cls := "LoanRoundsModel", name := "raise", desc := "(I)I" } : Jvm.MethodName)) ∈ TT := tt_of (i := 634) rfl rfl
set_option maxRecDepth 20000 in
theorem tw_635 : (Jvm.Cond.code ({ cls := "LoanRoundsModel", name := "raise", desc := "(I)I" } : Jvm.MethodName) prog_6_method_3_code (2 : Nat) (Option.some Jvm.ClassFile.FieldType.int)) ∈ TT := tt_of (i := 635) rfl rfl
set_option maxRecDepth 20000 in
theorem tw_636 : (Jvm.Cond.methodLink "LoanRoundsModel" (66 : Nat) ({ cls := "LoanRoundsModel", name := "found", desc := "(IJ)I" } : Jvm.MethodName)) ∈ TT := tt_of (i := 636) rfl rfl
set_option maxRecDepth 20000 in
theorem tw_638 : (Jvm.Cond.instanceMethod ({ cls := "LoanRoundsModel", name := "found", desc := "(IJ)I" } : Jvm.MethodName)) ∈ TT := tt_of (i := 638) rfl rfl
set_option maxRecDepth 20000 in
theorem tw_639 : (Jvm.Cond.code ({ cls := "LoanRoundsModel", name := "found", desc := "(IJ)I" } : Jvm.MethodName) prog_6_method_7_code (5 : Nat) (Option.some Jvm.ClassFile.FieldType.int)) ∈ TT := tt_of (i := 639) rfl rfl
set_option maxRecDepth 20000 in
theorem tw_640 : (Jvm.Cond.methodLink "LoanRoundsModel" (51 : Nat) ({ cls := "LoanRoundsModel", name := "isLive", desc := "(I)Z" } : Jvm.MethodName)) ∈ TT := tt_of (i := 640) rfl rfl
set_option maxRecDepth 20000 in
theorem tw_642 : (Jvm.Cond.instanceMethod ({ cls := "LoanRoundsModel", name := "isLive", desc := "(I)Z" } : Jvm.MethodName)) ∈ TT := tt_of (i := 642) rfl rfl
set_option maxRecDepth 20000 in
theorem tw_643 : (Jvm.Cond.code ({ cls := "LoanRoundsModel", name := "isLive", desc := "(I)Z" } : Jvm.MethodName) prog_6_method_5_code (2 : Nat) (Option.some Jvm.ClassFile.FieldType.boolean)) ∈ TT := tt_of (i := 643) rfl rfl
set_option maxRecDepth 20000 in
theorem tw_644 : (Jvm.Cond.methodLink "LoanRoundsModel" (70 : Nat) ({ cls := "LoanRoundsModel", name := "lives", desc := "()I" } : Jvm.MethodName)) ∈ TT := tt_of (i := 644) rfl rfl
set_option maxRecDepth 20000 in
theorem tw_646 : (Jvm.Cond.instanceMethod ({ cls := "LoanRoundsModel", name := "lives", desc := "()I" } : Jvm.MethodName)) ∈ TT := tt_of (i := 646) rfl rfl
set_option maxRecDepth 20000 in
theorem tw_647 : (Jvm.Cond.code ({ cls := "LoanRoundsModel", name := "lives", desc := "()I" } : Jvm.MethodName) prog_6_method_6_code (3 : Nat) (Option.some Jvm.ClassFile.FieldType.int)) ∈ TT := tt_of (i := 647) rfl rfl
set_option maxRecDepth 20000 in
theorem tw_648 : (Jvm.Cond.methodLink "LoanRoundsLaw" (52 : Nat) ({ cls := "LoanRoundsModel", name := "lend", desc := "(II)I" } : Jvm.MethodName)) ∈ TT := tt_of (i := 648) rfl rfl
set_option maxRecDepth 20000 in
theorem tw_649 : (Jvm.Cond.instanceMethod ({ cls := "LoanRoundsModel", name := "lend", desc := "(II)I" } : Jvm.MethodName)) ∈ TT := tt_of (i := 649) rfl rfl
set_option maxRecDepth 20000 in
theorem tw_650 : (Jvm.Cond.selects "LoanRoundsModel" ({ cls := "LoanRoundsModel", name := "lend", desc := "(II)I" } : Jvm.MethodName) ({ cls := "LoanRoundsModel", name := "lend", desc := "(II)I" } : Jvm.MethodName)) ∈ TT := tt_of (i := 650) rfl rfl
set_option maxRecDepth 20000 in
theorem tw_651 : (Jvm.Cond.code ({ cls := "LoanRoundsModel", name := "lend", desc := "(II)I" } : Jvm.MethodName) prog_6_method_14_code (4 : Nat) (Option.some Jvm.ClassFile.FieldType.int)) ∈ TT := tt_of (i := 651) rfl rfl
set_option maxRecDepth 20000 in
theorem tw_652 : (Jvm.Cond.methodLink "LoanRoundsModel" (83 : Nat) ({ cls := "LoanRoundsModel", name := "firstOf", desc := "(I)I" } : Jvm.MethodName)) ∈ TT := tt_of (i := 652) rfl rfl
set_option maxRecDepth 20000 in
theorem tw_654 : (Jvm.Cond.instanceMethod ({ cls := "LoanRoundsModel", name := "firstOf", desc := "(I)I" } : Jvm.MethodName)) ∈ TT := tt_of (i := 654) rfl rfl
set_option maxRecDepth 20000 in
theorem tw_655 : (Jvm.Cond.code ({ cls := "LoanRoundsModel", name := "firstOf", desc := "(I)I" } : Jvm.MethodName) prog_6_method_13_code (4 : Nat) (Option.some Jvm.ClassFile.FieldType.int)) ∈ TT := tt_of (i := 655) rfl rfl
set_option maxRecDepth 20000 in
theorem tw_656 : (Jvm.Cond.methodLink "LoanRoundsModel" (77 : Nat) ({ cls := "LoanRoundsModel", name := "mayBeHad", desc := "(I)Z" } : Jvm.MethodName)) ∈ TT := tt_of (i := 656) rfl rfl
set_option maxRecDepth 20000 in
theorem tw_658 : (Jvm.Cond.instanceMethod ({ cls := "LoanRoundsModel", name := "mayBeHad", desc := "(I)Z" } : Jvm.MethodName)) ∈ TT := tt_of (i := 658) rfl rfl
set_option maxRecDepth 20000 in
theorem tw_659 : (Jvm.Cond.code ({ cls := "LoanRoundsModel", name := "mayBeHad", desc := "(I)Z" } : Jvm.MethodName) prog_6_method_12_code (2 : Nat) (Option.some Jvm.ClassFile.FieldType.boolean)) ∈ TT := tt_of (i := 659) rfl rfl
set_option maxRecDepth 20000 in
theorem tw_660 : (Jvm.Cond.methodLink "LoanRoundsModel" (74 : Nat) ({ cls := "LoanRoundsModel", name := "lentOf", desc := "(I)I" } : Jvm.MethodName)) ∈ TT := tt_of (i := 660) rfl rfl
set_option maxRecDepth 20000 in
theorem tw_662 : (Jvm.Cond.instanceMethod ({ cls := "LoanRoundsModel", name := "lentOf", desc := "(I)I" } : Jvm.MethodName)) ∈ TT := tt_of (i := 662) rfl rfl
set_option maxRecDepth 20000 in
theorem tw_663 : (Jvm.Cond.code ({ cls := "LoanRoundsModel", name := "lentOf", desc := "(I)I" } : Jvm.MethodName) prog_6_method_9_code (4 : Nat) (Option.some Jvm.ClassFile.FieldType.int)) ∈ TT := tt_of (i := 663) rfl rfl
set_option maxRecDepth 20000 in
theorem tw_664 : (Jvm.Cond.methodLink "LoanRoundsModel" (80 : Nat) ({ cls := "LoanRoundsModel", name := "weight", desc := "(I)I" } : Jvm.MethodName)) ∈ TT := tt_of (i := 664) rfl rfl
set_option maxRecDepth 20000 in
theorem tw_666 : (Jvm.Cond.instanceMethod ({ cls := "LoanRoundsModel", name := "weight", desc := "(I)I" } : Jvm.MethodName)) ∈ TT := tt_of (i := 666) rfl rfl
set_option maxRecDepth 20000 in
theorem tw_667 : (Jvm.Cond.code ({ cls := "LoanRoundsModel", name := "weight", desc := "(I)I" } : Jvm.MethodName) prog_6_method_11_code (4 : Nat) (Option.some Jvm.ClassFile.FieldType.int)) ∈ TT := tt_of (i := 667) rfl rfl
set_option maxRecDepth 20000 in
theorem tw_668 : (Jvm.Cond.methodLink "LoanRoundsModel" (86 : Nat) ({ cls := "LoanRoundsModel", name := "lentTo", desc := "(I)I" } : Jvm.MethodName)) ∈ TT := tt_of (i := 668) rfl rfl
set_option maxRecDepth 20000 in
theorem tw_670 : (Jvm.Cond.instanceMethod ({ cls := "LoanRoundsModel", name := "lentTo", desc := "(I)I" } : Jvm.MethodName)) ∈ TT := tt_of (i := 670) rfl rfl
set_option maxRecDepth 20000 in
theorem tw_671 : (Jvm.Cond.code ({ cls := "LoanRoundsModel", name := "lentTo", desc := "(I)I" } : Jvm.MethodName) prog_6_method_10_code (4 : Nat) (Option.some Jvm.ClassFile.FieldType.int)) ∈ TT := tt_of (i := 671) rfl rfl
set_option maxRecDepth 20000 in
theorem tw_672 : (Jvm.Cond.methodLink "LoanRoundsLaw" (57 : Nat) ({ cls := "LoanRoundsModel", name := "beat", desc := "(I)Z" } : Jvm.MethodName)) ∈ TT := tt_of (i := 672) rfl rfl
set_option maxRecDepth 20000 in
theorem tw_673 : (Jvm.Cond.instanceMethod ({ cls := "LoanRoundsModel", name := "beat", desc := "(I)Z" } : Jvm.MethodName)) ∈ TT := tt_of (i := 673) rfl rfl
set_option maxRecDepth 20000 in
theorem tw_674 : (Jvm.Cond.selects "LoanRoundsModel" ({ cls := "LoanRoundsModel", name := "beat", desc := "(I)Z" } : Jvm.MethodName) ({ cls := "LoanRoundsModel", name := "beat", desc := "(I)Z" } : Jvm.MethodName)) ∈ TT := tt_of (i := 674) rfl rfl
set_option maxRecDepth 20000 in
theorem tw_675 : (Jvm.Cond.code ({ cls := "LoanRoundsModel", name := "beat", desc := "(I)Z" } : Jvm.MethodName) prog_6_method_16_code (3 : Nat) (Option.some Jvm.ClassFile.FieldType.boolean)) ∈ TT := tt_of (i := 675) rfl rfl
set_option maxRecDepth 20000 in
theorem tw_676 : (Jvm.Cond.methodLink "LoanRoundsModel" (92 : Nat) ({ cls := "LoanRoundsModel", name := "lentWith", desc := "(I)I" } : Jvm.MethodName)) ∈ TT := tt_of (i := 676) rfl rfl
set_option maxRecDepth 20000 in
theorem tw_678 : (Jvm.Cond.instanceMethod ({ cls := "LoanRoundsModel", name := "lentWith", desc := "(I)I" } : Jvm.MethodName)) ∈ TT := tt_of (i := 678) rfl rfl
set_option maxRecDepth 20000 in
theorem tw_679 : (Jvm.Cond.code ({ cls := "LoanRoundsModel", name := "lentWith", desc := "(I)I" } : Jvm.MethodName) prog_6_method_15_code (3 : Nat) (Option.some Jvm.ClassFile.FieldType.int)) ∈ TT := tt_of (i := 679) rfl rfl
set_option maxRecDepth 20000 in
theorem tw_680 : (Jvm.Cond.methodLink "LoanRoundsLaw" (60 : Nat) ({ cls := "LoanRoundsModel", name := "end", desc := "(II)I" } : Jvm.MethodName)) ∈ TT := tt_of (i := 680) rfl rfl
set_option maxRecDepth 20000 in
theorem tw_681 : (Jvm.Cond.instanceMethod ({ cls := "LoanRoundsModel", name := "end", desc := "(II)I" } : Jvm.MethodName)) ∈ TT := tt_of (i := 681) rfl rfl
set_option maxRecDepth 20000 in
theorem tw_682 : (Jvm.Cond.selects "LoanRoundsModel" ({ cls := "LoanRoundsModel", name := "end", desc := "(II)I" } : Jvm.MethodName) ({ cls := "LoanRoundsModel", name := "end", desc := "(II)I" } : Jvm.MethodName)) ∈ TT := tt_of (i := 682) rfl rfl
set_option maxRecDepth 20000 in
theorem tw_683 : (Jvm.Cond.code ({ cls := "LoanRoundsModel", name := "end", desc := "(II)I" } : Jvm.MethodName) prog_6_method_18_code (4 : Nat) (Option.some Jvm.ClassFile.FieldType.int)) ∈ TT := tt_of (i := 683) rfl rfl
set_option maxRecDepth 20000 in
theorem tw_684 : (Jvm.Cond.methodLink "LoanRoundsModel" (95 : Nat) ({ cls := "LoanRoundsModel", name := "again", desc := "(I)V" } : Jvm.MethodName)) ∈ TT := tt_of (i := 684) rfl rfl
set_option maxRecDepth 20000 in
theorem tw_686 : (Jvm.Cond.instanceMethod ({ cls := "LoanRoundsModel", name := "again", desc := "(I)V" } : Jvm.MethodName)) ∈ TT := tt_of (i := 686) rfl rfl
set_option maxRecDepth 20000 in
theorem tw_687 : (Jvm.Cond.code ({ cls := "LoanRoundsModel", name := "again", desc := "(I)V" } : Jvm.MethodName) prog_6_method_17_code (5 : Nat) (Option.none : Option Jvm.ClassFile.FieldType)) ∈ TT := tt_of (i := 687) rfl rfl
set_option maxRecDepth 20000 in
theorem tw_688 : (Jvm.Cond.methodLink "LoanRoundsLaw" (64 : Nat) ({ cls := "LoanRoundsModel", name := "tick", desc := "(I)I" } : Jvm.MethodName)) ∈ TT := tt_of (i := 688) rfl rfl
set_option maxRecDepth 20000 in
theorem tw_689 : (Jvm.Cond.instanceMethod ({ cls := "LoanRoundsModel", name := "tick", desc := "(I)I" } : Jvm.MethodName)) ∈ TT := tt_of (i := 689) rfl rfl
set_option maxRecDepth 20000 in
theorem tw_690 : (Jvm.Cond.selects "LoanRoundsModel" ({ cls := "LoanRoundsModel", name := "tick", desc := "(I)I" } : Jvm.MethodName) ({ cls := "LoanRoundsModel", name := "tick", desc := "(I)I" } : Jvm.MethodName)) ∈ TT := tt_of (i := 690) rfl rfl
set_option maxRecDepth 20000 in
theorem tw_691 : (Jvm.Cond.code ({ cls := "LoanRoundsModel", name := "tick", desc := "(I)I" } : Jvm.MethodName) prog_6_method_19_code (5 : Nat) (Option.some Jvm.ClassFile.FieldType.int)) ∈ TT := tt_of (i := 691) rfl rfl
set_option maxRecDepth 20000 in
theorem tw_692 : (Jvm.Cond.methodLink "LoanRoundsLaw" (68 : Nat) ({ cls := "LoanRoundsModel", name := "cancel", desc := "(I)Z" } : Jvm.MethodName)) ∈ TT := tt_of (i := 692) rfl rfl
set_option maxRecDepth 20000 in
theorem tw_693 : (Jvm.Cond.instanceMethod ({ cls := "LoanRoundsModel", name := "cancel", desc := "(I)Z" } : Jvm.MethodName)) ∈ TT := tt_of (i := 693) rfl rfl
set_option maxRecDepth 20000 in
theorem tw_694 : (Jvm.Cond.selects "LoanRoundsModel" ({ cls := "LoanRoundsModel", name := "cancel", desc := "(I)Z" } : Jvm.MethodName) ({ cls := "LoanRoundsModel", name := "cancel", desc := "(I)Z" } : Jvm.MethodName)) ∈ TT := tt_of (i := 694) rfl rfl
set_option maxRecDepth 20000 in
theorem tw_695 : (Jvm.Cond.code ({ cls := "LoanRoundsModel", name := "cancel", desc := "(I)Z" } : Jvm.MethodName) prog_6_method_21_code (2 : Nat) (Option.some Jvm.ClassFile.FieldType.boolean)) ∈ TT := tt_of (i := 695) rfl rfl
set_option maxRecDepth 20000 in
theorem tw_696 : (Jvm.Cond.methodLink "LoanRoundsModel" (99 : Nat) ({ cls := "LoanRoundsModel", name := "isTask", desc := "(I)Z" } : Jvm.MethodName)) ∈ TT := tt_of (i := 696) rfl rfl
set_option maxRecDepth 20000 in
theorem tw_698 : (Jvm.Cond.instanceMethod ({ cls := "LoanRoundsModel", name := "isTask", desc := "(I)Z" } : Jvm.MethodName)) ∈ TT := tt_of (i := 698) rfl rfl
set_option maxRecDepth 20000 in
theorem tw_699 : (Jvm.Cond.code ({ cls := "LoanRoundsModel", name := "isTask", desc := "(I)Z" } : Jvm.MethodName) prog_6_method_20_code (2 : Nat) (Option.some Jvm.ClassFile.FieldType.boolean)) ∈ TT := tt_of (i := 699) rfl rfl
set_option maxRecDepth 20000 in
theorem tw_700 : (Jvm.Cond.methodLink "LoanRoundsLaw" (72 : Nat) ({ cls := "LoanRoundsModel", name := "revive", desc := "(I)Z" } : Jvm.MethodName)) ∈ TT := tt_of (i := 700) rfl rfl
set_option maxRecDepth 20000 in
theorem tw_701 : (Jvm.Cond.instanceMethod ({ cls := "LoanRoundsModel", name := "revive", desc := "(I)Z" } : Jvm.MethodName)) ∈ TT := tt_of (i := 701) rfl rfl
set_option maxRecDepth 20000 in
theorem tw_702 : (Jvm.Cond.selects "LoanRoundsModel" ({ cls := "LoanRoundsModel", name := "revive", desc := "(I)Z" } : Jvm.MethodName) ({ cls := "LoanRoundsModel", name := "revive", desc := "(I)Z" } : Jvm.MethodName)) ∈ TT := tt_of (i := 702) rfl rfl
set_option maxRecDepth 20000 in
theorem tw_703 : (Jvm.Cond.code ({ cls := "LoanRoundsModel", name := "revive", desc := "(I)Z" } : Jvm.MethodName) prog_6_method_22_code (2 : Nat) (Option.some Jvm.ClassFile.FieldType.boolean)) ∈ TT := tt_of (i := 703) rfl rfl
set_option maxRecDepth 20000 in
theorem tw_704 : (Jvm.Cond.methodLink "LoanRoundsLaw" (77 : Nat) ({ cls := "LoanRoundsModel", name := "set", desc := "(III)Z" } : Jvm.MethodName)) ∈ TT := tt_of (i := 704) rfl rfl
set_option maxRecDepth 20000 in
theorem tw_705 : (Jvm.Cond.instanceMethod ({ cls := "LoanRoundsModel", name := "set", desc := "(III)Z" } : Jvm.MethodName)) ∈ TT := tt_of (i := 705) rfl rfl
set_option maxRecDepth 20000 in
theorem tw_706 : (Jvm.Cond.selects "LoanRoundsModel" ({ cls := "LoanRoundsModel", name := "set", desc := "(III)Z" } : Jvm.MethodName) ({ cls := "LoanRoundsModel", name := "set", desc := "(III)Z" } : Jvm.MethodName)) ∈ TT := tt_of (i := 706) rfl rfl
set_option maxRecDepth 20000 in
theorem tw_707 : (Jvm.Cond.code ({ cls := "LoanRoundsModel", name := "set", desc := "(III)Z" } : Jvm.MethodName) prog_6_method_25_code (4 : Nat) (Option.some Jvm.ClassFile.FieldType.boolean)) ∈ TT := tt_of (i := 707) rfl rfl
set_option maxRecDepth 20000 in
theorem tw_708 : (Jvm.Cond.methodLink "LoanRoundsModel" (102 : Nat) ({ cls := "LoanRoundsModel", name := "least", desc := "(I)I" } : Jvm.MethodName)) ∈ TT := tt_of (i := 708) rfl rfl
set_option maxRecDepth 20000 in
theorem tw_709 : (Jvm.Cond.static ({ cls := "LoanRoundsModel", name := "least", desc := "(I)I" } : Jvm.MethodName)) ∈ TT := tt_of (i := 709) rfl rfl
set_option maxRecDepth 20000 in
theorem tw_710 : (Jvm.Cond.code ({ cls := "LoanRoundsModel", name := "least", desc := "(I)I" } : Jvm.MethodName) prog_6_method_23_code (1 : Nat) (Option.some Jvm.ClassFile.FieldType.int)) ∈ TT := tt_of (i := 710) rfl rfl
set_option maxRecDepth 20000 in
theorem tw_711 : (Jvm.Cond.methodLink "LoanRoundsModel" (105 : Nat) ({ cls := "LoanRoundsModel", name := "greatest", desc := "(I)I" } : Jvm.MethodName)) ∈ TT := tt_of (i := 711) rfl rfl
set_option maxRecDepth 20000 in
theorem tw_712 : (Jvm.Cond.static ({ cls := "LoanRoundsModel", name := "greatest", desc := "(I)I" } : Jvm.MethodName)) ∈ TT := tt_of (i := 712) rfl rfl
set_option maxRecDepth 20000 in
theorem tw_713 : (Jvm.Cond.code ({ cls := "LoanRoundsModel", name := "greatest", desc := "(I)I" } : Jvm.MethodName) prog_6_method_24_code (1 : Nat) (Option.some Jvm.ClassFile.FieldType.int)) ∈ TT := tt_of (i := 713) rfl rfl
set_option maxRecDepth 20000 in
theorem tw_714 : (Jvm.Cond.methodLink "LoanRoundsLaw" (80 : Nat) ({ cls := "LoanRoundsModel", name := "task", desc := "(II)I" } : Jvm.MethodName)) ∈ TT := tt_of (i := 714) rfl rfl
set_option maxRecDepth 20000 in
theorem tw_715 : (Jvm.Cond.instanceMethod ({ cls := "LoanRoundsModel", name := "task", desc := "(II)I" } : Jvm.MethodName)) ∈ TT := tt_of (i := 715) rfl rfl
set_option maxRecDepth 20000 in
theorem tw_716 : (Jvm.Cond.selects "LoanRoundsModel" ({ cls := "LoanRoundsModel", name := "task", desc := "(II)I" } : Jvm.MethodName) ({ cls := "LoanRoundsModel", name := "task", desc := "(II)I" } : Jvm.MethodName)) ∈ TT := tt_of (i := 716) rfl rfl
set_option maxRecDepth 20000 in
theorem tw_717 : (Jvm.Cond.code ({ cls := "LoanRoundsModel", name := "task", desc := "(II)I" } : Jvm.MethodName) prog_6_method_26_code (5 : Nat) (Option.some Jvm.ClassFile.FieldType.int)) ∈ TT := tt_of (i := 717) rfl rfl
set_option maxRecDepth 20000 in
theorem tw_718 : (Jvm.Cond.methodLink "LoanRoundsLaw" (84 : Nat) ({ cls := "LoanRoundsModel", name := "first", desc := "(I)I" } : Jvm.MethodName)) ∈ TT := tt_of (i := 718) rfl rfl
set_option maxRecDepth 20000 in
theorem tw_719 : (Jvm.Cond.instanceMethod ({ cls := "LoanRoundsModel", name := "first", desc := "(I)I" } : Jvm.MethodName)) ∈ TT := tt_of (i := 719) rfl rfl
set_option maxRecDepth 20000 in
theorem tw_720 : (Jvm.Cond.selects "LoanRoundsModel" ({ cls := "LoanRoundsModel", name := "first", desc := "(I)I" } : Jvm.MethodName) ({ cls := "LoanRoundsModel", name := "first", desc := "(I)I" } : Jvm.MethodName)) ∈ TT := tt_of (i := 720) rfl rfl
set_option maxRecDepth 20000 in
theorem tw_721 : (Jvm.Cond.code ({ cls := "LoanRoundsModel", name := "first", desc := "(I)I" } : Jvm.MethodName) prog_6_method_27_code (2 : Nat) (Option.some Jvm.ClassFile.FieldType.int)) ∈ TT := tt_of (i := 721) rfl rfl
set_option maxRecDepth 20000 in
theorem tw_722 : (Jvm.Cond.methodLink "LoanRoundsLaw" (88 : Nat) ({ cls := "LoanRoundsModel", name := "next", desc := "()I" } : Jvm.MethodName)) ∈ TT := tt_of (i := 722) rfl rfl
set_option maxRecDepth 20000 in
theorem tw_723 : (Jvm.Cond.instanceMethod ({ cls := "LoanRoundsModel", name := "next", desc := "()I" } : Jvm.MethodName)) ∈ TT := tt_of (i := 723) rfl rfl
set_option maxRecDepth 20000 in
theorem tw_724 : (Jvm.Cond.selects "LoanRoundsModel" ({ cls := "LoanRoundsModel", name := "next", desc := "()I" } : Jvm.MethodName) ({ cls := "LoanRoundsModel", name := "next", desc := "()I" } : Jvm.MethodName)) ∈ TT := tt_of (i := 724) rfl rfl
set_option maxRecDepth 20000 in
theorem tw_725 : (Jvm.Cond.code ({ cls := "LoanRoundsModel", name := "next", desc := "()I" } : Jvm.MethodName) prog_6_method_28_code (3 : Nat) (Option.some Jvm.ClassFile.FieldType.int)) ∈ TT := tt_of (i := 725) rfl rfl
set_option maxRecDepth 20000 in
theorem tw_726 : (Jvm.Cond.methodLink "LoanRoundsLaw" (92 : Nat) ({ cls := "LoanRoundsModel", name := "count", desc := "(I)I" } : Jvm.MethodName)) ∈ TT := tt_of (i := 726) rfl rfl
set_option maxRecDepth 20000 in
theorem tw_727 : (Jvm.Cond.instanceMethod ({ cls := "LoanRoundsModel", name := "count", desc := "(I)I" } : Jvm.MethodName)) ∈ TT := tt_of (i := 727) rfl rfl
set_option maxRecDepth 20000 in
theorem tw_728 : (Jvm.Cond.selects "LoanRoundsModel" ({ cls := "LoanRoundsModel", name := "count", desc := "(I)I" } : Jvm.MethodName) ({ cls := "LoanRoundsModel", name := "count", desc := "(I)I" } : Jvm.MethodName)) ∈ TT := tt_of (i := 728) rfl rfl
set_option maxRecDepth 20000 in
theorem tw_729 : (Jvm.Cond.code ({ cls := "LoanRoundsModel", name := "count", desc := "(I)I" } : Jvm.MethodName) prog_6_method_31_code (2 : Nat) (Option.some Jvm.ClassFile.FieldType.int)) ∈ TT := tt_of (i := 729) rfl rfl
set_option maxRecDepth 20000 in
theorem tw_730 : (Jvm.Cond.methodLink "LoanRoundsModel" (108 : Nat) ({ cls := "LoanRoundsModel", name := "waitingIn", desc := "(I)I" } : Jvm.MethodName)) ∈ TT := tt_of (i := 730) rfl rfl
set_option maxRecDepth 20000 in
theorem tw_732 : (Jvm.Cond.instanceMethod ({ cls := "LoanRoundsModel", name := "waitingIn", desc := "(I)I" } : Jvm.MethodName)) ∈ TT := tt_of (i := 732) rfl rfl
set_option maxRecDepth 20000 in
theorem tw_733 : (Jvm.Cond.code ({ cls := "LoanRoundsModel", name := "waitingIn", desc := "(I)I" } : Jvm.MethodName) prog_6_method_30_code (4 : Nat) (Option.some Jvm.ClassFile.FieldType.int)) ∈ TT := tt_of (i := 733) rfl rfl
set_option maxRecDepth 20000 in
theorem tw_734 : (Jvm.Cond.methodLink "LoanRoundsModel" (111 : Nat) ({ cls := "LoanRoundsModel", name := "inState", desc := "(I)I" } : Jvm.MethodName)) ∈ TT := tt_of (i := 734) rfl rfl
set_option maxRecDepth 20000 in
theorem tw_736 : (Jvm.Cond.instanceMethod ({ cls := "LoanRoundsModel", name := "inState", desc := "(I)I" } : Jvm.MethodName)) ∈ TT := tt_of (i := 736) rfl rfl
set_option maxRecDepth 20000 in
theorem tw_737 : (Jvm.Cond.code ({ cls := "LoanRoundsModel", name := "inState", desc := "(I)I" } : Jvm.MethodName) prog_6_method_29_code (4 : Nat) (Option.some Jvm.ClassFile.FieldType.int)) ∈ TT := tt_of (i := 737) rfl rfl
set_option maxRecDepth 20000 in
theorem tw_738 : (Jvm.Cond.constantLong "LoanRoundsLaw" (37 : Nat) (4294967295 : Int64)) ∈ TT := tt_of (i := 738) rfl rfl
set_option maxRecDepth 20000 in
theorem tw_739 : (Jvm.Cond.sameMethod "java/lang/Throwable" "java/lang/Throwable" "fillInStackTrace" "(I)Ljava/lang/Throwable;") ∈ TT := tt_of (i := 739) rfl rfl
set_option maxRecDepth 20000 in
theorem tw_741 : (Jvm.Cond.sameMethod "[Ljava/lang/Object;" "java/lang/Object" "getClass" "()Ljava/lang/Class;") ∈ TT := tt_of (i := 741) rfl rfl
set_option maxRecDepth 20000 in
theorem tw_742 : (Jvm.Cond.selects "[Ljava/lang/Object;" ({ cls := "java/lang/Object", name := "getClass", desc := "()Ljava/lang/Class;" } : Jvm.MethodName) ({ cls := "java/lang/Object", name := "getClass", desc := "()Ljava/lang/Class;" } : Jvm.MethodName)) ∈ TT := tt_of (i := 742) rfl rfl
theorem inT_G : ∀ w ∈ u_ws R_G F_G 2, w ∈ TT := by
  show ∀ w ∈ [u_lay R_G F_G 0, u_lay R_G F_G 1], w ∈ TT
  intro w hw
  simp only [List.mem_cons, List.not_mem_nil, or_false] at hw
  rcases hw with rfl | rfl
  · exact tw_128
  · exact tw_130
theorem inT_Q : ∀ w ∈ u_ws R_Q F_Q 6, w ∈ TT := by
  show ∀ w ∈ [u_lay R_Q F_Q 0, u_lay R_Q F_Q 1, u_lay R_Q F_Q 2, u_lay R_Q F_Q 3, u_lay R_Q F_Q 4, u_lay R_Q F_Q 5], w ∈ TT
  intro w hw
  simp only [List.mem_cons, List.not_mem_nil, or_false] at hw
  rcases hw with rfl | rfl | rfl | rfl | rfl | rfl
  · exact tw_104
  · exact tw_106
  · exact tw_108
  · exact tw_110
  · exact tw_112
  · exact tw_114
theorem inT_T : ∀ w ∈ u_ws R_T F_T 12, w ∈ TT := by
  show ∀ w ∈ [u_lay R_T F_T 0, u_lay R_T F_T 1, u_lay R_T F_T 2, u_lay R_T F_T 3, u_lay R_T F_T 4, u_lay R_T F_T 5, u_lay R_T F_T 6, u_lay R_T F_T 7, u_lay R_T F_T 8, u_lay R_T F_T 9, u_lay R_T F_T 10, u_lay R_T F_T 11], w ∈ TT
  intro w hw
  simp only [List.mem_cons, List.not_mem_nil, or_false] at hw
  rcases hw with rfl | rfl | rfl | rfl | rfl | rfl | rfl | rfl | rfl | rfl | rfl | rfl
  · exact tw_418
  · exact tw_420
  · exact tw_422
  · exact tw_424
  · exact tw_426
  · exact tw_428
  · exact tw_430
  · exact tw_432
  · exact tw_434
  · exact tw_436
  · exact tw_438
  · exact tw_440
theorem inT_X : ∀ w ∈ u_ws R_X F_X 5, w ∈ TT := by
  show ∀ w ∈ [u_lay R_X F_X 0, u_lay R_X F_X 1, u_lay R_X F_X 2, u_lay R_X F_X 3, u_lay R_X F_X 4], w ∈ TT
  intro w hw
  simp only [List.mem_cons, List.not_mem_nil, or_false] at hw
  rcases hw with rfl | rfl | rfl | rfl | rfl
  · exact tw_138
  · exact tw_140
  · exact tw_142
  · exact tw_144
  · exact tw_146
theorem inT_M : ∀ w ∈ u_ws R_M F_M 15, w ∈ TT := by
  show ∀ w ∈ [u_lay R_M F_M 0, u_lay R_M F_M 1, u_lay R_M F_M 2, u_lay R_M F_M 3, u_lay R_M F_M 4, u_lay R_M F_M 5, u_lay R_M F_M 6, u_lay R_M F_M 7, u_lay R_M F_M 8, u_lay R_M F_M 9, u_lay R_M F_M 10, u_lay R_M F_M 11, u_lay R_M F_M 12, u_lay R_M F_M 13, u_lay R_M F_M 14], w ∈ TT
  intro w hw
  simp only [List.mem_cons, List.not_mem_nil, or_false] at hw
  rcases hw with rfl | rfl | rfl | rfl | rfl | rfl | rfl | rfl | rfl | rfl | rfl | rfl | rfl | rfl | rfl
  · exact tw_588
  · exact tw_590
  · exact tw_592
  · exact tw_594
  · exact tw_596
  · exact tw_598
  · exact tw_600
  · exact tw_602
  · exact tw_604
  · exact tw_606
  · exact tw_608
  · exact tw_610
  · exact tw_612
  · exact tw_614
  · exact tw_616
theorem inT_A : ∀ w ∈ u_ws R_A F_A 3, w ∈ TT := by
  show ∀ w ∈ [u_lay R_A F_A 0, u_lay R_A F_A 1, u_lay R_A F_A 2], w ∈ TT
  intro w hw
  simp only [List.mem_cons, List.not_mem_nil, or_false] at hw
  rcases hw with rfl | rfl | rfl
  · exact tw_81
  · exact tw_83
  · exact tw_85
end
section
-- Z4: small rows on Int32
theorem zlt_nle {a b : Int32} (h : a < b) : ¬ b ≤ a := fun z => absurd h (Int32.not_lt.mpr z)
theorem znlt_le {a b : Int32} (h : ¬ a < b) : b ≤ a := Int32.not_lt.mp h
theorem zo_n (C : String) (o : Option Nat) : narrow (.object C) (va_rf o) = va_rf o := by cases o <;> rfl
theorem zo_f (C : String) (o : Option Nat) : fits (.object C) (va_rf o) = true := by cases o <;> rfl
end
section
-- the mathematics: what the methods of a task answer (conditions as the bytecode has them)
def sLive (st : Int32) : Bool := decide (st = 0) || decide (st = 1)
def sDue (st due now : Int32) : Bool := decide (st = 0) && decide (due ≤ now)
def sGrown (growth due now : Int32) : Int32 := if growth ≤ 0 then 0 else (now - due) / growth
def sWeight (rank growth due now : Int32) : Int32 := if 9 < rank + sGrown growth due now then 9 else rank + sGrown growth due now
def sWithin (v lo hi : Int32) : Bool := decide (lo ≤ v) && decide (v ≤ hi)
set_option maxHeartbeats 4000000 in
set_option maxRecDepth 100000 in
theorem c_X_within (l : Launch) {D : va_G} {tys : List (ClassId × FieldType)} {ws : va_W} {H : Heap} (hP : va_P D vwCl ws H) (v lo hi : Int32) : Met l y_X_within (Cond.code y_X_within b_X_within 3 (some .boolean) :: TT) ({ frames := 1, cells := 0, slots := 0, locals := 60 }) (zPc [.int v, .int lo, .int hi] H D vwCl tys) (zQi (zb (sWithin v lo hi)) H) 0 0 (fun _ => False) := by
  refine z_body (by decide) (Nat.le_of_ble_eq_true rfl) ?_
  intro p e s m below meth c ls C0 hH hKN hl
  obtain ⟨hx, hb, hr, hts, hown, hlocks, hml⟩ := C0
  subst hH
  have hK := hKN.1
  have hN := hKN.2
  have hS : va_S (fun _ => False) s.heap s.heap [] := va_S.rf
  have hl : lv_has ls 3 [(0, .int v), (1, .int lo), (2, .int hi)] := hl
  refine lv_iload_n hx hb d_X_within_0 rfl (zl hl rfl) ?_
  refine lv_iload_n hx hb d_X_within_1 rfl (zl hl rfl) ?_
  refine lv_icmp_lt (tgt := 14) hx hb d_X_within_2 (by decide) (fun c_1 => ?_) (fun c_1 => ?_)
  · have b1 : ¬ lo ≤ v := zlt_nle c_1
    refine lv_iconst (v := 0) hx hb d_X_within_14 (by decide) ?_
    exact z_zret hx hb hr hlocks hS (by simp [sWithin, zb, *]) d_X_within_15
  · have b1 : lo ≤ v := znlt_le c_1
    refine lv_iload_n hx hb d_X_within_5 rfl (zl hl rfl) ?_
    refine lv_iload_n hx hb d_X_within_6 rfl (zl hl rfl) ?_
    refine lv_icmp_gt (tgt := 14) hx hb d_X_within_7 (by decide) (fun c_2 => ?_) (fun c_2 => ?_)
    · have b2 : ¬ v ≤ hi := zlt_nle c_2
      refine lv_iconst (v := 0) hx hb d_X_within_14 (by decide) ?_
      exact z_zret hx hb hr hlocks hS (by simp [sWithin, zb, *]) d_X_within_15
    · have b2 : v ≤ hi := znlt_le c_2
      refine lv_iconst (v := 1) hx hb d_X_within_10 (by decide) ?_
      refine lv_goto (tgt := 15) hx hb d_X_within_11 (by decide) ?_
      exact z_zret hx hb hr hlocks hS (by simp [sWithin, zb, *]) d_X_within_15
set_option maxHeartbeats 4000000 in
set_option maxRecDepth 100000 in
theorem c_T_isLive (l : Launch) {D : va_G} {tys : List (ClassId × FieldType)} {ws : va_W} {H : Heap} (hP : va_P D vwCl ws H) {a qa : Nat} {ga : Option Nat} {num rank st tries due en wk tk dn : Int32} {key : Int64} (hz : zin ws a (.inr (2, [.int num, .ref qa, .int rank, va_rf ga, .long key, .int st, .int tries, .int due, .int en, .int wk, .int tk, .int dn]))) : Met l y_T_isLive (Cond.code y_T_isLive b_T_isLive 1 (some .boolean) :: TT) ({ frames := 1, cells := 0, slots := 0, locals := 60 }) (zPc [.ref a] H D vwCl tys) (zQi (zb (sLive st)) H) 0 0 (fun _ => False) := by
  refine z_body (by decide) (Nat.le_of_ble_eq_true rfl) ?_
  intro p e s m below meth c ls C0 hH hKN hl
  obtain ⟨hx, hb, hr, hts, hown, hlocks, hml⟩ := C0
  subst hH
  have hK := hKN.1
  have hN := hKN.2
  have hS : va_S (fun _ => False) s.heap s.heap [] := va_S.rf
  have hl : lv_has ls 1 [(0, .ref a)] := hl
  refine lv_aload_n hx hb d_T_isLive_0 rfl (zl hl rfl) ?_
  refine z_get (C := R_T) (T := F_T) (N := 12) (v := .int st) hx hb hts inT_T hown hK hP hz rfl 5 (by decide) tw_405 (fun _ h => h) rfl d_T_isLive_1 ?_
  refine lv_if_eq (tgt := 15) hx hb d_T_isLive_4 (by decide) (fun c_1 => ?_) (fun c_1 => ?_)
  · refine lv_iconst (v := 1) hx hb d_T_isLive_15 (by decide) ?_
    refine lv_goto (tgt := 20) hx hb d_T_isLive_16 (by decide) ?_
    exact z_zret hx hb hr hlocks hS (by simp [sLive, zb, *]) d_T_isLive_20
  · refine lv_aload_n hx hb d_T_isLive_7 rfl (zl hl rfl) ?_
    refine z_get (C := R_T) (T := F_T) (N := 12) (v := .int st) hx hb hts inT_T hown hK hP hz rfl 5 (by decide) tw_405 (fun _ h => h) rfl d_T_isLive_8 ?_
    refine lv_iconst (v := 1) hx hb d_T_isLive_11 (by decide) ?_
    refine lv_icmp_ne (tgt := 19) hx hb d_T_isLive_12 (by decide) (fun c_2 => ?_) (fun c_2 => ?_)
    · refine lv_iconst (v := 0) hx hb d_T_isLive_19 (by decide) ?_
      exact z_zret hx hb hr hlocks hS (by simp [sLive, zb, *]) d_T_isLive_20
    · refine lv_iconst (v := 1) hx hb d_T_isLive_15 (by decide) ?_
      refine lv_goto (tgt := 20) hx hb d_T_isLive_16 (by decide) ?_
      exact z_zret hx hb hr hlocks hS (by simp [sLive, zb, *]) d_T_isLive_20
set_option maxHeartbeats 4000000 in
set_option maxRecDepth 100000 in
theorem c_T_isDue (l : Launch) {D : va_G} {tys : List (ClassId × FieldType)} {ws : va_W} {H : Heap} (hP : va_P D vwCl ws H) {a qa : Nat} {ga : Option Nat} {num rank st tries due en wk tk dn : Int32} {key : Int64} (hz : zin ws a (.inr (2, [.int num, .ref qa, .int rank, va_rf ga, .long key, .int st, .int tries, .int due, .int en, .int wk, .int tk, .int dn]))) (now : Int32) : Met l y_T_isDue (Cond.code y_T_isDue b_T_isDue 2 (some .boolean) :: TT) ({ frames := 1, cells := 0, slots := 0, locals := 60 }) (zPc [.ref a, .int now] H D vwCl tys) (zQi (zb (sDue st due now)) H) 0 0 (fun _ => False) := by
  refine z_body (by decide) (Nat.le_of_ble_eq_true rfl) ?_
  intro p e s m below meth c ls C0 hH hKN hl
  obtain ⟨hx, hb, hr, hts, hown, hlocks, hml⟩ := C0
  subst hH
  have hK := hKN.1
  have hN := hKN.2
  have hS : va_S (fun _ => False) s.heap s.heap [] := va_S.rf
  have hl : lv_has ls 2 [(0, .ref a), (1, .int now)] := hl
  refine lv_aload_n hx hb d_T_isDue_0 rfl (zl hl rfl) ?_
  refine z_get (C := R_T) (T := F_T) (N := 12) (v := .int st) hx hb hts inT_T hown hK hP hz rfl 5 (by decide) tw_405 (fun _ h => h) rfl d_T_isDue_1 ?_
  refine lv_if_ne (tgt := 19) hx hb d_T_isDue_4 (by decide) (fun c_1 => ?_) (fun c_1 => ?_)
  · refine lv_iconst (v := 0) hx hb d_T_isDue_19 (by decide) ?_
    exact z_zret hx hb hr hlocks hS (by simp [sDue, zb, *]) d_T_isDue_20
  · refine lv_aload_n hx hb d_T_isDue_7 rfl (zl hl rfl) ?_
    refine z_get (C := R_T) (T := F_T) (N := 12) (v := .int due) hx hb hts inT_T hown hK hP hz rfl 7 (by decide) tw_409 (fun _ h => h) rfl d_T_isDue_8 ?_
    refine lv_iload_n hx hb d_T_isDue_11 rfl (zl hl rfl) ?_
    refine lv_icmp_gt (tgt := 19) hx hb d_T_isDue_12 (by decide) (fun c_2 => ?_) (fun c_2 => ?_)
    · have b2 : ¬ due ≤ now := zlt_nle c_2
      refine lv_iconst (v := 0) hx hb d_T_isDue_19 (by decide) ?_
      exact z_zret hx hb hr hlocks hS (by simp [sDue, zb, *]) d_T_isDue_20
    · have b2 : due ≤ now := znlt_le c_2
      refine lv_iconst (v := 1) hx hb d_T_isDue_15 (by decide) ?_
      refine lv_goto (tgt := 20) hx hb d_T_isDue_16 (by decide) ?_
      exact z_zret hx hb hr hlocks hS (by simp [sDue, zb, *]) d_T_isDue_20
set_option maxHeartbeats 4000000 in
set_option maxRecDepth 100000 in
theorem c_T_weight (l : Launch) {D : va_G} {tys : List (ClassId × FieldType)} {ws : va_W} {H : Heap} (hP : va_P D vwCl ws H) {a qa : Nat} {ga : Option Nat} {num rank st tries due en wk tk dn : Int32} {key : Int64} (hz : zin ws a (.inr (2, [.int num, .ref qa, .int rank, va_rf ga, .long key, .int st, .int tries, .int due, .int en, .int wk, .int tk, .int dn]))) {loan most base top growth memory : Int32} (hq : zin ws qa (.inr (1, [.int loan, .int most, .int base, .int top, .int growth, .int memory]))) (now : Int32) : Met l y_T_weight (Cond.code y_T_weight b_T_weight 3 (some .int) :: TT) ({ frames := 2, cells := 0, slots := 0, locals := 120 }) (zPc [.ref a, .int now] H D vwCl tys) (zQi (sWeight rank growth due now) H) 0 0 (fun _ => False) := by
  refine z_body (by decide) (Nat.le_of_ble_eq_true rfl) ?_
  intro p e s m below meth c ls C0 hH hKN hl
  obtain ⟨hx, hb, hr, hts, hown, hlocks, hml⟩ := C0
  subst hH
  have hK := hKN.1
  have hN := hKN.2
  have hS : va_S (fun _ => False) s.heap s.heap [] := va_S.rf
  have hl : lv_has ls 3 [(0, .ref a), (1, .int now)] := hl
  refine lv_aload_n hx hb d_T_weight_0 rfl (zl hl rfl) ?_
  refine z_get (C := R_T) (T := F_T) (N := 12) (v := .ref qa) hx hb hts inT_T hown hK hP hz rfl 1 (by decide) tw_399 (fun _ h => h) rfl d_T_weight_1 ?_
  refine z_get (C := R_Q) (T := F_Q) (N := 6) (v := .int growth) hx hb hts inT_Q hown hK hP hq rfl 4 (by decide) tw_101 (fun _ h => h) rfl d_T_weight_4 ?_
  refine lv_if_le (tgt := 27) hx hb d_T_weight_7 (by decide) (fun c_1 => ?_) (fun c_1 => ?_)
  · refine lv_iconst (v := 0) hx hb d_T_weight_27 (by decide) ?_
    refine lv_istore_n (lv' := [(2, .int 0), (0, .ref a), (1, .int now)]) hx hb d_T_weight_28 rfl hl (by decide) rfl (fun ls hl => ?_)
    refine lv_aload_n hx hb d_T_weight_29 rfl (zl hl rfl) ?_
    refine z_get (C := R_T) (T := F_T) (N := 12) (v := .int rank) hx hb hts inT_T hown hK hP hz rfl 2 (by decide) tw_401 (fun _ h => h) rfl d_T_weight_30 ?_
    refine lv_iload_n hx hb d_T_weight_33 rfl (zl hl rfl) ?_
    refine lv_iadd hx hb d_T_weight_34 ?_
    refine lv_bipush (v := 9) hx hb d_T_weight_35 (by decide) ?_
    refine va_mmin hx hb (hml.trans hl.1.symm) hown (hts _ tw_259) (hts _ tw_260) (hts _ tw_46) (hts _ tw_261) (Nat.le_of_ble_eq_true rfl) (Nat.le_of_ble_eq_true rfl) (Nat.zero_le _) (Nat.zero_le _) d_T_weight_37 ?_
    exact z_iret hx hb hr hlocks hS (by simp [sWeight, sGrown, *]) d_T_weight_40
  · refine lv_iload_n hx hb d_T_weight_10 rfl (zl hl rfl) ?_
    refine lv_aload_n hx hb d_T_weight_11 rfl (zl hl rfl) ?_
    refine z_get (C := R_T) (T := F_T) (N := 12) (v := .int due) hx hb hts inT_T hown hK hP hz rfl 7 (by decide) tw_409 (fun _ h => h) rfl d_T_weight_12 ?_
    refine lv_isub hx hb d_T_weight_15 ?_
    refine lv_aload_n hx hb d_T_weight_16 rfl (zl hl rfl) ?_
    refine z_get (C := R_T) (T := F_T) (N := 12) (v := .ref qa) hx hb hts inT_T hown hK hP hz rfl 1 (by decide) tw_399 (fun _ h => h) rfl d_T_weight_17 ?_
    refine z_get (C := R_Q) (T := F_Q) (N := 6) (v := .int growth) hx hb hts inT_Q hown hK hP hq rfl 4 (by decide) tw_101 (fun _ h => h) rfl d_T_weight_20 ?_
    refine lv_idiv hx hb d_T_weight_23 (fun h => c_1 (by rw [h]; decide)) ?_
    refine lv_goto (tgt := 28) hx hb d_T_weight_24 (by decide) ?_
    refine lv_istore_n (lv' := [(2, .int ((now - due) / growth)), (0, .ref a), (1, .int now)]) hx hb d_T_weight_28 rfl hl (by decide) rfl (fun ls hl => ?_)
    refine lv_aload_n hx hb d_T_weight_29 rfl (zl hl rfl) ?_
    refine z_get (C := R_T) (T := F_T) (N := 12) (v := .int rank) hx hb hts inT_T hown hK hP hz rfl 2 (by decide) tw_401 (fun _ h => h) rfl d_T_weight_30 ?_
    refine lv_iload_n hx hb d_T_weight_33 rfl (zl hl rfl) ?_
    refine lv_iadd hx hb d_T_weight_34 ?_
    refine lv_bipush (v := 9) hx hb d_T_weight_35 (by decide) ?_
    refine va_mmin hx hb (hml.trans hl.1.symm) hown (hts _ tw_259) (hts _ tw_260) (hts _ tw_46) (hts _ tw_261) (Nat.le_of_ble_eq_true rfl) (Nat.le_of_ble_eq_true rfl) (Nat.zero_le _) (Nat.zero_le _) d_T_weight_37 ?_
    exact z_iret hx hb hr hlocks hS (by simp [sWeight, sGrown, *]) d_T_weight_40
end
section
-- the reference's picture: its object at ad 0, its arrays at ad 1 .. ad 11 (queue, rank, group, key, tries, state, when, worker, token, told, limit)
def TY (kk : Nat → ClassId) : List (ClassId × FieldType) := [(kk 0, .int), (kk 1, .long), (kk 2, .object "LoanRounds$Queue"), (kk 3, .object "LoanRounds$Group"), (kk 4, .object "java/lang/Object")]
def mlen (j : Nat) : Nat := if j = 10 then 24 else if j = 11 then 8 else 400
def mobj (ad : Nat → Nat) (thr time : Int32) (n : Nat) (tok : Int32) : va_E := .inr (4, [.int thr, .int time, .int (nI n), .int tok, .ref (ad 1), .ref (ad 2), .ref (ad 3), .ref (ad 4), .ref (ad 5), .ref (ad 6), .ref (ad 7), .ref (ad 8), .ref (ad 9), .ref (ad 10), .ref (ad 11)])
def PM (kk : Nat → ClassId) (ad : Nat → Nat) (thr time : Int32) (n : Nat) (tok : Int32) (f : Nat → Nat → Int32) (ky : Nat → Int64) (ws : va_W) : Prop :=
  zin ws (ad 0) (mobj ad thr time n tok) ∧ (∀ j, 1 ≤ j → j < 12 → j ≠ 4 → zin ws (ad j) (.inl (kk 0, mlen j, .inl (f j)))) ∧ zin ws (ad 4) (.inl (kk 1, 400, .inr (.inl ky))) ∧ ∀ i j, i < 12 → j < 12 → ad i = ad j → i = j
section PMS
variable {kk : Nat → ClassId} {ad : Nat → Nat} {thr time : Int32} {n : Nat} {tok : Int32} {f : Nat → Nat → Int32} {ky : Nat → Int64} {ws ws' : va_W}
theorem PM_o (h : PM kk ad thr time n tok f ky ws) : zin ws (ad 0) (.inr (4, [.int thr, .int time, .int (nI n), .int tok, .ref (ad 1), .ref (ad 2), .ref (ad 3), .ref (ad 4), .ref (ad 5), .ref (ad 6), .ref (ad 7), .ref (ad 8), .ref (ad 9), .ref (ad 10), .ref (ad 11)])) := h.1
theorem PM_1 (h : PM kk ad thr time n tok f ky ws) : zin ws (ad 1) (.inl (kk 0, 400, .inl (f 1))) := h.2.1 1 (by decide) (by decide) (by decide)
theorem PM_2 (h : PM kk ad thr time n tok f ky ws) : zin ws (ad 2) (.inl (kk 0, 400, .inl (f 2))) := h.2.1 2 (by decide) (by decide) (by decide)
theorem PM_3 (h : PM kk ad thr time n tok f ky ws) : zin ws (ad 3) (.inl (kk 0, 400, .inl (f 3))) := h.2.1 3 (by decide) (by decide) (by decide)
theorem PM_4 (h : PM kk ad thr time n tok f ky ws) : zin ws (ad 4) (.inl (kk 1, 400, .inr (.inl ky))) := h.2.2.1
theorem PM_5 (h : PM kk ad thr time n tok f ky ws) : zin ws (ad 5) (.inl (kk 0, 400, .inl (f 5))) := h.2.1 5 (by decide) (by decide) (by decide)
theorem PM_6 (h : PM kk ad thr time n tok f ky ws) : zin ws (ad 6) (.inl (kk 0, 400, .inl (f 6))) := h.2.1 6 (by decide) (by decide) (by decide)
theorem PM_7 (h : PM kk ad thr time n tok f ky ws) : zin ws (ad 7) (.inl (kk 0, 400, .inl (f 7))) := h.2.1 7 (by decide) (by decide) (by decide)
theorem PM_8 (h : PM kk ad thr time n tok f ky ws) : zin ws (ad 8) (.inl (kk 0, 400, .inl (f 8))) := h.2.1 8 (by decide) (by decide) (by decide)
theorem PM_9 (h : PM kk ad thr time n tok f ky ws) : zin ws (ad 9) (.inl (kk 0, 400, .inl (f 9))) := h.2.1 9 (by decide) (by decide) (by decide)
theorem PM_10 (h : PM kk ad thr time n tok f ky ws) : zin ws (ad 10) (.inl (kk 0, 24, .inl (f 10))) := h.2.1 10 (by decide) (by decide) (by decide)
theorem PM_11 (h : PM kk ad thr time n tok f ky ws) : zin ws (ad 11) (.inl (kk 0, 8, .inl (f 11))) := h.2.1 11 (by decide) (by decide) (by decide)
theorem PM_ne (h : PM kk ad thr time n tok f ky ws) {i j : Nat} (hi : i < 12) (hj : j < 12) (hij : i ≠ j) : ad i ≠ ad j := fun z => hij (h.2.2.2 i j hi hj z)
/-- a field of the object written -/
theorem PM_wo {thr' time' : Int32} {n' : Nat} {tok' : Int32} (h : PM kk ad thr time n tok f ky ws) (u : zupd ws (ad 0) (mobj ad thr' time' n' tok') ws') : PM kk ad thr' time' n' tok' f ky ws' :=
  ⟨u.1, fun j h1 h2 h3 => u.2 _ _ (PM_ne h h2 (by decide) (by omega)) (h.2.1 j h1 h2 h3), u.2 _ _ (PM_ne h (by decide) (by decide) (by decide)) h.2.2.1, h.2.2.2⟩
/-- an int array's place written -/
theorem PM_wa (h : PM kk ad thr time n tok f ky ws) (j : Nat) (h1 : 1 ≤ j) (h2 : j < 12) (h3 : j ≠ 4) {g : Nat → Int32} {N : Nat} (hN : mlen j = N) (u : zupd ws (ad j) (.inl (kk 0, N, .inl g)) ws') : PM kk ad thr time n tok (va_up f j g) ky ws' := by
  subst hN
  refine ⟨u.2 _ _ (PM_ne h (by decide) h2 (by omega)) h.1, fun i g1 g2 g3 => ?_, u.2 _ _ (PM_ne h (by decide) h2 (by omega)) h.2.2.1, h.2.2.2⟩
  by_cases e : i = j
  · subst e
    rw [va_up_self]
    exact u.1
  · rw [va_up_ne _ _ e]
    exact u.2 _ _ (PM_ne h g2 h2 e) (h.2.1 i g1 g2 g3)
/-- the keys' array written -/
theorem PM_wk (h : PM kk ad thr time n tok f ky ws) {g : Nat → Int64} (u : zupd ws (ad 4) (.inl (kk 1, 400, .inr (.inl g))) ws') : PM kk ad thr time n tok f g ws' :=
  ⟨u.2 _ _ (PM_ne h (by decide) (by decide) (by decide)) h.1, fun j h1 h2 h3 => u.2 _ _ (PM_ne h h2 (by decide) h3) (h.2.1 j h1 h2 h3), u.1, h.2.2.2⟩
/-- cells that aren't the reference's stay behind a write at one of its -/
def kM (e : va_E) : Bool := match e with
  | .inl (_, n, .inl _) => decide (8 ≤ n)
  | .inl (_, n, .inr (.inl _)) => decide (400 ≤ n)
  | .inr (c, _) => c == 4
  | _ => false
def zfrM (ws ws' : va_W) : Prop := ∀ (b : Nat) (e : va_E), kM e = false → zin ws b e → zin ws' b e
theorem zfrM_rf : zfrM ws ws := fun _ _ _ h => h
theorem zfrM_tr {w2 : va_W} (h1 : zfrM ws ws') (h2 : zfrM ws' w2) : zfrM ws w2 := fun b e hk hz => h2 b e hk (h1 b e hk hz)
theorem zfrM_up {A : Nat → Prop} {a : Nat} {e0 e1 : va_E} (hD : va_D A ws) (hz : zin ws a e0) (hk : kM e0 = true) (u : zupd ws a e1 ws') : zfrM ws ws' := fun b e he hb => u.2 b e (zin_ne hD hb hz (fun z => by rw [z, hk] at he; cases he)) hb
end PMS
-- counting, searching
def cnt (P : Nat → Bool) : Nat → Nat | 0 => 0 | k + 1 => cnt P k + (if P k = true then 1 else 0)
theorem cnt_le (P : Nat → Bool) : ∀ n, cnt P n ≤ n
  | 0 => Nat.le_refl _
  | k + 1 => by
    have := cnt_le P k
    unfold cnt
    split <;> omega
theorem cnt_congr {P Q : Nat → Bool} : ∀ n, (∀ k, k < n → P k = Q k) → cnt P n = cnt Q n
  | 0, _ => rfl
  | k + 1, h => by
    unfold cnt
    rw [cnt_congr k (fun j hj => h j (by omega)), h k (by omega)]
/-- the least place from i on, of r places, with P -/
def fnd (P : Nat → Bool) : Nat → Nat → Option Nat
  | _, 0 => none
  | i, r + 1 => if P i = true then some i else fnd P (i + 1) r
/-- the greatest place below n with P -/
def lstD (P : Nat → Bool) : Nat → Option Nat
  | 0 => none
  | k + 1 => if P k = true then some k else lstD P k
def oI (o : Option Nat) : Int32 := match o with
  | none => -1
  | some k => nI k
theorem z_ge {i n : Nat} (hi : i ≤ n) (hn : n < 2 ^ 31) (h : nI n ≤ nI i) : i = n := by
  have := (nI_leI hn (by omega)).mp h
  omega
theorem z_lt {i n : Nat} (hi : i ≤ n) (hn : n < 2 ^ 31) (h : ¬ nI n ≤ nI i) : i < n := by
  rcases Nat.lt_or_ge i n with q | q
  · exact q
  · exact absurd (nI_le q (by omega)) h
theorem cnt_t {P : Nat → Bool} {i : Nat} (h : P i = true) : nI (cnt P i) + 1 = nI (cnt P (i + 1)) := by
  show _ = nI (cnt P i + (if P i = true then 1 else 0))
  rw [if_pos h]
  exact nI_1 _
theorem cnt_f {P : Nat → Bool} {i : Nat} (h : P i = false) : nI (cnt P i) = nI (cnt P (i + 1)) := by
  show _ = nI (cnt P i + (if P i = true then 1 else 0))
  rw [if_neg (by rw [h]; decide)]
  rfl
theorem cnt_f0 {P : Nat → Bool} {i : Nat} (h : P i = false) : nI (cnt P i) + 0 = nI (cnt P (i + 1)) := by
  rw [← cnt_f h]
  exact nI_add _ 0
section ZT
variable {p : Program} {l : Launch} {e : Env} {R : Room} {s : State} {m : MethodId} {args : Array Value} {below : List Frame} {meth : Method} {c : Code} {H : Heap} {locs : List Loc} {cells slots : Nat} {Q : State → Prop} {pc : Nat} {ls : Array Slot} {rest : List Value}
theorem z_top {x y : Int32} (h : x = y) (k : W p l e R s m args below meth c H locs cells slots Q (F0 m pc ls (.int y :: rest))) : W p l e R s m args below meth c H locs cells slots Q (F0 m pc ls (.int x :: rest)) := by
  rw [h]
  exact k
end ZT
theorem z_idx (j c : Nat) : (6 : Int32) * nI j + nI c = nI (6 * j + c) := by
  rw [show (6 : Int32) = nI 6 by decide, pk_mul, nI_add]
theorem z_idx0 (j : Nat) : (6 : Int32) * nI j = nI (6 * j) := by
  rw [show (6 : Int32) = nI 6 by decide, pk_mul]
def qx (f : Nat → Nat → Int32) (t : Nat) : Nat := (f 1 t).toNatClampNeg
def gx (f : Nat → Nat → Int32) (t : Nat) : Nat := (f 3 t).toNatClampNeg
/-- the queue of each task is one of the four; its group none or one of the eight -/
def okq (f : Nat → Nat → Int32) (n : Nat) : Prop := ∀ t, t < n → f 1 t = nI (qx f t) ∧ qx f t < 4
def okg (f : Nat → Nat → Int32) (n : Nat) : Prop := ∀ t, t < n → f 3 t = -1 ∨ (f 3 t = nI (gx f t) ∧ gx f t < 8)
def pLive (f : Nat → Nat → Int32) (k : Nat) : Bool := sLive (f 6 k)
def pLent (f : Nat → Nat → Int32) (g : Int32) (k : Nat) : Bool := decide (f 6 k = 1) && decide (f 3 k = g)
def pTo (f : Nat → Nat → Int32) (w : Int32) (k : Nat) : Bool := decide (f 6 k = 1) && decide (f 8 k = w)
def pSt (f : Nat → Nat → Int32) (v : Int32) (k : Nat) : Bool := decide (f 6 k = v)
def pWq (f : Nat → Nat → Int32) (q : Int32) (k : Nat) : Bool := decide (f 6 k = 0) && decide (f 1 k = q)
def pTok (f : Nat → Nat → Int32) (v : Int32) (k : Nat) : Bool := decide (f 6 k = 1) && decide (f 9 k = v)
def wgt (f : Nat → Nat → Int32) (time : Int32) (t : Nat) : Int32 := sWeight (f 2 t) (f 10 (6 * qx f t + 4)) (f 7 t) time
def pHad (f : Nat → Nat → Int32) (time : Int32) (n t : Nat) : Bool := decide (f 6 t = 0) && decide (f 7 t ≤ time) && (decide (f 3 t = -1) || decide (nI (cnt (pLent f (f 3 t)) n) < f 11 (gx f t)))
set_option maxHeartbeats 4000000 in
set_option maxRecDepth 100000 in
theorem c_M_within (l : Launch) {D : va_G} {tys : List (ClassId × FieldType)} {ws : va_W} {H : Heap} (hP : va_P D vwCl ws H) (v lo hi : Int32) : Met l y_M_within (Cond.code y_M_within b_M_within 3 (some .boolean) :: TT) ({ frames := 1, cells := 0, slots := 0, locals := 60 }) (zPc [.int v, .int lo, .int hi] H D vwCl tys) (zQi (zb (sWithin v lo hi)) H) 0 0 (fun _ => False) := by
  refine z_body (by decide) (Nat.le_of_ble_eq_true rfl) ?_
  intro p e s m below meth c ls C0 hH hKN hl
  obtain ⟨hx, hb, hr, hts, hown, hlocks, hml⟩ := C0
  subst hH
  have hK := hKN.1
  have hN := hKN.2
  have hS : va_S (fun _ => False) s.heap s.heap [] := va_S.rf
  have hl : lv_has ls 3 [(0, .int v), (1, .int lo), (2, .int hi)] := hl
  refine lv_iload_n hx hb d_M_within_0 rfl (zl hl rfl) ?_
  refine lv_iload_n hx hb d_M_within_1 rfl (zl hl rfl) ?_
  refine lv_icmp_lt (tgt := 14) hx hb d_M_within_2 (by decide) (fun c_1 => ?_) (fun c_1 => ?_)
  · have b1 : ¬ lo ≤ v := zlt_nle c_1
    refine lv_iconst (v := 0) hx hb d_M_within_14 (by decide) ?_
    exact z_zret hx hb hr hlocks hS (by simp [sWithin, zb, *]) d_M_within_15
  · have b1 : lo ≤ v := znlt_le c_1
    refine lv_iload_n hx hb d_M_within_5 rfl (zl hl rfl) ?_
    refine lv_iload_n hx hb d_M_within_6 rfl (zl hl rfl) ?_
    refine lv_icmp_gt (tgt := 14) hx hb d_M_within_7 (by decide) (fun c_2 => ?_) (fun c_2 => ?_)
    · have b2 : ¬ v ≤ hi := zlt_nle c_2
      refine lv_iconst (v := 0) hx hb d_M_within_14 (by decide) ?_
      exact z_zret hx hb hr hlocks hS (by simp [sWithin, zb, *]) d_M_within_15
    · have b2 : v ≤ hi := znlt_le c_2
      refine lv_iconst (v := 1) hx hb d_M_within_10 (by decide) ?_
      refine lv_goto (tgt := 15) hx hb d_M_within_11 (by decide) ?_
      exact z_zret hx hb hr hlocks hS (by simp [sWithin, zb, *]) d_M_within_15
set_option maxHeartbeats 4000000 in
set_option maxRecDepth 100000 in
theorem c_M_isLive (l : Launch) {D : va_G} {ws : va_W} {H : Heap} (hP : va_P D vwCl ws H) {kk : Nat → ClassId} {ad : Nat → Nat} {thr time tok : Int32} {n : Nat} {f : Nat → Nat → Int32} {ky : Nat → Int64} (hM : PM kk ad thr time n tok f ky ws) (t : Nat) (ht : t < 400) : Met l y_M_isLive (Cond.code y_M_isLive b_M_isLive 2 (some .boolean) :: TT) ({ frames := 1, cells := 0, slots := 0, locals := 60 }) (zPc [.ref (ad 0), .int (nI t)] H D vwCl (TY kk)) (zQi (zb (sLive (f 6 t))) H) 0 0 (fun _ => False) := by
  refine z_body (by decide) (Nat.le_of_ble_eq_true rfl) ?_
  intro p e s m below meth c ls C0 hH hKN hl
  obtain ⟨hx, hb, hr, hts, hown, hlocks, hml⟩ := C0
  subst hH
  have hK := hKN.1
  have hN := hKN.2
  have hS : va_S (fun _ => False) s.heap s.heap [] := va_S.rf
  have hl : lv_has ls 2 [(0, .ref (ad 0)), (1, .int (nI t))] := hl
  refine lv_aload_n hx hb d_M_isLive_0 rfl (zl hl rfl) ?_
  refine z_get (C := R_M) (T := F_M) (N := 15) (v := .ref (ad 6)) hx hb hts inT_M hown hK hP (PM_o hM) rfl 9 (by decide) tw_582 (fun _ h => h) rfl d_M_isLive_1 ?_
  refine lv_iload_n hx hb d_M_isLive_4 rfl (zl hl rfl) ?_
  refine z_iald hx hb hK hP 0 (PM_6 hM) rfl t rfl (by omega) (by decide) d_M_isLive_5 ?_
  refine lv_if_eq (tgt := 19) hx hb d_M_isLive_6 (by decide) (fun c_1 => ?_) (fun c_1 => ?_)
  · refine lv_iconst (v := 1) hx hb d_M_isLive_19 (by decide) ?_
    refine lv_goto (tgt := 24) hx hb d_M_isLive_20 (by decide) ?_
    exact z_zret hx hb hr hlocks hS (by simp [sLive, zb, *]) d_M_isLive_24
  · refine lv_aload_n hx hb d_M_isLive_9 rfl (zl hl rfl) ?_
    refine z_get (C := R_M) (T := F_M) (N := 15) (v := .ref (ad 6)) hx hb hts inT_M hown hK hP (PM_o hM) rfl 9 (by decide) tw_582 (fun _ h => h) rfl d_M_isLive_10 ?_
    refine lv_iload_n hx hb d_M_isLive_13 rfl (zl hl rfl) ?_
    refine z_iald hx hb hK hP 0 (PM_6 hM) rfl t rfl (by omega) (by decide) d_M_isLive_14 ?_
    refine lv_iconst (v := 1) hx hb d_M_isLive_15 (by decide) ?_
    refine lv_icmp_ne (tgt := 23) hx hb d_M_isLive_16 (by decide) (fun c_2 => ?_) (fun c_2 => ?_)
    · refine lv_iconst (v := 0) hx hb d_M_isLive_23 (by decide) ?_
      exact z_zret hx hb hr hlocks hS (by simp [sLive, zb, *]) d_M_isLive_24
    · refine lv_iconst (v := 1) hx hb d_M_isLive_19 (by decide) ?_
      refine lv_goto (tgt := 24) hx hb d_M_isLive_20 (by decide) ?_
      exact z_zret hx hb hr hlocks hS (by simp [sLive, zb, *]) d_M_isLive_24
set_option maxHeartbeats 4000000 in
set_option maxRecDepth 100000 in
theorem c_M_lives (l : Launch) {D : va_G} {ws : va_W} {H : Heap} (hP : va_P D vwCl ws H) {kk : Nat → ClassId} {ad : Nat → Nat} {thr time tok : Int32} {n : Nat} {f : Nat → Nat → Int32} {ky : Nat → Int64} (hM : PM kk ad thr time n tok f ky ws)  (hn : n ≤ 400) : Met l y_M_lives (Cond.code y_M_lives b_M_lives 3 (some .int) :: TT) ({ frames := 2, cells := 0, slots := 0, locals := 120 }) (zPc [.ref (ad 0)] H D vwCl (TY kk)) (zQi (nI (cnt (pLive f) n)) H) 0 0 (fun _ => False) := by
  refine z_body (by decide) (Nat.le_of_ble_eq_true rfl) ?_
  intro p e s m below meth c ls C0 hH hKN hl
  obtain ⟨hx, hb, hr, hts, hown, hlocks, hml⟩ := C0
  subst hH
  have hK := hKN.1
  have hN := hKN.2
  have hS : va_S (fun _ => False) s.heap s.heap [] := va_S.rf
  have key : ∀ (r i : Nat) (ls : Array Slot) (locs : List Loc), i ≤ n → n + 1 ≤ i + r → lv_has ls 3 [(0, .ref (ad 0)), (1, .int (nI (cnt (pLive f) i))), (2, .int (nI i))] → va_S (fun _ => False) s.heap s.heap locs → W p l e ({ frames := 2, cells := 0, slots := 0, locals := 120 }) s m ([.ref (ad 0)] : List Value).toArray below meth c s.heap locs 0 0 (MQ below (zQi (nI (cnt (pLive f) n)) s.heap) ([.ref (ad 0)] : List Value).toArray s 0 0 (fun _ => False)) (F0 m 4 ls []) := by
    intro r
    induction r with
    | zero => intro i ls locs h1 h2; omega
    | succ r ih =>
      intro i ls locs hi hir hl hS
      refine lv_iload_n hx hb d_M_lives_4 rfl (zl hl rfl) ?_
      refine lv_aload_n hx hb d_M_lives_5 rfl (zl hl rfl) ?_
      refine z_get (C := R_M) (T := F_M) (N := 15) (v := .int (nI n)) hx hb hts inT_M hown hK hP (PM_o hM) rfl 2 (by decide) tw_575 (fun _ h => h) rfl d_M_lives_6 ?_
      refine lv_icmp_ge (tgt := 34) hx hb d_M_lives_9 (by decide) (fun c_1 => ?_) (fun c_1 => ?_)
      · have hin := z_ge hi (by omega) c_1
        refine lv_iload_n hx hb d_M_lives_34 rfl (zl hl rfl) ?_
        exact z_iret hx hb hr hlocks hS (by rw [hin]) d_M_lives_35
      · have hlt := z_lt hi (by omega) c_1
        refine lv_iload_n hx hb d_M_lives_12 rfl (zl hl rfl) ?_
        refine lv_aload_n hx hb d_M_lives_13 rfl (zl hl rfl) ?_
        refine lv_iload_n hx hb d_M_lives_14 rfl (zl hl rfl) ?_
        refine z_calli (va_runV (As := [.int (nI i)]) (rest := [.int (nI (cnt (pLive f) i))]) ⟨hx, hb, hml, hown, hts⟩ (c_M_isLive l hP hM i (by omega)) (cwV 1 hts (tt_V tw_643 tw_640 tw_642 tw_17 tw_36) rfl rfl rfl (by decide +kernel) ⟨Nat.le_of_ble_eq_true rfl, Nat.le_of_ble_eq_true rfl⟩) (zPc_V hKN hP (ci := 4) (q := (R_M, F_M, 15)) rfl (PM_o hM)) rfl rfl hl.1 rfl (lv_room (Nat.le_of_ble_eq_true rfl)) d_M_lives_15 ⟨Nat.zero_le _, Nat.zero_le _⟩) hS (fun locs hS => ?_)
        refine lv_if_eq (tgt := 25) hx hb d_M_lives_18 (by decide) (fun c_2 => ?_) (fun c_2 => ?_)
        · have b1 := zb_f c_2
          refine lv_iconst (v := 0) hx hb d_M_lives_25 (by decide) ?_
          refine lv_iadd hx hb d_M_lives_26 ?_
          refine lv_istore_n (lv' := [(1, .int ((nI (cnt (pLive f) i)) + 0)), (0, .ref (ad 0)), (2, .int (nI i))]) hx hb d_M_lives_27 rfl hl (by decide) rfl (fun ls hl => ?_)
          refine lv_iinc (v := (nI (i + 1))) (lv' := [(2, .int (nI (i + 1))), (1, .int ((nI (cnt (pLive f) i)) + 0)), (0, .ref (ad 0))]) hx hb d_M_lives_28 hl (k := 2) rfl (nI_1 i) (by decide) rfl (fun ls hl => ?_)
          refine lv_goto (tgt := 4) hx hb d_M_lives_31 (by decide) ?_
          rw [show (nI (cnt (pLive f) i)) + 0 = nI (cnt (pLive f) (i + 1)) from cnt_f0 (by simp [pLive, *])] at hl
          exact ih (i + 1) ls locs (by omega) (by omega) (lv_sub hl [2, 1, 0] rfl) hS
        · have b1 := zb_t c_2
          refine lv_iconst (v := 1) hx hb d_M_lives_21 (by decide) ?_
          refine lv_goto (tgt := 26) hx hb d_M_lives_22 (by decide) ?_
          refine lv_iadd hx hb d_M_lives_26 ?_
          refine lv_istore_n (lv' := [(1, .int ((nI (cnt (pLive f) i)) + 1)), (0, .ref (ad 0)), (2, .int (nI i))]) hx hb d_M_lives_27 rfl hl (by decide) rfl (fun ls hl => ?_)
          refine lv_iinc (v := (nI (i + 1))) (lv' := [(2, .int (nI (i + 1))), (1, .int ((nI (cnt (pLive f) i)) + 1)), (0, .ref (ad 0))]) hx hb d_M_lives_28 hl (k := 2) rfl (nI_1 i) (by decide) rfl (fun ls hl => ?_)
          refine lv_goto (tgt := 4) hx hb d_M_lives_31 (by decide) ?_
          rw [show (nI (cnt (pLive f) i)) + 1 = nI (cnt (pLive f) (i + 1)) from cnt_t (by simp [pLive, *])] at hl
          exact ih (i + 1) ls locs (by omega) (by omega) (lv_sub hl [2, 1, 0] rfl) hS
  have hl : lv_has ls 3 [(0, .ref (ad 0))] := hl
  refine lv_iconst (v := 0) hx hb d_M_lives_0 (by decide) ?_
  refine lv_istore_n (lv' := [(1, .int 0), (0, .ref (ad 0))]) hx hb d_M_lives_1 rfl hl (by decide) rfl (fun ls hl => ?_)
  refine lv_iconst (v := 0) hx hb d_M_lives_2 (by decide) ?_
  refine lv_istore_n (lv' := [(2, .int 0), (1, .int 0), (0, .ref (ad 0))]) hx hb d_M_lives_3 rfl hl (by decide) rfl (fun ls hl => ?_)
  exact key (n + 1) 0 ls [] (Nat.zero_le _) (by omega) (lv_sub hl [2, 1, 0] rfl) hS
set_option maxHeartbeats 4000000 in
set_option maxRecDepth 100000 in
theorem c_M_lentOf (l : Launch) {D : va_G} {ws : va_W} {H : Heap} (hP : va_P D vwCl ws H) {kk : Nat → ClassId} {ad : Nat → Nat} {thr time tok : Int32} {n : Nat} {f : Nat → Nat → Int32} {ky : Nat → Int64} (hM : PM kk ad thr time n tok f ky ws) (g : Int32) (hn : n ≤ 400) : Met l y_M_lentOf (Cond.code y_M_lentOf b_M_lentOf 4 (some .int) :: TT) ({ frames := 1, cells := 0, slots := 0, locals := 60 }) (zPc [.ref (ad 0), .int g] H D vwCl (TY kk)) (zQi (nI (cnt (pLent f g) n)) H) 0 0 (fun _ => False) := by
  refine z_body (by decide) (Nat.le_of_ble_eq_true rfl) ?_
  intro p e s m below meth c ls C0 hH hKN hl
  obtain ⟨hx, hb, hr, hts, hown, hlocks, hml⟩ := C0
  subst hH
  have hK := hKN.1
  have hN := hKN.2
  have hS : va_S (fun _ => False) s.heap s.heap [] := va_S.rf
  have key : ∀ (r i : Nat) (ls : Array Slot) (locs : List Loc), i ≤ n → n + 1 ≤ i + r → lv_has ls 4 [(0, .ref (ad 0)), (1, .int g), (2, .int (nI (cnt (pLent f g) i))), (3, .int (nI i))] → va_S (fun _ => False) s.heap s.heap locs → W p l e ({ frames := 1, cells := 0, slots := 0, locals := 60 }) s m ([.ref (ad 0), .int g] : List Value).toArray below meth c s.heap locs 0 0 (MQ below (zQi (nI (cnt (pLent f g) n)) s.heap) ([.ref (ad 0), .int g] : List Value).toArray s 0 0 (fun _ => False)) (F0 m 4 ls []) := by
    intro r
    induction r with
    | zero => intro i ls locs h1 h2; omega
    | succ r ih =>
      intro i ls locs hi hir hl hS
      refine lv_iload_n hx hb d_M_lentOf_4 rfl (zl hl rfl) ?_
      refine lv_aload_n hx hb d_M_lentOf_5 rfl (zl hl rfl) ?_
      refine z_get (C := R_M) (T := F_M) (N := 15) (v := .int (nI n)) hx hb hts inT_M hown hK hP (PM_o hM) rfl 2 (by decide) tw_575 (fun _ h => h) rfl d_M_lentOf_6 ?_
      refine lv_icmp_ge (tgt := 46) hx hb d_M_lentOf_9 (by decide) (fun c_1 => ?_) (fun c_1 => ?_)
      · have hin := z_ge hi (by omega) c_1
        refine lv_iload_n hx hb d_M_lentOf_46 rfl (zl hl rfl) ?_
        exact z_iret hx hb hr hlocks hS (by rw [hin]) d_M_lentOf_47
      · have hlt := z_lt hi (by omega) c_1
        refine lv_iload_n hx hb d_M_lentOf_12 rfl (zl hl rfl) ?_
        refine lv_aload_n hx hb d_M_lentOf_13 rfl (zl hl rfl) ?_
        refine z_get (C := R_M) (T := F_M) (N := 15) (v := .ref (ad 6)) hx hb hts inT_M hown hK hP (PM_o hM) rfl 9 (by decide) tw_582 (fun _ h => h) rfl d_M_lentOf_14 ?_
        refine lv_iload_n hx hb d_M_lentOf_17 rfl (zl hl rfl) ?_
        refine z_iald hx hb hK hP 0 (PM_6 hM) rfl i rfl (by omega) (by decide) d_M_lentOf_18 ?_
        refine lv_iconst (v := 1) hx hb d_M_lentOf_19 (by decide) ?_
        refine lv_icmp_ne (tgt := 37) hx hb d_M_lentOf_20 (by decide) (fun c_2 => ?_) (fun c_2 => ?_)
        · refine lv_iconst (v := 0) hx hb d_M_lentOf_37 (by decide) ?_
          refine lv_iadd hx hb d_M_lentOf_38 ?_
          refine lv_istore_n (lv' := [(2, .int ((nI (cnt (pLent f g) i)) + 0)), (0, .ref (ad 0)), (1, .int g), (3, .int (nI i))]) hx hb d_M_lentOf_39 rfl hl (by decide) rfl (fun ls hl => ?_)
          refine lv_iinc (v := (nI (i + 1))) (lv' := [(3, .int (nI (i + 1))), (2, .int ((nI (cnt (pLent f g) i)) + 0)), (0, .ref (ad 0)), (1, .int g)]) hx hb d_M_lentOf_40 hl (k := 3) rfl (nI_1 i) (by decide) rfl (fun ls hl => ?_)
          refine lv_goto (tgt := 4) hx hb d_M_lentOf_43 (by decide) ?_
          rw [show (nI (cnt (pLent f g) i)) + 0 = nI (cnt (pLent f g) (i + 1)) from cnt_f0 (by simp [pLent, *])] at hl
          exact ih (i + 1) ls locs (by omega) (by omega) (lv_sub hl [2, 3, 1, 0] rfl) hS
        · refine lv_aload_n hx hb d_M_lentOf_23 rfl (zl hl rfl) ?_
          refine z_get (C := R_M) (T := F_M) (N := 15) (v := .ref (ad 3)) hx hb hts inT_M hown hK hP (PM_o hM) rfl 6 (by decide) tw_579 (fun _ h => h) rfl d_M_lentOf_24 ?_
          refine lv_iload_n hx hb d_M_lentOf_27 rfl (zl hl rfl) ?_
          refine z_iald hx hb hK hP 0 (PM_3 hM) rfl i rfl (by omega) (by decide) d_M_lentOf_28 ?_
          refine lv_iload_n hx hb d_M_lentOf_29 rfl (zl hl rfl) ?_
          refine lv_icmp_ne (tgt := 37) hx hb d_M_lentOf_30 (by decide) (fun c_3 => ?_) (fun c_3 => ?_)
          · refine lv_iconst (v := 0) hx hb d_M_lentOf_37 (by decide) ?_
            refine lv_iadd hx hb d_M_lentOf_38 ?_
            refine lv_istore_n (lv' := [(2, .int ((nI (cnt (pLent f g) i)) + 0)), (0, .ref (ad 0)), (1, .int g), (3, .int (nI i))]) hx hb d_M_lentOf_39 rfl hl (by decide) rfl (fun ls hl => ?_)
            refine lv_iinc (v := (nI (i + 1))) (lv' := [(3, .int (nI (i + 1))), (2, .int ((nI (cnt (pLent f g) i)) + 0)), (0, .ref (ad 0)), (1, .int g)]) hx hb d_M_lentOf_40 hl (k := 3) rfl (nI_1 i) (by decide) rfl (fun ls hl => ?_)
            refine lv_goto (tgt := 4) hx hb d_M_lentOf_43 (by decide) ?_
            rw [show (nI (cnt (pLent f g) i)) + 0 = nI (cnt (pLent f g) (i + 1)) from cnt_f0 (by simp [pLent, *])] at hl
            exact ih (i + 1) ls locs (by omega) (by omega) (lv_sub hl [2, 3, 1, 0] rfl) hS
          · refine lv_iconst (v := 1) hx hb d_M_lentOf_33 (by decide) ?_
            refine lv_goto (tgt := 38) hx hb d_M_lentOf_34 (by decide) ?_
            refine lv_iadd hx hb d_M_lentOf_38 ?_
            refine lv_istore_n (lv' := [(2, .int ((nI (cnt (pLent f g) i)) + 1)), (0, .ref (ad 0)), (1, .int g), (3, .int (nI i))]) hx hb d_M_lentOf_39 rfl hl (by decide) rfl (fun ls hl => ?_)
            refine lv_iinc (v := (nI (i + 1))) (lv' := [(3, .int (nI (i + 1))), (2, .int ((nI (cnt (pLent f g) i)) + 1)), (0, .ref (ad 0)), (1, .int g)]) hx hb d_M_lentOf_40 hl (k := 3) rfl (nI_1 i) (by decide) rfl (fun ls hl => ?_)
            refine lv_goto (tgt := 4) hx hb d_M_lentOf_43 (by decide) ?_
            rw [show (nI (cnt (pLent f g) i)) + 1 = nI (cnt (pLent f g) (i + 1)) from cnt_t (by simp [pLent, *])] at hl
            exact ih (i + 1) ls locs (by omega) (by omega) (lv_sub hl [2, 3, 1, 0] rfl) hS
  have hl : lv_has ls 4 [(0, .ref (ad 0)), (1, .int g)] := hl
  refine lv_iconst (v := 0) hx hb d_M_lentOf_0 (by decide) ?_
  refine lv_istore_n (lv' := [(2, .int 0), (0, .ref (ad 0)), (1, .int g)]) hx hb d_M_lentOf_1 rfl hl (by decide) rfl (fun ls hl => ?_)
  refine lv_iconst (v := 0) hx hb d_M_lentOf_2 (by decide) ?_
  refine lv_istore_n (lv' := [(3, .int 0), (2, .int 0), (0, .ref (ad 0)), (1, .int g)]) hx hb d_M_lentOf_3 rfl hl (by decide) rfl (fun ls hl => ?_)
  exact key (n + 1) 0 ls [] (Nat.zero_le _) (by omega) (lv_sub hl [2, 3, 1, 0] rfl) hS
set_option maxHeartbeats 4000000 in
set_option maxRecDepth 100000 in
theorem c_M_lentTo (l : Launch) {D : va_G} {ws : va_W} {H : Heap} (hP : va_P D vwCl ws H) {kk : Nat → ClassId} {ad : Nat → Nat} {thr time tok : Int32} {n : Nat} {f : Nat → Nat → Int32} {ky : Nat → Int64} (hM : PM kk ad thr time n tok f ky ws) (v : Int32) (hn : n ≤ 400) : Met l y_M_lentTo (Cond.code y_M_lentTo b_M_lentTo 4 (some .int) :: TT) ({ frames := 1, cells := 0, slots := 0, locals := 60 }) (zPc [.ref (ad 0), .int v] H D vwCl (TY kk)) (zQi (nI (cnt (pTo f v) n)) H) 0 0 (fun _ => False) := by
  refine z_body (by decide) (Nat.le_of_ble_eq_true rfl) ?_
  intro p e s m below meth c ls C0 hH hKN hl
  obtain ⟨hx, hb, hr, hts, hown, hlocks, hml⟩ := C0
  subst hH
  have hK := hKN.1
  have hN := hKN.2
  have hS : va_S (fun _ => False) s.heap s.heap [] := va_S.rf
  have key : ∀ (r i : Nat) (ls : Array Slot) (locs : List Loc), i ≤ n → n + 1 ≤ i + r → lv_has ls 4 [(0, .ref (ad 0)), (1, .int v), (2, .int (nI (cnt (pTo f v) i))), (3, .int (nI i))] → va_S (fun _ => False) s.heap s.heap locs → W p l e ({ frames := 1, cells := 0, slots := 0, locals := 60 }) s m ([.ref (ad 0), .int v] : List Value).toArray below meth c s.heap locs 0 0 (MQ below (zQi (nI (cnt (pTo f v) n)) s.heap) ([.ref (ad 0), .int v] : List Value).toArray s 0 0 (fun _ => False)) (F0 m 4 ls []) := by
    intro r
    induction r with
    | zero => intro i ls locs h1 h2; omega
    | succ r ih =>
      intro i ls locs hi hir hl hS
      refine lv_iload_n hx hb d_M_lentTo_4 rfl (zl hl rfl) ?_
      refine lv_aload_n hx hb d_M_lentTo_5 rfl (zl hl rfl) ?_
      refine z_get (C := R_M) (T := F_M) (N := 15) (v := .int (nI n)) hx hb hts inT_M hown hK hP (PM_o hM) rfl 2 (by decide) tw_575 (fun _ h => h) rfl d_M_lentTo_6 ?_
      refine lv_icmp_ge (tgt := 46) hx hb d_M_lentTo_9 (by decide) (fun c_1 => ?_) (fun c_1 => ?_)
      · have hin := z_ge hi (by omega) c_1
        refine lv_iload_n hx hb d_M_lentTo_46 rfl (zl hl rfl) ?_
        exact z_iret hx hb hr hlocks hS (by rw [hin]) d_M_lentTo_47
      · have hlt := z_lt hi (by omega) c_1
        refine lv_iload_n hx hb d_M_lentTo_12 rfl (zl hl rfl) ?_
        refine lv_aload_n hx hb d_M_lentTo_13 rfl (zl hl rfl) ?_
        refine z_get (C := R_M) (T := F_M) (N := 15) (v := .ref (ad 6)) hx hb hts inT_M hown hK hP (PM_o hM) rfl 9 (by decide) tw_582 (fun _ h => h) rfl d_M_lentTo_14 ?_
        refine lv_iload_n hx hb d_M_lentTo_17 rfl (zl hl rfl) ?_
        refine z_iald hx hb hK hP 0 (PM_6 hM) rfl i rfl (by omega) (by decide) d_M_lentTo_18 ?_
        refine lv_iconst (v := 1) hx hb d_M_lentTo_19 (by decide) ?_
        refine lv_icmp_ne (tgt := 37) hx hb d_M_lentTo_20 (by decide) (fun c_2 => ?_) (fun c_2 => ?_)
        · refine lv_iconst (v := 0) hx hb d_M_lentTo_37 (by decide) ?_
          refine lv_iadd hx hb d_M_lentTo_38 ?_
          refine lv_istore_n (lv' := [(2, .int ((nI (cnt (pTo f v) i)) + 0)), (0, .ref (ad 0)), (1, .int v), (3, .int (nI i))]) hx hb d_M_lentTo_39 rfl hl (by decide) rfl (fun ls hl => ?_)
          refine lv_iinc (v := (nI (i + 1))) (lv' := [(3, .int (nI (i + 1))), (2, .int ((nI (cnt (pTo f v) i)) + 0)), (0, .ref (ad 0)), (1, .int v)]) hx hb d_M_lentTo_40 hl (k := 3) rfl (nI_1 i) (by decide) rfl (fun ls hl => ?_)
          refine lv_goto (tgt := 4) hx hb d_M_lentTo_43 (by decide) ?_
          rw [show (nI (cnt (pTo f v) i)) + 0 = nI (cnt (pTo f v) (i + 1)) from cnt_f0 (by simp [pTo, *])] at hl
          exact ih (i + 1) ls locs (by omega) (by omega) (lv_sub hl [2, 3, 1, 0] rfl) hS
        · refine lv_aload_n hx hb d_M_lentTo_23 rfl (zl hl rfl) ?_
          refine z_get (C := R_M) (T := F_M) (N := 15) (v := .ref (ad 8)) hx hb hts inT_M hown hK hP (PM_o hM) rfl 11 (by decide) tw_584 (fun _ h => h) rfl d_M_lentTo_24 ?_
          refine lv_iload_n hx hb d_M_lentTo_27 rfl (zl hl rfl) ?_
          refine z_iald hx hb hK hP 0 (PM_8 hM) rfl i rfl (by omega) (by decide) d_M_lentTo_28 ?_
          refine lv_iload_n hx hb d_M_lentTo_29 rfl (zl hl rfl) ?_
          refine lv_icmp_ne (tgt := 37) hx hb d_M_lentTo_30 (by decide) (fun c_3 => ?_) (fun c_3 => ?_)
          · refine lv_iconst (v := 0) hx hb d_M_lentTo_37 (by decide) ?_
            refine lv_iadd hx hb d_M_lentTo_38 ?_
            refine lv_istore_n (lv' := [(2, .int ((nI (cnt (pTo f v) i)) + 0)), (0, .ref (ad 0)), (1, .int v), (3, .int (nI i))]) hx hb d_M_lentTo_39 rfl hl (by decide) rfl (fun ls hl => ?_)
            refine lv_iinc (v := (nI (i + 1))) (lv' := [(3, .int (nI (i + 1))), (2, .int ((nI (cnt (pTo f v) i)) + 0)), (0, .ref (ad 0)), (1, .int v)]) hx hb d_M_lentTo_40 hl (k := 3) rfl (nI_1 i) (by decide) rfl (fun ls hl => ?_)
            refine lv_goto (tgt := 4) hx hb d_M_lentTo_43 (by decide) ?_
            rw [show (nI (cnt (pTo f v) i)) + 0 = nI (cnt (pTo f v) (i + 1)) from cnt_f0 (by simp [pTo, *])] at hl
            exact ih (i + 1) ls locs (by omega) (by omega) (lv_sub hl [2, 3, 1, 0] rfl) hS
          · refine lv_iconst (v := 1) hx hb d_M_lentTo_33 (by decide) ?_
            refine lv_goto (tgt := 38) hx hb d_M_lentTo_34 (by decide) ?_
            refine lv_iadd hx hb d_M_lentTo_38 ?_
            refine lv_istore_n (lv' := [(2, .int ((nI (cnt (pTo f v) i)) + 1)), (0, .ref (ad 0)), (1, .int v), (3, .int (nI i))]) hx hb d_M_lentTo_39 rfl hl (by decide) rfl (fun ls hl => ?_)
            refine lv_iinc (v := (nI (i + 1))) (lv' := [(3, .int (nI (i + 1))), (2, .int ((nI (cnt (pTo f v) i)) + 1)), (0, .ref (ad 0)), (1, .int v)]) hx hb d_M_lentTo_40 hl (k := 3) rfl (nI_1 i) (by decide) rfl (fun ls hl => ?_)
            refine lv_goto (tgt := 4) hx hb d_M_lentTo_43 (by decide) ?_
            rw [show (nI (cnt (pTo f v) i)) + 1 = nI (cnt (pTo f v) (i + 1)) from cnt_t (by simp [pTo, *])] at hl
            exact ih (i + 1) ls locs (by omega) (by omega) (lv_sub hl [2, 3, 1, 0] rfl) hS
  have hl : lv_has ls 4 [(0, .ref (ad 0)), (1, .int v)] := hl
  refine lv_iconst (v := 0) hx hb d_M_lentTo_0 (by decide) ?_
  refine lv_istore_n (lv' := [(2, .int 0), (0, .ref (ad 0)), (1, .int v)]) hx hb d_M_lentTo_1 rfl hl (by decide) rfl (fun ls hl => ?_)
  refine lv_iconst (v := 0) hx hb d_M_lentTo_2 (by decide) ?_
  refine lv_istore_n (lv' := [(3, .int 0), (2, .int 0), (0, .ref (ad 0)), (1, .int v)]) hx hb d_M_lentTo_3 rfl hl (by decide) rfl (fun ls hl => ?_)
  exact key (n + 1) 0 ls [] (Nat.zero_le _) (by omega) (lv_sub hl [2, 3, 1, 0] rfl) hS
set_option maxHeartbeats 4000000 in
set_option maxRecDepth 100000 in
theorem c_M_inState (l : Launch) {D : va_G} {ws : va_W} {H : Heap} (hP : va_P D vwCl ws H) {kk : Nat → ClassId} {ad : Nat → Nat} {thr time tok : Int32} {n : Nat} {f : Nat → Nat → Int32} {ky : Nat → Int64} (hM : PM kk ad thr time n tok f ky ws) (v : Int32) (hn : n ≤ 400) : Met l y_M_inState (Cond.code y_M_inState b_M_inState 4 (some .int) :: TT) ({ frames := 1, cells := 0, slots := 0, locals := 60 }) (zPc [.ref (ad 0), .int v] H D vwCl (TY kk)) (zQi (nI (cnt (pSt f v) n)) H) 0 0 (fun _ => False) := by
  refine z_body (by decide) (Nat.le_of_ble_eq_true rfl) ?_
  intro p e s m below meth c ls C0 hH hKN hl
  obtain ⟨hx, hb, hr, hts, hown, hlocks, hml⟩ := C0
  subst hH
  have hK := hKN.1
  have hN := hKN.2
  have hS : va_S (fun _ => False) s.heap s.heap [] := va_S.rf
  have key : ∀ (r i : Nat) (ls : Array Slot) (locs : List Loc), i ≤ n → n + 1 ≤ i + r → lv_has ls 4 [(0, .ref (ad 0)), (1, .int v), (2, .int (nI (cnt (pSt f v) i))), (3, .int (nI i))] → va_S (fun _ => False) s.heap s.heap locs → W p l e ({ frames := 1, cells := 0, slots := 0, locals := 60 }) s m ([.ref (ad 0), .int v] : List Value).toArray below meth c s.heap locs 0 0 (MQ below (zQi (nI (cnt (pSt f v) n)) s.heap) ([.ref (ad 0), .int v] : List Value).toArray s 0 0 (fun _ => False)) (F0 m 4 ls []) := by
    intro r
    induction r with
    | zero => intro i ls locs h1 h2; omega
    | succ r ih =>
      intro i ls locs hi hir hl hS
      refine lv_iload_n hx hb d_M_inState_4 rfl (zl hl rfl) ?_
      refine lv_aload_n hx hb d_M_inState_5 rfl (zl hl rfl) ?_
      refine z_get (C := R_M) (T := F_M) (N := 15) (v := .int (nI n)) hx hb hts inT_M hown hK hP (PM_o hM) rfl 2 (by decide) tw_575 (fun _ h => h) rfl d_M_inState_6 ?_
      refine lv_icmp_ge (tgt := 36) hx hb d_M_inState_9 (by decide) (fun c_1 => ?_) (fun c_1 => ?_)
      · have hin := z_ge hi (by omega) c_1
        refine lv_iload_n hx hb d_M_inState_36 rfl (zl hl rfl) ?_
        exact z_iret hx hb hr hlocks hS (by rw [hin]) d_M_inState_37
      · have hlt := z_lt hi (by omega) c_1
        refine lv_iload_n hx hb d_M_inState_12 rfl (zl hl rfl) ?_
        refine lv_aload_n hx hb d_M_inState_13 rfl (zl hl rfl) ?_
        refine z_get (C := R_M) (T := F_M) (N := 15) (v := .ref (ad 6)) hx hb hts inT_M hown hK hP (PM_o hM) rfl 9 (by decide) tw_582 (fun _ h => h) rfl d_M_inState_14 ?_
        refine lv_iload_n hx hb d_M_inState_17 rfl (zl hl rfl) ?_
        refine z_iald hx hb hK hP 0 (PM_6 hM) rfl i rfl (by omega) (by decide) d_M_inState_18 ?_
        refine lv_iload_n hx hb d_M_inState_19 rfl (zl hl rfl) ?_
        refine lv_icmp_ne (tgt := 27) hx hb d_M_inState_20 (by decide) (fun c_2 => ?_) (fun c_2 => ?_)
        · refine lv_iconst (v := 0) hx hb d_M_inState_27 (by decide) ?_
          refine lv_iadd hx hb d_M_inState_28 ?_
          refine lv_istore_n (lv' := [(2, .int ((nI (cnt (pSt f v) i)) + 0)), (0, .ref (ad 0)), (1, .int v), (3, .int (nI i))]) hx hb d_M_inState_29 rfl hl (by decide) rfl (fun ls hl => ?_)
          refine lv_iinc (v := (nI (i + 1))) (lv' := [(3, .int (nI (i + 1))), (2, .int ((nI (cnt (pSt f v) i)) + 0)), (0, .ref (ad 0)), (1, .int v)]) hx hb d_M_inState_30 hl (k := 3) rfl (nI_1 i) (by decide) rfl (fun ls hl => ?_)
          refine lv_goto (tgt := 4) hx hb d_M_inState_33 (by decide) ?_
          rw [show (nI (cnt (pSt f v) i)) + 0 = nI (cnt (pSt f v) (i + 1)) from cnt_f0 (by simp [pSt, *])] at hl
          exact ih (i + 1) ls locs (by omega) (by omega) (lv_sub hl [2, 3, 1, 0] rfl) hS
        · refine lv_iconst (v := 1) hx hb d_M_inState_23 (by decide) ?_
          refine lv_goto (tgt := 28) hx hb d_M_inState_24 (by decide) ?_
          refine lv_iadd hx hb d_M_inState_28 ?_
          refine lv_istore_n (lv' := [(2, .int ((nI (cnt (pSt f v) i)) + 1)), (0, .ref (ad 0)), (1, .int v), (3, .int (nI i))]) hx hb d_M_inState_29 rfl hl (by decide) rfl (fun ls hl => ?_)
          refine lv_iinc (v := (nI (i + 1))) (lv' := [(3, .int (nI (i + 1))), (2, .int ((nI (cnt (pSt f v) i)) + 1)), (0, .ref (ad 0)), (1, .int v)]) hx hb d_M_inState_30 hl (k := 3) rfl (nI_1 i) (by decide) rfl (fun ls hl => ?_)
          refine lv_goto (tgt := 4) hx hb d_M_inState_33 (by decide) ?_
          rw [show (nI (cnt (pSt f v) i)) + 1 = nI (cnt (pSt f v) (i + 1)) from cnt_t (by simp [pSt, *])] at hl
          exact ih (i + 1) ls locs (by omega) (by omega) (lv_sub hl [2, 3, 1, 0] rfl) hS
  have hl : lv_has ls 4 [(0, .ref (ad 0)), (1, .int v)] := hl
  refine lv_iconst (v := 0) hx hb d_M_inState_0 (by decide) ?_
  refine lv_istore_n (lv' := [(2, .int 0), (0, .ref (ad 0)), (1, .int v)]) hx hb d_M_inState_1 rfl hl (by decide) rfl (fun ls hl => ?_)
  refine lv_iconst (v := 0) hx hb d_M_inState_2 (by decide) ?_
  refine lv_istore_n (lv' := [(3, .int 0), (2, .int 0), (0, .ref (ad 0)), (1, .int v)]) hx hb d_M_inState_3 rfl hl (by decide) rfl (fun ls hl => ?_)
  exact key (n + 1) 0 ls [] (Nat.zero_le _) (by omega) (lv_sub hl [2, 3, 1, 0] rfl) hS
set_option maxHeartbeats 4000000 in
set_option maxRecDepth 100000 in
theorem c_M_waitingIn (l : Launch) {D : va_G} {ws : va_W} {H : Heap} (hP : va_P D vwCl ws H) {kk : Nat → ClassId} {ad : Nat → Nat} {thr time tok : Int32} {n : Nat} {f : Nat → Nat → Int32} {ky : Nat → Int64} (hM : PM kk ad thr time n tok f ky ws) (v : Int32) (hn : n ≤ 400) : Met l y_M_waitingIn (Cond.code y_M_waitingIn b_M_waitingIn 4 (some .int) :: TT) ({ frames := 1, cells := 0, slots := 0, locals := 60 }) (zPc [.ref (ad 0), .int v] H D vwCl (TY kk)) (zQi (nI (cnt (pWq f v) n)) H) 0 0 (fun _ => False) := by
  refine z_body (by decide) (Nat.le_of_ble_eq_true rfl) ?_
  intro p e s m below meth c ls C0 hH hKN hl
  obtain ⟨hx, hb, hr, hts, hown, hlocks, hml⟩ := C0
  subst hH
  have hK := hKN.1
  have hN := hKN.2
  have hS : va_S (fun _ => False) s.heap s.heap [] := va_S.rf
  have key : ∀ (r i : Nat) (ls : Array Slot) (locs : List Loc), i ≤ n → n + 1 ≤ i + r → lv_has ls 4 [(0, .ref (ad 0)), (1, .int v), (2, .int (nI (cnt (pWq f v) i))), (3, .int (nI i))] → va_S (fun _ => False) s.heap s.heap locs → W p l e ({ frames := 1, cells := 0, slots := 0, locals := 60 }) s m ([.ref (ad 0), .int v] : List Value).toArray below meth c s.heap locs 0 0 (MQ below (zQi (nI (cnt (pWq f v) n)) s.heap) ([.ref (ad 0), .int v] : List Value).toArray s 0 0 (fun _ => False)) (F0 m 4 ls []) := by
    intro r
    induction r with
    | zero => intro i ls locs h1 h2; omega
    | succ r ih =>
      intro i ls locs hi hir hl hS
      refine lv_iload_n hx hb d_M_waitingIn_4 rfl (zl hl rfl) ?_
      refine lv_aload_n hx hb d_M_waitingIn_5 rfl (zl hl rfl) ?_
      refine z_get (C := R_M) (T := F_M) (N := 15) (v := .int (nI n)) hx hb hts inT_M hown hK hP (PM_o hM) rfl 2 (by decide) tw_575 (fun _ h => h) rfl d_M_waitingIn_6 ?_
      refine lv_icmp_ge (tgt := 45) hx hb d_M_waitingIn_9 (by decide) (fun c_1 => ?_) (fun c_1 => ?_)
      · have hin := z_ge hi (by omega) c_1
        refine lv_iload_n hx hb d_M_waitingIn_45 rfl (zl hl rfl) ?_
        exact z_iret hx hb hr hlocks hS (by rw [hin]) d_M_waitingIn_46
      · have hlt := z_lt hi (by omega) c_1
        refine lv_iload_n hx hb d_M_waitingIn_12 rfl (zl hl rfl) ?_
        refine lv_aload_n hx hb d_M_waitingIn_13 rfl (zl hl rfl) ?_
        refine z_get (C := R_M) (T := F_M) (N := 15) (v := .ref (ad 6)) hx hb hts inT_M hown hK hP (PM_o hM) rfl 9 (by decide) tw_582 (fun _ h => h) rfl d_M_waitingIn_14 ?_
        refine lv_iload_n hx hb d_M_waitingIn_17 rfl (zl hl rfl) ?_
        refine z_iald hx hb hK hP 0 (PM_6 hM) rfl i rfl (by omega) (by decide) d_M_waitingIn_18 ?_
        refine lv_if_ne (tgt := 36) hx hb d_M_waitingIn_19 (by decide) (fun c_2 => ?_) (fun c_2 => ?_)
        · refine lv_iconst (v := 0) hx hb d_M_waitingIn_36 (by decide) ?_
          refine lv_iadd hx hb d_M_waitingIn_37 ?_
          refine lv_istore_n (lv' := [(2, .int ((nI (cnt (pWq f v) i)) + 0)), (0, .ref (ad 0)), (1, .int v), (3, .int (nI i))]) hx hb d_M_waitingIn_38 rfl hl (by decide) rfl (fun ls hl => ?_)
          refine lv_iinc (v := (nI (i + 1))) (lv' := [(3, .int (nI (i + 1))), (2, .int ((nI (cnt (pWq f v) i)) + 0)), (0, .ref (ad 0)), (1, .int v)]) hx hb d_M_waitingIn_39 hl (k := 3) rfl (nI_1 i) (by decide) rfl (fun ls hl => ?_)
          refine lv_goto (tgt := 4) hx hb d_M_waitingIn_42 (by decide) ?_
          rw [show (nI (cnt (pWq f v) i)) + 0 = nI (cnt (pWq f v) (i + 1)) from cnt_f0 (by simp [pWq, *])] at hl
          exact ih (i + 1) ls locs (by omega) (by omega) (lv_sub hl [2, 3, 1, 0] rfl) hS
        · refine lv_aload_n hx hb d_M_waitingIn_22 rfl (zl hl rfl) ?_
          refine z_get (C := R_M) (T := F_M) (N := 15) (v := .ref (ad 1)) hx hb hts inT_M hown hK hP (PM_o hM) rfl 4 (by decide) tw_577 (fun _ h => h) rfl d_M_waitingIn_23 ?_
          refine lv_iload_n hx hb d_M_waitingIn_26 rfl (zl hl rfl) ?_
          refine z_iald hx hb hK hP 0 (PM_1 hM) rfl i rfl (by omega) (by decide) d_M_waitingIn_27 ?_
          refine lv_iload_n hx hb d_M_waitingIn_28 rfl (zl hl rfl) ?_
          refine lv_icmp_ne (tgt := 36) hx hb d_M_waitingIn_29 (by decide) (fun c_3 => ?_) (fun c_3 => ?_)
          · refine lv_iconst (v := 0) hx hb d_M_waitingIn_36 (by decide) ?_
            refine lv_iadd hx hb d_M_waitingIn_37 ?_
            refine lv_istore_n (lv' := [(2, .int ((nI (cnt (pWq f v) i)) + 0)), (0, .ref (ad 0)), (1, .int v), (3, .int (nI i))]) hx hb d_M_waitingIn_38 rfl hl (by decide) rfl (fun ls hl => ?_)
            refine lv_iinc (v := (nI (i + 1))) (lv' := [(3, .int (nI (i + 1))), (2, .int ((nI (cnt (pWq f v) i)) + 0)), (0, .ref (ad 0)), (1, .int v)]) hx hb d_M_waitingIn_39 hl (k := 3) rfl (nI_1 i) (by decide) rfl (fun ls hl => ?_)
            refine lv_goto (tgt := 4) hx hb d_M_waitingIn_42 (by decide) ?_
            rw [show (nI (cnt (pWq f v) i)) + 0 = nI (cnt (pWq f v) (i + 1)) from cnt_f0 (by simp [pWq, *])] at hl
            exact ih (i + 1) ls locs (by omega) (by omega) (lv_sub hl [2, 3, 1, 0] rfl) hS
          · refine lv_iconst (v := 1) hx hb d_M_waitingIn_32 (by decide) ?_
            refine lv_goto (tgt := 37) hx hb d_M_waitingIn_33 (by decide) ?_
            refine lv_iadd hx hb d_M_waitingIn_37 ?_
            refine lv_istore_n (lv' := [(2, .int ((nI (cnt (pWq f v) i)) + 1)), (0, .ref (ad 0)), (1, .int v), (3, .int (nI i))]) hx hb d_M_waitingIn_38 rfl hl (by decide) rfl (fun ls hl => ?_)
            refine lv_iinc (v := (nI (i + 1))) (lv' := [(3, .int (nI (i + 1))), (2, .int ((nI (cnt (pWq f v) i)) + 1)), (0, .ref (ad 0)), (1, .int v)]) hx hb d_M_waitingIn_39 hl (k := 3) rfl (nI_1 i) (by decide) rfl (fun ls hl => ?_)
            refine lv_goto (tgt := 4) hx hb d_M_waitingIn_42 (by decide) ?_
            rw [show (nI (cnt (pWq f v) i)) + 1 = nI (cnt (pWq f v) (i + 1)) from cnt_t (by simp [pWq, *])] at hl
            exact ih (i + 1) ls locs (by omega) (by omega) (lv_sub hl [2, 3, 1, 0] rfl) hS
  have hl : lv_has ls 4 [(0, .ref (ad 0)), (1, .int v)] := hl
  refine lv_iconst (v := 0) hx hb d_M_waitingIn_0 (by decide) ?_
  refine lv_istore_n (lv' := [(2, .int 0), (0, .ref (ad 0)), (1, .int v)]) hx hb d_M_waitingIn_1 rfl hl (by decide) rfl (fun ls hl => ?_)
  refine lv_iconst (v := 0) hx hb d_M_waitingIn_2 (by decide) ?_
  refine lv_istore_n (lv' := [(3, .int 0), (2, .int 0), (0, .ref (ad 0)), (1, .int v)]) hx hb d_M_waitingIn_3 rfl hl (by decide) rfl (fun ls hl => ?_)
  exact key (n + 1) 0 ls [] (Nat.zero_le _) (by omega) (lv_sub hl [2, 3, 1, 0] rfl) hS
end
section
theorem zle_nlt {a b : Int32} (h : a ≤ b) : ¬ b < a := Int32.not_lt.mpr h
theorem znle_lt {a b : Int32} (h : ¬ a ≤ b) : b < a := Int32.not_le.mp h
theorem nI_m1 {b : Nat} (h : b < 2 ^ 31) : ¬ nI b = -1 := fun z => by
  have h1 := nI_pos (n := b) h
  rw [z] at h1
  exact h1 (by decide)
theorem lgc {x y : Int64} : lg_cmp x y = 0 ↔ x = y := by
  unfold lg_cmp
  by_cases h : x > y
  · rw [if_pos h]
    refine ⟨fun z => absurd z (by decide), fun z => ?_⟩
    rw [z] at h
    exact absurd h Int64.lt_irrefl
  · rw [if_neg h]
    by_cases h2 : x = y
    · simp [h2]
    · rw [if_neg h2]
      exact ⟨fun z => absurd z (by decide), fun z => absurd z h2⟩
theorem z_sw (x : Int32) (hi : Nat) (hh : hi < 2 ^ 30) : (x.toInt < 0 ∨ (hi : Int) < x.toInt) ∨ ∃ k : Nat, k ≤ hi ∧ x = nI k := by
  by_cases h : x.toInt < 0 ∨ (hi : Int) < x.toInt
  · exact Or.inl h
  · refine Or.inr ⟨x.toInt.toNat, by omega, Int32.toInt_inj.mp ?_⟩
    rw [nI_toInt (by omega)]
    omega
theorem fnd_at {P : Nat → Bool} : ∀ (r i k : Nat), i ≤ k → k < i + r → (∀ j, i ≤ j → j < k → P j = false) → P k = true → fnd P i r = some k
  | 0, i, k, h1, h2, _, _ => by omega
  | r + 1, i, k, h1, h2, h3, h4 => by
    unfold fnd
    by_cases e : i = k
    · subst e
      rw [if_pos h4]
    · rw [if_neg (by rw [h3 i (Nat.le_refl _) (by omega)]; decide)]
      exact fnd_at r (i + 1) k (by omega) (by omega) (fun j a b => h3 j (by omega) b) h4
theorem fnd_no {P : Nat → Bool} : ∀ (r i : Nat), (∀ j, i ≤ j → j < i + r → P j = false) → fnd P i r = none
  | 0, _, _ => rfl
  | r + 1, i, h => by
    unfold fnd
    rw [if_neg (by rw [h i (Nat.le_refl _) (by omega)]; decide)]
    exact fnd_no r (i + 1) (fun j a b => h j (by omega) (by omega))
theorem fnd_some {P : Nat → Bool} : ∀ {r i k : Nat}, fnd P i r = some k → i ≤ k ∧ k < i + r ∧ P k = true
  | 0, _, _, h => by simp [fnd] at h
  | r + 1, i, k, h => by
    unfold fnd at h
    by_cases e : P i = true
    · rw [if_pos e] at h
      cases h
      exact ⟨Nat.le_refl _, by omega, e⟩
    · rw [if_neg e] at h
      have := fnd_some h
      exact ⟨by omega, by omega, this.2.2⟩
theorem fnd_congr {P Q : Nat → Bool} : ∀ (r i : Nat), (∀ j, i ≤ j → j < i + r → P j = Q j) → fnd P i r = fnd Q i r
  | 0, _, _ => rfl
  | r + 1, i, h => by
    unfold fnd
    rw [h i (Nat.le_refl _) (by omega), fnd_congr r (i + 1) (fun j a b => h j (by omega) (by omega))]
theorem lstD_some {P : Nat → Bool} : ∀ {n k : Nat}, lstD P n = some k → k < n ∧ P k = true
  | 0, _, h => by simp [lstD] at h
  | n + 1, k, h => by
    unfold lstD at h
    by_cases e : P n = true
    · rw [if_pos e] at h
      cases h
      exact ⟨by omega, e⟩
    · rw [if_neg e] at h
      have := lstD_some h
      exact ⟨by omega, this.2⟩
theorem lstD_t {P : Nat → Bool} {n : Nat} (h : P n = true) : lstD P (n + 1) = some n := by
  unfold lstD
  rw [if_pos h]
theorem lstD_f {P : Nat → Bool} {n : Nat} (h : P n = false) : lstD P (n + 1) = lstD P n := by
  show (if P n = true then some n else lstD P n) = _
  rw [if_neg (by rw [h]; decide)]
theorem lstD_congr {P Q : Nat → Bool} : ∀ n, (∀ k, k < n → P k = Q k) → lstD P n = lstD Q n
  | 0, _ => rfl
  | n + 1, h => by
    unfold lstD
    rw [h n (by omega), lstD_congr n (fun k hk => h k (by omega))]
def pr (i : Nat) : Int32 := match i with
  | 0 => -1
  | j + 1 => nI j
theorem pr_sub (n : Nat) : nI n - 1 = pr n := by
  cases n with
  | zero => decide
  | succ n => exact nI_pred n
theorem pr_dec (j : Nat) : nI j + (-1) = pr j := by
  cases j with
  | zero => decide
  | succ n => exact pk_m1 n
def sTask (t : Int32) (n : Nat) : Bool := decide (0 ≤ t) && decide (t < nI n)
theorem sTask_t {t : Int32} {n : Nat} (hn : n < 2 ^ 31) (h : sTask t n = true) : ∃ k : Nat, k < n ∧ t = nI k := by
  simp only [sTask, Bool.and_eq_true, decide_eq_true_eq] at h
  obtain ⟨j, hj, rfl⟩ := nI_of (x := t) (Int32.not_lt.mpr h.1)
  exact ⟨j, (nI_ltI hj hn).mp h.2, rfl⟩
theorem sTask_nI {k n : Nat} (hk : k < n) (hn : n < 2 ^ 31) : sTask (nI k) n = true := by
  simp only [sTask, Bool.and_eq_true, decide_eq_true_eq]
  exact ⟨nI_pos' (by omega), nI_lt hk hn⟩
def sLeast (w : Int32) : Int32 := if 4 ≤ w then 0 else 1
def sGreat (w : Int32) : Int32 := if w = 0 then 200 else if w = 1 then 20 else if w = 2 then 100 else if w = 3 then 1000 else if w = 4 then 100 else if w = 5 then 1000 else 8
def pKey (f : Nat → Nat → Int32) (ky : Nat → Int64) (time : Int32) (qi : Nat) (k : Int64) (t : Nat) : Bool := decide (f 1 t = nI qi) && decide (ky t = k) && !decide (k = 0) && (sLive (f 6 t) || (decide (f 6 t = 2) && decide (time - f 7 t ≤ f 10 (6 * qi + 5))))
def fBetter (f : Nat → Nat → Int32) (time : Int32) (best : Option Nat) (k : Nat) : Bool := match best with
  | none => true
  | some b => decide (wgt f time b < wgt f time k) || (decide (wgt f time k = wgt f time b) && decide (f 7 k < f 7 b))
def fStep (f : Nat → Nat → Int32) (time : Int32) (n : Nat) (q : Int32) (best : Option Nat) (k : Nat) : Option Nat := if (decide (f 1 k = q) && pHad f time n k && fBetter f time best k) = true then some k else best
def fst (f : Nat → Nat → Int32) (time : Int32) (n : Nat) (q : Int32) : Nat → Option Nat
  | 0 => none
  | k + 1 => fStep f time n q (fst f time n q k) k
theorem fst_lt {f : Nat → Nat → Int32} {time : Int32} {n : Nat} {q : Int32} : ∀ {i b : Nat}, fst f time n q i = some b → b < i ∧ f 1 b = q ∧ pHad f time n b = true
  | 0, b, h => by simp [fst] at h
  | i + 1, b, h => by
    unfold fst fStep at h
    split at h
    · rename_i hc
      cases h
      simp only [Bool.and_eq_true, decide_eq_true_eq] at hc
      exact ⟨by omega, hc.1.1, hc.1.2⟩
    · have := fst_lt h
      exact ⟨by omega, this.2⟩
set_option maxHeartbeats 4000000 in
set_option maxRecDepth 100000 in
theorem c_M_thrown (l : Launch) {D : va_G} {ws : va_W} {H : Heap} (hP : va_P D vwCl ws H) {kk : Nat → ClassId} {ad : Nat → Nat} {thr time tok : Int32} {n : Nat} {f : Nat → Nat → Int32} {ky : Nat → Int64} (hM : PM kk ad thr time n tok f ky ws)  : Met l y_M_thrown (Cond.code y_M_thrown b_M_thrown 1 (some .int) :: TT) ({ frames := 1, cells := 0, slots := 0, locals := 60 }) (zPc [.ref (ad 0)] H D vwCl (TY kk)) (zQi thr H) 0 0 (fun _ => False) := by
  refine z_body (by decide) (Nat.le_of_ble_eq_true rfl) ?_
  intro p e s m below meth c ls C0 hH hKN hl
  obtain ⟨hx, hb, hr, hts, hown, hlocks, hml⟩ := C0
  subst hH
  have hK := hKN.1
  have hN := hKN.2
  have hS : va_S (fun _ => False) s.heap s.heap [] := va_S.rf
  have hl : lv_has ls 1 [(0, .ref (ad 0))] := hl
  refine lv_aload_n hx hb d_M_thrown_0 rfl (zl hl rfl) ?_
  refine z_get (C := R_M) (T := F_M) (N := 15) (v := .int thr) hx hb hts inT_M hown hK hP (PM_o hM) rfl 0 (by decide) tw_573 (fun _ h => h) rfl d_M_thrown_1 ?_
  exact z_iret hx hb hr hlocks hS (rfl) d_M_thrown_4
set_option maxHeartbeats 4000000 in
set_option maxRecDepth 100000 in
theorem c_M_isTask (l : Launch) {D : va_G} {ws : va_W} {H : Heap} (hP : va_P D vwCl ws H) {kk : Nat → ClassId} {ad : Nat → Nat} {thr time tok : Int32} {n : Nat} {f : Nat → Nat → Int32} {ky : Nat → Int64} (hM : PM kk ad thr time n tok f ky ws) (t : Int32) : Met l y_M_isTask (Cond.code y_M_isTask b_M_isTask 2 (some .boolean) :: TT) ({ frames := 1, cells := 0, slots := 0, locals := 60 }) (zPc [.ref (ad 0), .int t] H D vwCl (TY kk)) (zQi (zb (sTask t n)) H) 0 0 (fun _ => False) := by
  refine z_body (by decide) (Nat.le_of_ble_eq_true rfl) ?_
  intro p e s m below meth c ls C0 hH hKN hl
  obtain ⟨hx, hb, hr, hts, hown, hlocks, hml⟩ := C0
  subst hH
  have hK := hKN.1
  have hN := hKN.2
  have hS : va_S (fun _ => False) s.heap s.heap [] := va_S.rf
  have hl : lv_has ls 2 [(0, .ref (ad 0)), (1, .int t)] := hl
  refine lv_iload_n hx hb d_M_isTask_0 rfl (zl hl rfl) ?_
  refine lv_if_lt (tgt := 16) hx hb d_M_isTask_1 (by decide) (fun c_1 => ?_) (fun c_1 => ?_)
  · have b1 : ¬ 0 ≤ t := zlt_nle c_1
    refine lv_iconst (v := 0) hx hb d_M_isTask_16 (by decide) ?_
    exact z_zret hx hb hr hlocks hS (by simp [sTask, zb, *]) d_M_isTask_17
  · have b1 : 0 ≤ t := znlt_le c_1
    refine lv_iload_n hx hb d_M_isTask_4 rfl (zl hl rfl) ?_
    refine lv_aload_n hx hb d_M_isTask_5 rfl (zl hl rfl) ?_
    refine z_get (C := R_M) (T := F_M) (N := 15) (v := .int (nI n)) hx hb hts inT_M hown hK hP (PM_o hM) rfl 2 (by decide) tw_575 (fun _ h => h) rfl d_M_isTask_6 ?_
    refine lv_icmp_ge (tgt := 16) hx hb d_M_isTask_9 (by decide) (fun c_2 => ?_) (fun c_2 => ?_)
    · have b2 := zle_nlt c_2
      refine lv_iconst (v := 0) hx hb d_M_isTask_16 (by decide) ?_
      exact z_zret hx hb hr hlocks hS (by simp [sTask, zb, *]) d_M_isTask_17
    · have b2 := znle_lt c_2
      refine lv_iconst (v := 1) hx hb d_M_isTask_12 (by decide) ?_
      refine lv_goto (tgt := 17) hx hb d_M_isTask_13 (by decide) ?_
      exact z_zret hx hb hr hlocks hS (by simp [sTask, zb, *]) d_M_isTask_17
set_option maxHeartbeats 4000000 in
set_option maxRecDepth 100000 in
theorem c_M_least (l : Launch) {D : va_G} {tys : List (ClassId × FieldType)} {ws : va_W} {H : Heap} (hP : va_P D vwCl ws H) (v : Int32) : Met l y_M_least (Cond.code y_M_least b_M_least 1 (some .int) :: TT) ({ frames := 1, cells := 0, slots := 0, locals := 60 }) (zPc [.int v] H D vwCl tys) (zQi (sLeast v) H) 0 0 (fun _ => False) := by
  refine z_body (by decide) (Nat.le_of_ble_eq_true rfl) ?_
  intro p e s m below meth c ls C0 hH hKN hl
  obtain ⟨hx, hb, hr, hts, hown, hlocks, hml⟩ := C0
  subst hH
  have hK := hKN.1
  have hN := hKN.2
  have hS : va_S (fun _ => False) s.heap s.heap [] := va_S.rf
  have hl : lv_has ls 1 [(0, .int v)] := hl
  refine lv_iload_n hx hb d_M_least_0 rfl (zl hl rfl) ?_
  refine lv_iconst (v := 4) hx hb d_M_least_1 (by decide) ?_
  refine lv_icmp_ge (tgt := 9) hx hb d_M_least_2 (by decide) (fun c_1 => ?_) (fun c_1 => ?_)
  · refine lv_iconst (v := 0) hx hb d_M_least_9 (by decide) ?_
    exact z_iret hx hb hr hlocks hS (by simp [sLeast, *]) d_M_least_10
  · refine lv_iconst (v := 1) hx hb d_M_least_5 (by decide) ?_
    refine lv_goto (tgt := 10) hx hb d_M_least_6 (by decide) ?_
    exact z_iret hx hb hr hlocks hS (by simp [sLeast, *]) d_M_least_10
set_option maxHeartbeats 4000000 in
set_option maxRecDepth 100000 in
theorem c_M_greatest (l : Launch) {D : va_G} {tys : List (ClassId × FieldType)} {ws : va_W} {H : Heap} (hP : va_P D vwCl ws H) (v : Int32) : Met l y_M_greatest (Cond.code y_M_greatest b_M_greatest 1 (some .int) :: TT) ({ frames := 1, cells := 0, slots := 0, locals := 60 }) (zPc [.int v] H D vwCl tys) (zQi (sGreat v) H) 0 0 (fun _ => False) := by
  refine z_body (by decide) (Nat.le_of_ble_eq_true rfl) ?_
  intro p e s m below meth c ls C0 hH hKN hl
  obtain ⟨hx, hb, hr, hts, hown, hlocks, hml⟩ := C0
  subst hH
  have hK := hKN.1
  have hN := hKN.2
  have hS : va_S (fun _ => False) s.heap s.heap [] := va_S.rf
  have hl : lv_has ls 1 [(0, .int v)] := hl
  refine lv_iload_n hx hb d_M_greatest_0 rfl (zl hl rfl) ?_
  rcases z_sw v 5 (by decide) with d_1 | ⟨k9, hk9, hkk⟩
  · have n_2 : ¬ v = 0 := fun h => absurd (h ▸ d_1) (by decide)
    have n_3 : ¬ v = 1 := fun h => absurd (h ▸ d_1) (by decide)
    have n_4 : ¬ v = 2 := fun h => absurd (h ▸ d_1) (by decide)
    have n_5 : ¬ v = 3 := fun h => absurd (h ▸ d_1) (by decide)
    have n_6 : ¬ v = 4 := fun h => absurd (h ▸ d_1) (by decide)
    have n_7 : ¬ v = 5 := fun h => absurd (h ▸ d_1) (by decide)
    refine lv_tableOut (tgt := 54) hx hb d_M_greatest_1 d_1 (by decide) ?_
    refine lv_bipush (v := 8) hx hb d_M_greatest_54 (by decide) ?_
    exact z_iret hx hb hr hlocks hS (by first | rfl | simp [sGreat, *]) d_M_greatest_56
  · obtain rfl | rfl | rfl | rfl | rfl | rfl : k9 = 0 ∨ k9 = 1 ∨ k9 = 2 ∨ k9 = 3 ∨ k9 = 4 ∨ k9 = 5 := by omega
    · have e9 : v = 0 := hkk
      clear hkk
      subst e9
      refine lv_tableIn (tgt := 40) hx hb d_M_greatest_1 (by decide) (by decide) rfl (by decide) ?_
      refine lv_sipush (v := 200) hx hb d_M_greatest_40 (by decide) ?_
      exact z_iret hx hb hr hlocks hS (by first | rfl | simp [sGreat, *]) d_M_greatest_43
    · have e9 : v = 1 := hkk
      clear hkk
      subst e9
      refine lv_tableIn (tgt := 44) hx hb d_M_greatest_1 (by decide) (by decide) rfl (by decide) ?_
      refine lv_bipush (v := 20) hx hb d_M_greatest_44 (by decide) ?_
      exact z_iret hx hb hr hlocks hS (by first | rfl | simp [sGreat, *]) d_M_greatest_46
    · have e9 : v = 2 := hkk
      clear hkk
      subst e9
      refine lv_tableIn (tgt := 47) hx hb d_M_greatest_1 (by decide) (by decide) rfl (by decide) ?_
      refine lv_bipush (v := 100) hx hb d_M_greatest_47 (by decide) ?_
      exact z_iret hx hb hr hlocks hS (by first | rfl | simp [sGreat, *]) d_M_greatest_49
    · have e9 : v = 3 := hkk
      clear hkk
      subst e9
      refine lv_tableIn (tgt := 50) hx hb d_M_greatest_1 (by decide) (by decide) rfl (by decide) ?_
      refine lv_sipush (v := 1000) hx hb d_M_greatest_50 (by decide) ?_
      exact z_iret hx hb hr hlocks hS (by first | rfl | simp [sGreat, *]) d_M_greatest_53
    · have e9 : v = 4 := hkk
      clear hkk
      subst e9
      refine lv_tableIn (tgt := 47) hx hb d_M_greatest_1 (by decide) (by decide) rfl (by decide) ?_
      refine lv_bipush (v := 100) hx hb d_M_greatest_47 (by decide) ?_
      exact z_iret hx hb hr hlocks hS (by first | rfl | simp [sGreat, *]) d_M_greatest_49
    · have e9 : v = 5 := hkk
      clear hkk
      subst e9
      refine lv_tableIn (tgt := 50) hx hb d_M_greatest_1 (by decide) (by decide) rfl (by decide) ?_
      refine lv_sipush (v := 1000) hx hb d_M_greatest_50 (by decide) ?_
      exact z_iret hx hb hr hlocks hS (by first | rfl | simp [sGreat, *]) d_M_greatest_53
set_option maxHeartbeats 4000000 in
set_option maxRecDepth 100000 in
theorem c_M_weight (l : Launch) {D : va_G} {ws : va_W} {H : Heap} (hP : va_P D vwCl ws H) {kk : Nat → ClassId} {ad : Nat → Nat} {thr time tok : Int32} {n : Nat} {f : Nat → Nat → Int32} {ky : Nat → Int64} (hM : PM kk ad thr time n tok f ky ws) (t : Nat) (ht : t < 400) (hq : f 1 t = nI (qx f t)) (hq2 : qx f t < 4) : Met l y_M_weight (Cond.code y_M_weight b_M_weight 4 (some .int) :: TT) ({ frames := 1, cells := 0, slots := 0, locals := 60 }) (zPc [.ref (ad 0), .int (nI t)] H D vwCl (TY kk)) (zQi (wgt f time t) H) 0 0 (fun _ => False) := by
  refine z_body (by decide) (Nat.le_of_ble_eq_true rfl) ?_
  intro p e s m below meth c ls C0 hH hKN hl
  obtain ⟨hx, hb, hr, hts, hown, hlocks, hml⟩ := C0
  subst hH
  have hK := hKN.1
  have hN := hKN.2
  have hS : va_S (fun _ => False) s.heap s.heap [] := va_S.rf
  have hl : lv_has ls 4 [(0, .ref (ad 0)), (1, .int (nI t))] := hl
  refine lv_aload_n hx hb d_M_weight_0 rfl (zl hl rfl) ?_
  refine z_get (C := R_M) (T := F_M) (N := 15) (v := .ref (ad 10)) hx hb hts inT_M hown hK hP (PM_o hM) rfl 13 (by decide) tw_586 (fun _ h => h) rfl d_M_weight_1 ?_
  refine lv_bipush (v := 6) hx hb d_M_weight_4 (by decide) ?_
  refine lv_aload_n hx hb d_M_weight_6 rfl (zl hl rfl) ?_
  refine z_get (C := R_M) (T := F_M) (N := 15) (v := .ref (ad 1)) hx hb hts inT_M hown hK hP (PM_o hM) rfl 4 (by decide) tw_577 (fun _ h => h) rfl d_M_weight_7 ?_
  refine lv_iload_n hx hb d_M_weight_10 rfl (zl hl rfl) ?_
  refine z_iald hx hb hK hP 0 (PM_1 hM) rfl t rfl (by omega) (by decide) d_M_weight_11 ?_
  refine lv_imul hx hb d_M_weight_12 ?_
  refine lv_iconst (v := 4) hx hb d_M_weight_13 (by decide) ?_
  refine lv_iadd hx hb d_M_weight_14 ?_
  refine z_iald hx hb hK hP 0 (PM_10 hM) rfl (6 * qx f t + 4) (by rw [hq]; exact z_idx (qx f t) 4) (by omega) (by decide) d_M_weight_15 ?_
  refine lv_istore_n (lv' := [(2, .int (f 10 (6 * qx f t + 4))), (0, .ref (ad 0)), (1, .int (nI t))]) hx hb d_M_weight_16 rfl hl (by decide) rfl (fun ls hl => ?_)
  refine lv_aload_n hx hb d_M_weight_17 rfl (zl hl rfl) ?_
  refine z_get (C := R_M) (T := F_M) (N := 15) (v := .ref (ad 2)) hx hb hts inT_M hown hK hP (PM_o hM) rfl 5 (by decide) tw_578 (fun _ h => h) rfl d_M_weight_18 ?_
  refine lv_iload_n hx hb d_M_weight_21 rfl (zl hl rfl) ?_
  refine z_iald hx hb hK hP 0 (PM_2 hM) rfl t rfl (by omega) (by decide) d_M_weight_22 ?_
  refine lv_iload_n hx hb d_M_weight_23 rfl (zl hl rfl) ?_
  refine lv_if_le (tgt := 43) hx hb d_M_weight_24 (by decide) (fun c_1 => ?_) (fun c_1 => ?_)
  · refine lv_iconst (v := 0) hx hb d_M_weight_43 (by decide) ?_
    refine lv_iadd hx hb d_M_weight_44 ?_
    refine lv_istore_n (lv' := [(3, .int ((f 2 t) + 0)), (2, .int (f 10 (6 * qx f t + 4))), (0, .ref (ad 0)), (1, .int (nI t))]) hx hb d_M_weight_45 rfl hl (by decide) rfl (fun ls hl => ?_)
    refine lv_iload_n hx hb d_M_weight_46 rfl (zl hl rfl) ?_
    refine lv_bipush (v := 9) hx hb d_M_weight_47 (by decide) ?_
    refine lv_icmp_le (tgt := 57) hx hb d_M_weight_49 (by decide) (fun c_2 => ?_) (fun c_2 => ?_)
    · have b2 := zle_nlt c_2
      refine lv_iload_n hx hb d_M_weight_57 rfl (zl hl rfl) ?_
      exact z_iret hx hb hr hlocks hS (by simp only [wgt, sWeight, sGrown, *, reduceIte]) d_M_weight_58
    · have b2 := znle_lt c_2
      refine lv_bipush (v := 9) hx hb d_M_weight_52 (by decide) ?_
      refine lv_goto (tgt := 58) hx hb d_M_weight_54 (by decide) ?_
      exact z_iret hx hb hr hlocks hS (by simp only [wgt, sWeight, sGrown, *, reduceIte]) d_M_weight_58
  · refine lv_aload_n hx hb d_M_weight_27 rfl (zl hl rfl) ?_
    refine z_get (C := R_M) (T := F_M) (N := 15) (v := .int time) hx hb hts inT_M hown hK hP (PM_o hM) rfl 1 (by decide) tw_574 (fun _ h => h) rfl d_M_weight_28 ?_
    refine lv_aload_n hx hb d_M_weight_31 rfl (zl hl rfl) ?_
    refine z_get (C := R_M) (T := F_M) (N := 15) (v := .ref (ad 7)) hx hb hts inT_M hown hK hP (PM_o hM) rfl 10 (by decide) tw_583 (fun _ h => h) rfl d_M_weight_32 ?_
    refine lv_iload_n hx hb d_M_weight_35 rfl (zl hl rfl) ?_
    refine z_iald hx hb hK hP 0 (PM_7 hM) rfl t rfl (by omega) (by decide) d_M_weight_36 ?_
    refine lv_isub hx hb d_M_weight_37 ?_
    refine lv_iload_n hx hb d_M_weight_38 rfl (zl hl rfl) ?_
    refine lv_idiv hx hb d_M_weight_39 (fun h => c_1 (by rw [h]; decide)) ?_
    refine lv_goto (tgt := 44) hx hb d_M_weight_40 (by decide) ?_
    refine lv_iadd hx hb d_M_weight_44 ?_
    refine lv_istore_n (lv' := [(3, .int ((f 2 t) + ((time - (f 7 t)) / (f 10 (6 * qx f t + 4))))), (2, .int (f 10 (6 * qx f t + 4))), (0, .ref (ad 0)), (1, .int (nI t))]) hx hb d_M_weight_45 rfl hl (by decide) rfl (fun ls hl => ?_)
    refine lv_iload_n hx hb d_M_weight_46 rfl (zl hl rfl) ?_
    refine lv_bipush (v := 9) hx hb d_M_weight_47 (by decide) ?_
    refine lv_icmp_le (tgt := 57) hx hb d_M_weight_49 (by decide) (fun c_3 => ?_) (fun c_3 => ?_)
    · have b2 := zle_nlt c_3
      refine lv_iload_n hx hb d_M_weight_57 rfl (zl hl rfl) ?_
      exact z_iret hx hb hr hlocks hS (by simp only [wgt, sWeight, sGrown, *, reduceIte]) d_M_weight_58
    · have b2 := znle_lt c_3
      refine lv_bipush (v := 9) hx hb d_M_weight_52 (by decide) ?_
      refine lv_goto (tgt := 58) hx hb d_M_weight_54 (by decide) ?_
      exact z_iret hx hb hr hlocks hS (by simp only [wgt, sWeight, sGrown, *, reduceIte]) d_M_weight_58
set_option maxHeartbeats 4000000 in
set_option maxRecDepth 100000 in
theorem c_M_mayBeHad (l : Launch) {D : va_G} {ws : va_W} {H : Heap} (hP : va_P D vwCl ws H) {kk : Nat → ClassId} {ad : Nat → Nat} {thr time tok : Int32} {n : Nat} {f : Nat → Nat → Int32} {ky : Nat → Int64} (hM : PM kk ad thr time n tok f ky ws) (t : Nat) (ht : t < n) (hn : n ≤ 400) (hg : okg f n) : Met l y_M_mayBeHad (Cond.code y_M_mayBeHad b_M_mayBeHad 2 (some .boolean) :: TT) ({ frames := 2, cells := 0, slots := 0, locals := 120 }) (zPc [.ref (ad 0), .int (nI t)] H D vwCl (TY kk)) (zQi (zb (pHad f time n t)) H) 0 0 (fun _ => False) := by
  refine z_body (by decide) (Nat.le_of_ble_eq_true rfl) ?_
  intro p e s m below meth c ls C0 hH hKN hl
  obtain ⟨hx, hb, hr, hts, hown, hlocks, hml⟩ := C0
  subst hH
  have hK := hKN.1
  have hN := hKN.2
  have hS : va_S (fun _ => False) s.heap s.heap [] := va_S.rf
  have hl : lv_has ls 2 [(0, .ref (ad 0)), (1, .int (nI t))] := hl
  refine lv_aload_n hx hb d_M_mayBeHad_0 rfl (zl hl rfl) ?_
  refine z_get (C := R_M) (T := F_M) (N := 15) (v := .ref (ad 6)) hx hb hts inT_M hown hK hP (PM_o hM) rfl 9 (by decide) tw_582 (fun _ h => h) rfl d_M_mayBeHad_1 ?_
  refine lv_iload_n hx hb d_M_mayBeHad_4 rfl (zl hl rfl) ?_
  refine z_iald hx hb hK hP 0 (PM_6 hM) rfl t rfl (by omega) (by decide) d_M_mayBeHad_5 ?_
  refine lv_if_ne (tgt := 60) hx hb d_M_mayBeHad_6 (by decide) (fun c_1 => ?_) (fun c_1 => ?_)
  · refine lv_iconst (v := 0) hx hb d_M_mayBeHad_60 (by decide) ?_
    exact z_zret hx hb hr hlocks hS (by simp [pHad, zb, *]) d_M_mayBeHad_61
  · refine lv_aload_n hx hb d_M_mayBeHad_9 rfl (zl hl rfl) ?_
    refine z_get (C := R_M) (T := F_M) (N := 15) (v := .ref (ad 7)) hx hb hts inT_M hown hK hP (PM_o hM) rfl 10 (by decide) tw_583 (fun _ h => h) rfl d_M_mayBeHad_10 ?_
    refine lv_iload_n hx hb d_M_mayBeHad_13 rfl (zl hl rfl) ?_
    refine z_iald hx hb hK hP 0 (PM_7 hM) rfl t rfl (by omega) (by decide) d_M_mayBeHad_14 ?_
    refine lv_aload_n hx hb d_M_mayBeHad_15 rfl (zl hl rfl) ?_
    refine z_get (C := R_M) (T := F_M) (N := 15) (v := .int time) hx hb hts inT_M hown hK hP (PM_o hM) rfl 1 (by decide) tw_574 (fun _ h => h) rfl d_M_mayBeHad_16 ?_
    refine lv_icmp_gt (tgt := 60) hx hb d_M_mayBeHad_19 (by decide) (fun c_2 => ?_) (fun c_2 => ?_)
    · have b2 := zlt_nle c_2
      refine lv_iconst (v := 0) hx hb d_M_mayBeHad_60 (by decide) ?_
      exact z_zret hx hb hr hlocks hS (by simp [pHad, zb, *]) d_M_mayBeHad_61
    · have b2 := znlt_le c_2
      refine lv_aload_n hx hb d_M_mayBeHad_22 rfl (zl hl rfl) ?_
      refine z_get (C := R_M) (T := F_M) (N := 15) (v := .ref (ad 3)) hx hb hts inT_M hown hK hP (PM_o hM) rfl 6 (by decide) tw_579 (fun _ h => h) rfl d_M_mayBeHad_23 ?_
      refine lv_iload_n hx hb d_M_mayBeHad_26 rfl (zl hl rfl) ?_
      refine z_iald hx hb hK hP 0 (PM_3 hM) rfl t rfl (by omega) (by decide) d_M_mayBeHad_27 ?_
      refine lv_iconst (v := (-1)) hx hb d_M_mayBeHad_28 (by decide) ?_
      refine lv_icmp_eq (tgt := 56) hx hb d_M_mayBeHad_29 (by decide) (fun c_3 => ?_) (fun c_3 => ?_)
      · refine lv_iconst (v := 1) hx hb d_M_mayBeHad_56 (by decide) ?_
        refine lv_goto (tgt := 61) hx hb d_M_mayBeHad_57 (by decide) ?_
        exact z_zret hx hb hr hlocks hS (by simp [pHad, zb, *]) d_M_mayBeHad_61
      · obtain ⟨g0, g2⟩ := (hg t ht).resolve_left c_3
        have g1 : nI (gx f t) = f 3 t := g0.symm
        clear g0
        refine lv_aload_n hx hb d_M_mayBeHad_32 rfl (zl hl rfl) ?_
        refine lv_aload_n hx hb d_M_mayBeHad_33 rfl (zl hl rfl) ?_
        refine z_get (C := R_M) (T := F_M) (N := 15) (v := .ref (ad 3)) hx hb hts inT_M hown hK hP (PM_o hM) rfl 6 (by decide) tw_579 (fun _ h => h) rfl d_M_mayBeHad_34 ?_
        refine lv_iload_n hx hb d_M_mayBeHad_37 rfl (zl hl rfl) ?_
        refine z_iald hx hb hK hP 0 (PM_3 hM) rfl t rfl (by omega) (by decide) d_M_mayBeHad_38 ?_
        refine z_calli (va_runV (As := [.int (f 3 t)]) (rest := []) ⟨hx, hb, hml, hown, hts⟩ (c_M_lentOf l hP hM (f 3 t) hn) (cwV 1 hts (tt_V tw_663 tw_660 tw_662 tw_21 tw_36) rfl rfl rfl (by decide +kernel) ⟨Nat.le_of_ble_eq_true rfl, Nat.le_of_ble_eq_true rfl⟩) (zPc_V hKN hP (ci := 4) (q := (R_M, F_M, 15)) rfl (PM_o hM)) rfl rfl hl.1 rfl (lv_room (Nat.le_of_ble_eq_true rfl)) d_M_mayBeHad_39 ⟨Nat.zero_le _, Nat.zero_le _⟩) hS (fun locs hS => ?_)
        refine lv_aload_n hx hb d_M_mayBeHad_42 rfl (zl hl rfl) ?_
        refine z_get (C := R_M) (T := F_M) (N := 15) (v := .ref (ad 11)) hx hb hts inT_M hown hK hP (PM_o hM) rfl 14 (by decide) tw_587 (fun _ h => h) rfl d_M_mayBeHad_43 ?_
        refine lv_aload_n hx hb d_M_mayBeHad_46 rfl (zl hl rfl) ?_
        refine z_get (C := R_M) (T := F_M) (N := 15) (v := .ref (ad 3)) hx hb hts inT_M hown hK hP (PM_o hM) rfl 6 (by decide) tw_579 (fun _ h => h) rfl d_M_mayBeHad_47 ?_
        refine lv_iload_n hx hb d_M_mayBeHad_50 rfl (zl hl rfl) ?_
        refine z_iald hx hb hK hP 0 (PM_3 hM) rfl t rfl (by omega) (by decide) d_M_mayBeHad_51 ?_
        refine z_iald hx hb hK hP 0 (PM_11 hM) rfl (gx f t) g1.symm g2 (by decide) d_M_mayBeHad_52 ?_
        refine lv_icmp_ge (tgt := 60) hx hb d_M_mayBeHad_53 (by decide) (fun c_4 => ?_) (fun c_4 => ?_)
        · have b3 := zle_nlt c_4
          refine lv_iconst (v := 0) hx hb d_M_mayBeHad_60 (by decide) ?_
          exact z_zret hx hb hr hlocks hS (by simp [pHad, zb, *]) d_M_mayBeHad_61
        · have b3 := znle_lt c_4
          refine lv_iconst (v := 1) hx hb d_M_mayBeHad_56 (by decide) ?_
          refine lv_goto (tgt := 61) hx hb d_M_mayBeHad_57 (by decide) ?_
          exact z_zret hx hb hr hlocks hS (by simp [pHad, zb, *]) d_M_mayBeHad_61
set_option maxHeartbeats 4000000 in
set_option maxRecDepth 100000 in
theorem c_M_firstOf (l : Launch) {D : va_G} {ws : va_W} {H : Heap} (hP : va_P D vwCl ws H) {kk : Nat → ClassId} {ad : Nat → Nat} {thr time tok : Int32} {n : Nat} {f : Nat → Nat → Int32} {ky : Nat → Int64} (hM : PM kk ad thr time n tok f ky ws) (q : Int32) (hn : n ≤ 400) (hq : okq f n) (hg : okg f n) : Met l y_M_firstOf (Cond.code y_M_firstOf b_M_firstOf 4 (some .int) :: TT) ({ frames := 3, cells := 0, slots := 0, locals := 180 }) (zPc [.ref (ad 0), .int q] H D vwCl (TY kk)) (zQi (oI (fst f time n q n)) H) 0 0 (fun _ => False) := by
  refine z_body (by decide) (Nat.le_of_ble_eq_true rfl) ?_
  intro p e s m below meth c ls C0 hH hKN hl
  obtain ⟨hx, hb, hr, hts, hown, hlocks, hml⟩ := C0
  subst hH
  have hK := hKN.1
  have hN := hKN.2
  have hS : va_S (fun _ => False) s.heap s.heap [] := va_S.rf
  have key : ∀ (r i : Nat) (best : Option Nat) (ls : Array Slot) (locs : List Loc), i ≤ n → n + 1 ≤ i + r → fst f time n q i = best → lv_has ls 4 [(0, .ref (ad 0)), (1, .int q), (2, .int (oI best)), (3, .int (nI i))] → va_S (fun _ => False) s.heap s.heap locs → W p l e ({ frames := 3, cells := 0, slots := 0, locals := 180 }) s m ([.ref (ad 0), .int q] : List Value).toArray below meth c s.heap locs 0 0 (MQ below (zQi (oI (fst f time n q n)) s.heap) ([.ref (ad 0), .int q] : List Value).toArray s 0 0 (fun _ => False)) (F0 m 4 ls []) := by
    intro r
    induction r with
    | zero => intro i best ls locs h1 h2; omega
    | succ r ih =>
      intro i best ls locs hi hir hbe hl hS
      cases best with
      | none =>
        have hl : lv_has ls 4 [(0, .ref (ad 0)), (1, .int q), (2, .int (-1)), (3, .int (nI i))] := hl
        refine lv_iload_n hx hb d_M_firstOf_4 rfl (zl hl rfl) ?_
        refine lv_aload_n hx hb d_M_firstOf_5 rfl (zl hl rfl) ?_
        refine z_get (C := R_M) (T := F_M) (N := 15) (v := .int (nI n)) hx hb hts inT_M hown hK hP (PM_o hM) rfl 2 (by decide) tw_575 (fun _ h => h) rfl d_M_firstOf_6 ?_
        refine lv_icmp_ge (tgt := 87) hx hb d_M_firstOf_9 (by decide) (fun c_1 => ?_) (fun c_1 => ?_)
        · have hin := z_ge hi (by omega) c_1
          refine lv_iload_n hx hb d_M_firstOf_87 rfl (zl hl rfl) ?_
          exact z_iret hx hb hr hlocks hS (by subst hin; rw [hbe]; rfl) d_M_firstOf_88
        · have hlt := z_lt hi (by omega) c_1
          refine lv_aload_n hx hb d_M_firstOf_12 rfl (zl hl rfl) ?_
          refine z_get (C := R_M) (T := F_M) (N := 15) (v := .ref (ad 1)) hx hb hts inT_M hown hK hP (PM_o hM) rfl 4 (by decide) tw_577 (fun _ h => h) rfl d_M_firstOf_13 ?_
          refine lv_iload_n hx hb d_M_firstOf_16 rfl (zl hl rfl) ?_
          refine z_iald hx hb hK hP 0 (PM_1 hM) rfl i rfl (by omega) (by decide) d_M_firstOf_17 ?_
          refine lv_iload_n hx hb d_M_firstOf_18 rfl (zl hl rfl) ?_
          refine lv_icmp_ne (tgt := 81) hx hb d_M_firstOf_19 (by decide) (fun c_2 => ?_) (fun c_2 => ?_)
          · refine lv_iinc (v := (nI (i + 1))) (lv' := [(3, .int (nI (i + 1))), (0, .ref (ad 0)), (1, .int q), (2, .int (-1))]) hx hb d_M_firstOf_81 hl (k := 3) rfl (nI_1 i) (by decide) rfl (fun ls hl => ?_)
            refine lv_goto (tgt := 4) hx hb d_M_firstOf_84 (by decide) ?_
            have hst : fst f time n q (i + 1) = (none) := by
              show fStep f time n q (fst f time n q i) i = (none)
              rw [hbe]
              simp [fStep, fBetter, *]
            exact ih (i + 1) (none) ls locs (by omega) (by omega) hst (lv_sub hl [1, 2, 3, 0] rfl) hS
          · refine lv_aload_n hx hb d_M_firstOf_22 rfl (zl hl rfl) ?_
            refine lv_iload_n hx hb d_M_firstOf_23 rfl (zl hl rfl) ?_
            refine z_calli (va_runV (As := [.int (nI i)]) (rest := []) ⟨hx, hb, hml, hown, hts⟩ (c_M_mayBeHad l hP hM i hlt hn hg) (cwV 1 hts (tt_V tw_659 tw_656 tw_658 tw_20 tw_36) rfl rfl rfl (by decide +kernel) ⟨Nat.le_of_ble_eq_true rfl, Nat.le_of_ble_eq_true rfl⟩) (zPc_V hKN hP (ci := 4) (q := (R_M, F_M, 15)) rfl (PM_o hM)) rfl rfl hl.1 rfl (lv_room (Nat.le_of_ble_eq_true rfl)) d_M_firstOf_24 ⟨Nat.zero_le _, Nat.zero_le _⟩) hS (fun locs hS => ?_)
            refine lv_if_ne (tgt := 33) hx hb d_M_firstOf_27 (by decide) (fun c_3 => ?_) (fun c_3 => ?_)
            · have b1 := zb_t c_3
              refine lv_iload_n hx hb d_M_firstOf_33 rfl (zl hl rfl) ?_
              refine lv_iconst (v := (-1)) hx hb d_M_firstOf_34 (by decide) ?_
              refine lv_icmp_eq (tgt := 79) hx hb d_M_firstOf_35 (by decide) (fun c_4 => ?_) (fun c_4 => ?_)
              · refine lv_iload_n hx hb d_M_firstOf_79 rfl (zl hl rfl) ?_
                refine lv_istore_n (lv' := [(2, .int (nI i)), (0, .ref (ad 0)), (1, .int q), (3, .int (nI i))]) hx hb d_M_firstOf_80 rfl hl (by decide) rfl (fun ls hl => ?_)
                refine lv_iinc (v := (nI (i + 1))) (lv' := [(3, .int (nI (i + 1))), (2, .int (nI i)), (0, .ref (ad 0)), (1, .int q)]) hx hb d_M_firstOf_81 hl (k := 3) rfl (nI_1 i) (by decide) rfl (fun ls hl => ?_)
                refine lv_goto (tgt := 4) hx hb d_M_firstOf_84 (by decide) ?_
                have hst : fst f time n q (i + 1) = (some i) := by
                  show fStep f time n q (fst f time n q i) i = (some i)
                  rw [hbe]
                  simp [fStep, fBetter, *]
                exact ih (i + 1) (some i) ls locs (by omega) (by omega) hst (lv_sub hl [2, 3, 1, 0] rfl) hS
              · exact absurd rfl c_4
            · have b1 := zb_f c_3
              refine lv_goto (tgt := 81) hx hb d_M_firstOf_30 (by decide) ?_
              refine lv_iinc (v := (nI (i + 1))) (lv' := [(3, .int (nI (i + 1))), (0, .ref (ad 0)), (1, .int q), (2, .int (-1))]) hx hb d_M_firstOf_81 hl (k := 3) rfl (nI_1 i) (by decide) rfl (fun ls hl => ?_)
              refine lv_goto (tgt := 4) hx hb d_M_firstOf_84 (by decide) ?_
              have hst : fst f time n q (i + 1) = (none) := by
                show fStep f time n q (fst f time n q i) i = (none)
                rw [hbe]
                simp [fStep, fBetter, *]
              exact ih (i + 1) (none) ls locs (by omega) (by omega) hst (lv_sub hl [1, 2, 3, 0] rfl) hS
      | some b =>
        have hbi := (fst_lt hbe).1
        have hl : lv_has ls 4 [(0, .ref (ad 0)), (1, .int q), (2, .int (nI b)), (3, .int (nI i))] := hl
        refine lv_iload_n hx hb d_M_firstOf_4 rfl (zl hl rfl) ?_
        refine lv_aload_n hx hb d_M_firstOf_5 rfl (zl hl rfl) ?_
        refine z_get (C := R_M) (T := F_M) (N := 15) (v := .int (nI n)) hx hb hts inT_M hown hK hP (PM_o hM) rfl 2 (by decide) tw_575 (fun _ h => h) rfl d_M_firstOf_6 ?_
        refine lv_icmp_ge (tgt := 87) hx hb d_M_firstOf_9 (by decide) (fun c_1 => ?_) (fun c_1 => ?_)
        · have hin := z_ge hi (by omega) c_1
          refine lv_iload_n hx hb d_M_firstOf_87 rfl (zl hl rfl) ?_
          exact z_iret hx hb hr hlocks hS (by subst hin; rw [hbe]; rfl) d_M_firstOf_88
        · have hlt := z_lt hi (by omega) c_1
          refine lv_aload_n hx hb d_M_firstOf_12 rfl (zl hl rfl) ?_
          refine z_get (C := R_M) (T := F_M) (N := 15) (v := .ref (ad 1)) hx hb hts inT_M hown hK hP (PM_o hM) rfl 4 (by decide) tw_577 (fun _ h => h) rfl d_M_firstOf_13 ?_
          refine lv_iload_n hx hb d_M_firstOf_16 rfl (zl hl rfl) ?_
          refine z_iald hx hb hK hP 0 (PM_1 hM) rfl i rfl (by omega) (by decide) d_M_firstOf_17 ?_
          refine lv_iload_n hx hb d_M_firstOf_18 rfl (zl hl rfl) ?_
          refine lv_icmp_ne (tgt := 81) hx hb d_M_firstOf_19 (by decide) (fun c_2 => ?_) (fun c_2 => ?_)
          · refine lv_iinc (v := (nI (i + 1))) (lv' := [(3, .int (nI (i + 1))), (0, .ref (ad 0)), (1, .int q), (2, .int (nI b))]) hx hb d_M_firstOf_81 hl (k := 3) rfl (nI_1 i) (by decide) rfl (fun ls hl => ?_)
            refine lv_goto (tgt := 4) hx hb d_M_firstOf_84 (by decide) ?_
            have hst : fst f time n q (i + 1) = (some b) := by
              show fStep f time n q (fst f time n q i) i = (some b)
              rw [hbe]
              simp [fStep, fBetter, *]
            exact ih (i + 1) (some b) ls locs (by omega) (by omega) hst (lv_sub hl [1, 2, 3, 0] rfl) hS
          · refine lv_aload_n hx hb d_M_firstOf_22 rfl (zl hl rfl) ?_
            refine lv_iload_n hx hb d_M_firstOf_23 rfl (zl hl rfl) ?_
            refine z_calli (va_runV (As := [.int (nI i)]) (rest := []) ⟨hx, hb, hml, hown, hts⟩ (c_M_mayBeHad l hP hM i hlt hn hg) (cwV 1 hts (tt_V tw_659 tw_656 tw_658 tw_20 tw_36) rfl rfl rfl (by decide +kernel) ⟨Nat.le_of_ble_eq_true rfl, Nat.le_of_ble_eq_true rfl⟩) (zPc_V hKN hP (ci := 4) (q := (R_M, F_M, 15)) rfl (PM_o hM)) rfl rfl hl.1 rfl (lv_room (Nat.le_of_ble_eq_true rfl)) d_M_firstOf_24 ⟨Nat.zero_le _, Nat.zero_le _⟩) hS (fun locs hS => ?_)
            refine lv_if_ne (tgt := 33) hx hb d_M_firstOf_27 (by decide) (fun c_3 => ?_) (fun c_3 => ?_)
            · have b1 := zb_t c_3
              refine lv_iload_n hx hb d_M_firstOf_33 rfl (zl hl rfl) ?_
              refine lv_iconst (v := (-1)) hx hb d_M_firstOf_34 (by decide) ?_
              refine lv_icmp_eq (tgt := 79) hx hb d_M_firstOf_35 (by decide) (fun c_4 => ?_) (fun c_4 => ?_)
              · exact absurd c_4 (nI_m1 (by omega))
              · refine lv_aload_n hx hb d_M_firstOf_38 rfl (zl hl rfl) ?_
                refine lv_iload_n hx hb d_M_firstOf_39 rfl (zl hl rfl) ?_
                refine z_calli (va_runV (As := [.int (nI i)]) (rest := []) ⟨hx, hb, hml, hown, hts⟩ (c_M_weight l hP hM i (by omega) (hq i (by omega)).1 (hq i (by omega)).2) (cwV 1 hts (tt_V tw_667 tw_664 tw_666 tw_22 tw_36) rfl rfl rfl (by decide +kernel) ⟨Nat.le_of_ble_eq_true rfl, Nat.le_of_ble_eq_true rfl⟩) (zPc_V hKN hP (ci := 4) (q := (R_M, F_M, 15)) rfl (PM_o hM)) rfl rfl hl.1 rfl (lv_room (Nat.le_of_ble_eq_true rfl)) d_M_firstOf_40 ⟨Nat.zero_le _, Nat.zero_le _⟩) hS (fun locs hS => ?_)
                refine lv_aload_n hx hb d_M_firstOf_43 rfl (zl hl rfl) ?_
                refine lv_iload_n hx hb d_M_firstOf_44 rfl (zl hl rfl) ?_
                refine z_calli (va_runV (As := [.int (nI b)]) (rest := [.int (wgt f time i)]) ⟨hx, hb, hml, hown, hts⟩ (c_M_weight l hP hM b (by omega) (hq b (by omega)).1 (hq b (by omega)).2) (cwV 1 hts (tt_V tw_667 tw_664 tw_666 tw_22 tw_36) rfl rfl rfl (by decide +kernel) ⟨Nat.le_of_ble_eq_true rfl, Nat.le_of_ble_eq_true rfl⟩) (zPc_V hKN hP (ci := 4) (q := (R_M, F_M, 15)) rfl (PM_o hM)) rfl rfl hl.1 rfl (lv_room (Nat.le_of_ble_eq_true rfl)) d_M_firstOf_45 ⟨Nat.zero_le _, Nat.zero_le _⟩) hS (fun locs hS => ?_)
                refine lv_icmp_gt (tgt := 79) hx hb d_M_firstOf_48 (by decide) (fun c_5 => ?_) (fun c_5 => ?_)
                · refine lv_iload_n hx hb d_M_firstOf_79 rfl (zl hl rfl) ?_
                  refine lv_istore_n (lv' := [(2, .int (nI i)), (0, .ref (ad 0)), (1, .int q), (3, .int (nI i))]) hx hb d_M_firstOf_80 rfl hl (by decide) rfl (fun ls hl => ?_)
                  refine lv_iinc (v := (nI (i + 1))) (lv' := [(3, .int (nI (i + 1))), (2, .int (nI i)), (0, .ref (ad 0)), (1, .int q)]) hx hb d_M_firstOf_81 hl (k := 3) rfl (nI_1 i) (by decide) rfl (fun ls hl => ?_)
                  refine lv_goto (tgt := 4) hx hb d_M_firstOf_84 (by decide) ?_
                  have hst : fst f time n q (i + 1) = (some i) := by
                    show fStep f time n q (fst f time n q i) i = (some i)
                    rw [hbe]
                    simp [fStep, fBetter, *]
                  exact ih (i + 1) (some i) ls locs (by omega) (by omega) hst (lv_sub hl [2, 3, 1, 0] rfl) hS
                · refine lv_aload_n hx hb d_M_firstOf_51 rfl (zl hl rfl) ?_
                  refine lv_iload_n hx hb d_M_firstOf_52 rfl (zl hl rfl) ?_
                  refine z_calli (va_runV (As := [.int (nI i)]) (rest := []) ⟨hx, hb, hml, hown, hts⟩ (c_M_weight l hP hM i (by omega) (hq i (by omega)).1 (hq i (by omega)).2) (cwV 1 hts (tt_V tw_667 tw_664 tw_666 tw_22 tw_36) rfl rfl rfl (by decide +kernel) ⟨Nat.le_of_ble_eq_true rfl, Nat.le_of_ble_eq_true rfl⟩) (zPc_V hKN hP (ci := 4) (q := (R_M, F_M, 15)) rfl (PM_o hM)) rfl rfl hl.1 rfl (lv_room (Nat.le_of_ble_eq_true rfl)) d_M_firstOf_53 ⟨Nat.zero_le _, Nat.zero_le _⟩) hS (fun locs hS => ?_)
                  refine lv_aload_n hx hb d_M_firstOf_56 rfl (zl hl rfl) ?_
                  refine lv_iload_n hx hb d_M_firstOf_57 rfl (zl hl rfl) ?_
                  refine z_calli (va_runV (As := [.int (nI b)]) (rest := [.int (wgt f time i)]) ⟨hx, hb, hml, hown, hts⟩ (c_M_weight l hP hM b (by omega) (hq b (by omega)).1 (hq b (by omega)).2) (cwV 1 hts (tt_V tw_667 tw_664 tw_666 tw_22 tw_36) rfl rfl rfl (by decide +kernel) ⟨Nat.le_of_ble_eq_true rfl, Nat.le_of_ble_eq_true rfl⟩) (zPc_V hKN hP (ci := 4) (q := (R_M, F_M, 15)) rfl (PM_o hM)) rfl rfl hl.1 rfl (lv_room (Nat.le_of_ble_eq_true rfl)) d_M_firstOf_58 ⟨Nat.zero_le _, Nat.zero_le _⟩) hS (fun locs hS => ?_)
                  refine lv_icmp_ne (tgt := 81) hx hb d_M_firstOf_61 (by decide) (fun c_6 => ?_) (fun c_6 => ?_)
                  · refine lv_iinc (v := (nI (i + 1))) (lv' := [(3, .int (nI (i + 1))), (0, .ref (ad 0)), (1, .int q), (2, .int (nI b))]) hx hb d_M_firstOf_81 hl (k := 3) rfl (nI_1 i) (by decide) rfl (fun ls hl => ?_)
                    refine lv_goto (tgt := 4) hx hb d_M_firstOf_84 (by decide) ?_
                    have hst : fst f time n q (i + 1) = (some b) := by
                      show fStep f time n q (fst f time n q i) i = (some b)
                      rw [hbe]
                      simp [fStep, fBetter, *]
                    exact ih (i + 1) (some b) ls locs (by omega) (by omega) hst (lv_sub hl [1, 2, 3, 0] rfl) hS
                  · refine lv_aload_n hx hb d_M_firstOf_64 rfl (zl hl rfl) ?_
                    refine z_get (C := R_M) (T := F_M) (N := 15) (v := .ref (ad 7)) hx hb hts inT_M hown hK hP (PM_o hM) rfl 10 (by decide) tw_583 (fun _ h => h) rfl d_M_firstOf_65 ?_
                    refine lv_iload_n hx hb d_M_firstOf_68 rfl (zl hl rfl) ?_
                    refine z_iald hx hb hK hP 0 (PM_7 hM) rfl i rfl (by omega) (by decide) d_M_firstOf_69 ?_
                    refine lv_aload_n hx hb d_M_firstOf_70 rfl (zl hl rfl) ?_
                    refine z_get (C := R_M) (T := F_M) (N := 15) (v := .ref (ad 7)) hx hb hts inT_M hown hK hP (PM_o hM) rfl 10 (by decide) tw_583 (fun _ h => h) rfl d_M_firstOf_71 ?_
                    refine lv_iload_n hx hb d_M_firstOf_74 rfl (zl hl rfl) ?_
                    refine z_iald hx hb hK hP 0 (PM_7 hM) rfl b rfl (by omega) (by decide) d_M_firstOf_75 ?_
                    refine lv_icmp_ge (tgt := 81) hx hb d_M_firstOf_76 (by decide) (fun c_7 => ?_) (fun c_7 => ?_)
                    · have b4 := zle_nlt c_7
                      refine lv_iinc (v := (nI (i + 1))) (lv' := [(3, .int (nI (i + 1))), (0, .ref (ad 0)), (1, .int q), (2, .int (nI b))]) hx hb d_M_firstOf_81 hl (k := 3) rfl (nI_1 i) (by decide) rfl (fun ls hl => ?_)
                      refine lv_goto (tgt := 4) hx hb d_M_firstOf_84 (by decide) ?_
                      have hst : fst f time n q (i + 1) = (some b) := by
                        show fStep f time n q (fst f time n q i) i = (some b)
                        rw [hbe]
                        simp [fStep, fBetter, *]
                      exact ih (i + 1) (some b) ls locs (by omega) (by omega) hst (lv_sub hl [1, 2, 3, 0] rfl) hS
                    · have b4 := znle_lt c_7
                      refine lv_iload_n hx hb d_M_firstOf_79 rfl (zl hl rfl) ?_
                      refine lv_istore_n (lv' := [(2, .int (nI i)), (0, .ref (ad 0)), (1, .int q), (3, .int (nI i))]) hx hb d_M_firstOf_80 rfl hl (by decide) rfl (fun ls hl => ?_)
                      refine lv_iinc (v := (nI (i + 1))) (lv' := [(3, .int (nI (i + 1))), (2, .int (nI i)), (0, .ref (ad 0)), (1, .int q)]) hx hb d_M_firstOf_81 hl (k := 3) rfl (nI_1 i) (by decide) rfl (fun ls hl => ?_)
                      refine lv_goto (tgt := 4) hx hb d_M_firstOf_84 (by decide) ?_
                      have hst : fst f time n q (i + 1) = (some i) := by
                        show fStep f time n q (fst f time n q i) i = (some i)
                        rw [hbe]
                        simp [fStep, fBetter, *]
                      exact ih (i + 1) (some i) ls locs (by omega) (by omega) hst (lv_sub hl [2, 3, 1, 0] rfl) hS
            · have b1 := zb_f c_3
              refine lv_goto (tgt := 81) hx hb d_M_firstOf_30 (by decide) ?_
              refine lv_iinc (v := (nI (i + 1))) (lv' := [(3, .int (nI (i + 1))), (0, .ref (ad 0)), (1, .int q), (2, .int (nI b))]) hx hb d_M_firstOf_81 hl (k := 3) rfl (nI_1 i) (by decide) rfl (fun ls hl => ?_)
              refine lv_goto (tgt := 4) hx hb d_M_firstOf_84 (by decide) ?_
              have hst : fst f time n q (i + 1) = (some b) := by
                show fStep f time n q (fst f time n q i) i = (some b)
                rw [hbe]
                simp [fStep, fBetter, *]
              exact ih (i + 1) (some b) ls locs (by omega) (by omega) hst (lv_sub hl [1, 2, 3, 0] rfl) hS
  have hl : lv_has ls 4 [(0, .ref (ad 0)), (1, .int q)] := hl
  refine lv_iconst (v := (-1)) hx hb d_M_firstOf_0 (by decide) ?_
  refine lv_istore_n (lv' := [(2, .int (-1)), (0, .ref (ad 0)), (1, .int q)]) hx hb d_M_firstOf_1 rfl hl (by decide) rfl (fun ls hl => ?_)
  refine lv_iconst (v := 0) hx hb d_M_firstOf_2 (by decide) ?_
  refine lv_istore_n (lv' := [(3, .int 0), (2, .int (-1)), (0, .ref (ad 0)), (1, .int q)]) hx hb d_M_firstOf_3 rfl hl (by decide) rfl (fun ls hl => ?_)
  exact key (n + 1) 0 none ls [] (Nat.zero_le _) (by omega) rfl (lv_sub hl [2, 3, 1, 0] rfl) hS
set_option maxHeartbeats 4000000 in
set_option maxRecDepth 100000 in
theorem c_M_lentWith (l : Launch) {D : va_G} {ws : va_W} {H : Heap} (hP : va_P D vwCl ws H) {kk : Nat → ClassId} {ad : Nat → Nat} {thr time tok : Int32} {n : Nat} {f : Nat → Nat → Int32} {ky : Nat → Int64} (hM : PM kk ad thr time n tok f ky ws) (v : Int32) (hn : n ≤ 400) : Met l y_M_lentWith (Cond.code y_M_lentWith b_M_lentWith 3 (some .int) :: TT) ({ frames := 1, cells := 0, slots := 0, locals := 60 }) (zPc [.ref (ad 0), .int v] H D vwCl (TY kk)) (zQi (oI (fnd (pTok f v) 0 n)) H) 0 0 (fun _ => False) := by
  refine z_body (by decide) (Nat.le_of_ble_eq_true rfl) ?_
  intro p e s m below meth c ls C0 hH hKN hl
  obtain ⟨hx, hb, hr, hts, hown, hlocks, hml⟩ := C0
  subst hH
  have hK := hKN.1
  have hN := hKN.2
  have hS : va_S (fun _ => False) s.heap s.heap [] := va_S.rf
  have key : ∀ (r i : Nat) (ls : Array Slot) (locs : List Loc), i ≤ n → n + 1 ≤ i + r → (∀ k, k < i → pTok f v k = false) → lv_has ls 3 [(0, .ref (ad 0)), (1, .int v), (2, .int (nI i))] → va_S (fun _ => False) s.heap s.heap locs → W p l e ({ frames := 1, cells := 0, slots := 0, locals := 60 }) s m ([.ref (ad 0), .int v] : List Value).toArray below meth c s.heap locs 0 0 (MQ below (zQi (oI (fnd (pTok f v) 0 n)) s.heap) ([.ref (ad 0), .int v] : List Value).toArray s 0 0 (fun _ => False)) (F0 m 2 ls []) := by
    intro r
    induction r with
    | zero => intro i ls locs h1 h2; omega
    | succ r ih =>
      intro i ls locs hi hir hno hl hS
      refine lv_iload_n hx hb d_M_lentWith_2 rfl (zl hl rfl) ?_
      refine lv_aload_n hx hb d_M_lentWith_3 rfl (zl hl rfl) ?_
      refine z_get (C := R_M) (T := F_M) (N := 15) (v := .int (nI n)) hx hb hts inT_M hown hK hP (PM_o hM) rfl 2 (by decide) tw_575 (fun _ h => h) rfl d_M_lentWith_4 ?_
      refine lv_icmp_ge (tgt := 38) hx hb d_M_lentWith_7 (by decide) (fun c_1 => ?_) (fun c_1 => ?_)
      · have hin := z_ge hi (by omega) c_1
        refine lv_iconst (v := (-1)) hx hb d_M_lentWith_38 (by decide) ?_
        exact z_iret hx hb hr hlocks hS (by rw [fnd_no n 0 (fun j _ hj => hno j (by omega))]; rfl) d_M_lentWith_39
      · have hlt := z_lt hi (by omega) c_1
        refine lv_aload_n hx hb d_M_lentWith_10 rfl (zl hl rfl) ?_
        refine z_get (C := R_M) (T := F_M) (N := 15) (v := .ref (ad 6)) hx hb hts inT_M hown hK hP (PM_o hM) rfl 9 (by decide) tw_582 (fun _ h => h) rfl d_M_lentWith_11 ?_
        refine lv_iload_n hx hb d_M_lentWith_14 rfl (zl hl rfl) ?_
        refine z_iald hx hb hK hP 0 (PM_6 hM) rfl i rfl (by omega) (by decide) d_M_lentWith_15 ?_
        refine lv_iconst (v := 1) hx hb d_M_lentWith_16 (by decide) ?_
        refine lv_icmp_ne (tgt := 32) hx hb d_M_lentWith_17 (by decide) (fun c_2 => ?_) (fun c_2 => ?_)
        · refine lv_iinc (v := (nI (i + 1))) (lv' := [(2, .int (nI (i + 1))), (0, .ref (ad 0)), (1, .int v)]) hx hb d_M_lentWith_32 hl (k := 2) rfl (nI_1 i) (by decide) rfl (fun ls hl => ?_)
          refine lv_goto (tgt := 2) hx hb d_M_lentWith_35 (by decide) ?_
          exact ih (i + 1) ls locs (by omega) (by omega) (lt_s hno (by simp [pTok, *])) (lv_sub hl [1, 2, 0] rfl) hS
        · refine lv_aload_n hx hb d_M_lentWith_20 rfl (zl hl rfl) ?_
          refine z_get (C := R_M) (T := F_M) (N := 15) (v := .ref (ad 9)) hx hb hts inT_M hown hK hP (PM_o hM) rfl 12 (by decide) tw_585 (fun _ h => h) rfl d_M_lentWith_21 ?_
          refine lv_iload_n hx hb d_M_lentWith_24 rfl (zl hl rfl) ?_
          refine z_iald hx hb hK hP 0 (PM_9 hM) rfl i rfl (by omega) (by decide) d_M_lentWith_25 ?_
          refine lv_iload_n hx hb d_M_lentWith_26 rfl (zl hl rfl) ?_
          refine lv_icmp_ne (tgt := 32) hx hb d_M_lentWith_27 (by decide) (fun c_3 => ?_) (fun c_3 => ?_)
          · refine lv_iinc (v := (nI (i + 1))) (lv' := [(2, .int (nI (i + 1))), (0, .ref (ad 0)), (1, .int v)]) hx hb d_M_lentWith_32 hl (k := 2) rfl (nI_1 i) (by decide) rfl (fun ls hl => ?_)
            refine lv_goto (tgt := 2) hx hb d_M_lentWith_35 (by decide) ?_
            exact ih (i + 1) ls locs (by omega) (by omega) (lt_s hno (by simp [pTok, *])) (lv_sub hl [1, 2, 0] rfl) hS
          · refine lv_iload_n hx hb d_M_lentWith_30 rfl (zl hl rfl) ?_
            exact z_iret hx hb hr hlocks hS (by rw [fnd_at n 0 i (Nat.zero_le _) (by omega) (fun j _ hj => hno j hj) (by simp [pTok, *])]; rfl) d_M_lentWith_31
  have hl : lv_has ls 3 [(0, .ref (ad 0)), (1, .int v)] := hl
  refine lv_iconst (v := 0) hx hb d_M_lentWith_0 (by decide) ?_
  refine lv_istore_n (lv' := [(2, .int 0), (0, .ref (ad 0)), (1, .int v)]) hx hb d_M_lentWith_1 rfl hl (by decide) rfl (fun ls hl => ?_)
  exact key (n + 1) 0 ls [] (Nat.zero_le _) (by omega) lt_0 (lv_sub hl [1, 2, 0] rfl) hS
set_option maxHeartbeats 4000000 in
set_option maxRecDepth 100000 in
theorem c_M_found (l : Launch) {D : va_G} {ws : va_W} {H : Heap} (hP : va_P D vwCl ws H) {kk : Nat → ClassId} {ad : Nat → Nat} {thr time tok : Int32} {n : Nat} {f : Nat → Nat → Int32} {ky : Nat → Int64} (hM : PM kk ad thr time n tok f ky ws) (qi : Nat) (hqi : qi < 4) (k : Int64) (hn : n ≤ 400) : Met l y_M_found (Cond.code y_M_found b_M_found 5 (some .int) :: TT) ({ frames := 2, cells := 0, slots := 0, locals := 120 }) (zPc [.ref (ad 0), .int (nI qi), .long k] H D vwCl (TY kk)) (zQi (oI (lstD (pKey f ky time qi k) n)) H) 0 0 (fun _ => False) := by
  refine z_body (by decide) (Nat.le_of_ble_eq_true rfl) ?_
  intro p e s m below meth c ls C0 hH hKN hl
  obtain ⟨hx, hb, hr, hts, hown, hlocks, hml⟩ := C0
  subst hH
  have hK := hKN.1
  have hN := hKN.2
  have hS : va_S (fun _ => False) s.heap s.heap [] := va_S.rf
  have key : ∀ (i : Nat) (ls : Array Slot) (locs : List Loc), i ≤ n → lstD (pKey f ky time qi k) n = lstD (pKey f ky time qi k) i → lv_has ls 5 [(0, .ref (ad 0)), (1, .int (nI qi)), (2, .long k), (4, .int (pr i))] → va_S (fun _ => False) s.heap s.heap locs → W p l e ({ frames := 2, cells := 0, slots := 0, locals := 120 }) s m ([.ref (ad 0), .int (nI qi), .long k] : List Value).toArray below meth c s.heap locs 0 0 (MQ below (zQi (oI (lstD (pKey f ky time qi k) n)) s.heap) ([.ref (ad 0), .int (nI qi), .long k] : List Value).toArray s 0 0 (fun _ => False)) (F0 m 8 ls []) := by
    intro i
    induction i with
    | zero =>
      intro ls locs hi hst hl hS
      have hl : lv_has ls 5 [(0, .ref (ad 0)), (1, .int (nI qi)), (2, .long k), (4, .int (-1))] := hl
      refine lv_iload hx hb d_M_found_8 (zl hl rfl) ?_
      refine lv_if_lt (tgt := 100) hx hb d_M_found_10 (by decide) (fun c_1 => ?_) (fun c_1 => ?_)
      · refine lv_iconst (v := (-1)) hx hb d_M_found_100 (by decide) ?_
        exact z_iret hx hb hr hlocks hS (by rw [hst]; rfl) d_M_found_101
      · exact absurd (by decide) c_1
    | succ j ih =>
      intro ls locs hi hst hl hS
      have hl : lv_has ls 5 [(0, .ref (ad 0)), (1, .int (nI qi)), (2, .long k), (4, .int (nI j))] := hl
      refine lv_iload hx hb d_M_found_8 (zl hl rfl) ?_
      refine lv_if_lt (tgt := 100) hx hb d_M_found_10 (by decide) (fun c_1 => ?_) (fun c_1 => ?_)
      · exact absurd c_1 (nI_pos (by omega))
      · refine lv_aload_n hx hb d_M_found_13 rfl (zl hl rfl) ?_
        refine z_get (C := R_M) (T := F_M) (N := 15) (v := .ref (ad 1)) hx hb hts inT_M hown hK hP (PM_o hM) rfl 4 (by decide) tw_577 (fun _ h => h) rfl d_M_found_14 ?_
        refine lv_iload hx hb d_M_found_17 (zl hl rfl) ?_
        refine z_iald hx hb hK hP 0 (PM_1 hM) rfl j rfl (by omega) (by decide) d_M_found_19 ?_
        refine lv_iload_n hx hb d_M_found_20 rfl (zl hl rfl) ?_
        refine lv_icmp_ne (tgt := 94) hx hb d_M_found_21 (by decide) (fun c_2 => ?_) (fun c_2 => ?_)
        · refine lv_iinc (v := (pr j)) (lv' := [(4, .int (pr j)), (0, .ref (ad 0)), (1, .int (nI qi)), (2, .long k)]) hx hb d_M_found_94 hl (k := 3) rfl (pr_dec j) (by decide) rfl (fun ls hl => ?_)
          refine lv_goto (tgt := 8) hx hb d_M_found_97 (by decide) ?_
          exact ih ls locs (by omega) (by rw [hst]; exact lstD_f (by first | (simp [pKey, *]; done) | (simp [pKey, sLive, *]; done))) (lv_sub hl [1, 2, 3, 0] rfl) hS
        · refine lv_aload_n hx hb d_M_found_24 rfl (zl hl rfl) ?_
          refine z_get (C := R_M) (T := F_M) (N := 15) (v := .ref (ad 4)) hx hb hts inT_M hown hK hP (PM_o hM) rfl 7 (by decide) tw_580 (fun _ h => h) rfl d_M_found_25 ?_
          refine lv_iload hx hb d_M_found_28 (zl hl rfl) ?_
          refine z_lald hx hb hK hP 1 (PM_4 hM) rfl j rfl (by omega) (by decide) d_M_found_30 ?_
          refine lv_lload_n hx hb d_M_found_31 rfl (zl hl rfl) ?_
          refine W.lcmp hx hb d_M_found_32 ?_
          refine lv_if_ne (tgt := 94) hx hb d_M_found_33 (by decide) (fun c_3 => ?_) (fun c_3 => ?_)
          · have b2 : ¬ ky j = k := fun z => c_3 (lgc.mpr z)
            refine lv_iinc (v := (pr j)) (lv' := [(4, .int (pr j)), (0, .ref (ad 0)), (1, .int (nI qi)), (2, .long k)]) hx hb d_M_found_94 hl (k := 3) rfl (pr_dec j) (by decide) rfl (fun ls hl => ?_)
            refine lv_goto (tgt := 8) hx hb d_M_found_97 (by decide) ?_
            exact ih ls locs (by omega) (by rw [hst]; exact lstD_f (by first | (simp [pKey, *]; done) | (simp [pKey, sLive, *]; done))) (lv_sub hl [1, 2, 3, 0] rfl) hS
          · have b2 : ky j = k := lgc.mp c_3
            refine lv_lload_n hx hb d_M_found_36 rfl (zl hl rfl) ?_
            refine lv_lconst (v := 0) hx hb d_M_found_37 (by decide) ?_
            refine W.lcmp hx hb d_M_found_38 ?_
            refine lv_if_ne (tgt := 45) hx hb d_M_found_39 (by decide) (fun c_4 => ?_) (fun c_4 => ?_)
            · have b3 : ¬ k = 0 := fun z => c_4 (lgc.mpr z)
              refine lv_aload_n hx hb d_M_found_45 rfl (zl hl rfl) ?_
              refine lv_iload hx hb d_M_found_46 (zl hl rfl) ?_
              refine z_calli (va_runV (As := [.int (nI j)]) (rest := []) ⟨hx, hb, hml, hown, hts⟩ (c_M_isLive l hP hM j (by omega)) (cwV 1 hts (tt_V tw_643 tw_640 tw_642 tw_17 tw_36) rfl rfl rfl (by decide +kernel) ⟨Nat.le_of_ble_eq_true rfl, Nat.le_of_ble_eq_true rfl⟩) (zPc_V hKN hP (ci := 4) (q := (R_M, F_M, 15)) rfl (PM_o hM)) rfl rfl hl.1 rfl (lv_room (Nat.le_of_ble_eq_true rfl)) d_M_found_48 ⟨Nat.zero_le _, Nat.zero_le _⟩) hS (fun locs hS => ?_)
              refine lv_if_ne (tgt := 91) hx hb d_M_found_51 (by decide) (fun c_5 => ?_) (fun c_5 => ?_)
              · have b4 := zb_t c_5
                refine lv_iload hx hb d_M_found_91 (zl hl rfl) ?_
                exact z_iret hx hb hr hlocks hS (by rw [hst, lstD_t (by first | (simp [pKey, *]; done) | (simp [pKey, sLive, *]; done))]; rfl) d_M_found_93
              · have b4 := zb_f c_5
                refine lv_aload_n hx hb d_M_found_54 rfl (zl hl rfl) ?_
                refine z_get (C := R_M) (T := F_M) (N := 15) (v := .ref (ad 6)) hx hb hts inT_M hown hK hP (PM_o hM) rfl 9 (by decide) tw_582 (fun _ h => h) rfl d_M_found_55 ?_
                refine lv_iload hx hb d_M_found_58 (zl hl rfl) ?_
                refine z_iald hx hb hK hP 0 (PM_6 hM) rfl j rfl (by omega) (by decide) d_M_found_60 ?_
                refine lv_iconst (v := 2) hx hb d_M_found_61 (by decide) ?_
                refine lv_icmp_ne (tgt := 94) hx hb d_M_found_62 (by decide) (fun c_6 => ?_) (fun c_6 => ?_)
                · refine lv_iinc (v := (pr j)) (lv' := [(4, .int (pr j)), (0, .ref (ad 0)), (1, .int (nI qi)), (2, .long k)]) hx hb d_M_found_94 hl (k := 3) rfl (pr_dec j) (by decide) rfl (fun ls hl => ?_)
                  refine lv_goto (tgt := 8) hx hb d_M_found_97 (by decide) ?_
                  exact ih ls locs (by omega) (by rw [hst]; exact lstD_f (by first | (simp [pKey, *]; done) | (simp [pKey, sLive, *]; done))) (lv_sub hl [1, 2, 3, 0] rfl) hS
                · refine lv_aload_n hx hb d_M_found_65 rfl (zl hl rfl) ?_
                  refine z_get (C := R_M) (T := F_M) (N := 15) (v := .int time) hx hb hts inT_M hown hK hP (PM_o hM) rfl 1 (by decide) tw_574 (fun _ h => h) rfl d_M_found_66 ?_
                  refine lv_aload_n hx hb d_M_found_69 rfl (zl hl rfl) ?_
                  refine z_get (C := R_M) (T := F_M) (N := 15) (v := .ref (ad 7)) hx hb hts inT_M hown hK hP (PM_o hM) rfl 10 (by decide) tw_583 (fun _ h => h) rfl d_M_found_70 ?_
                  refine lv_iload hx hb d_M_found_73 (zl hl rfl) ?_
                  refine z_iald hx hb hK hP 0 (PM_7 hM) rfl j rfl (by omega) (by decide) d_M_found_75 ?_
                  refine lv_isub hx hb d_M_found_76 ?_
                  refine lv_aload_n hx hb d_M_found_77 rfl (zl hl rfl) ?_
                  refine z_get (C := R_M) (T := F_M) (N := 15) (v := .ref (ad 10)) hx hb hts inT_M hown hK hP (PM_o hM) rfl 13 (by decide) tw_586 (fun _ h => h) rfl d_M_found_78 ?_
                  refine lv_bipush (v := 6) hx hb d_M_found_81 (by decide) ?_
                  refine lv_iload_n hx hb d_M_found_83 rfl (zl hl rfl) ?_
                  refine lv_imul hx hb d_M_found_84 ?_
                  refine lv_iconst (v := 5) hx hb d_M_found_85 (by decide) ?_
                  refine lv_iadd hx hb d_M_found_86 ?_
                  refine z_iald hx hb hK hP 0 (PM_10 hM) rfl (6 * qi + 5) (z_idx qi 5) (by omega) (by decide) d_M_found_87 ?_
                  refine lv_icmp_gt (tgt := 94) hx hb d_M_found_88 (by decide) (fun c_7 => ?_) (fun c_7 => ?_)
                  · have b5 := zlt_nle c_7
                    refine lv_iinc (v := (pr j)) (lv' := [(4, .int (pr j)), (0, .ref (ad 0)), (1, .int (nI qi)), (2, .long k)]) hx hb d_M_found_94 hl (k := 3) rfl (pr_dec j) (by decide) rfl (fun ls hl => ?_)
                    refine lv_goto (tgt := 8) hx hb d_M_found_97 (by decide) ?_
                    exact ih ls locs (by omega) (by rw [hst]; exact lstD_f (by first | (simp [pKey, *]; done) | (simp [pKey, sLive, *]; done))) (lv_sub hl [1, 2, 3, 0] rfl) hS
                  · have b5 := znlt_le c_7
                    refine lv_iload hx hb d_M_found_91 (zl hl rfl) ?_
                    exact z_iret hx hb hr hlocks hS (by rw [hst, lstD_t (by first | (simp [pKey, *]; done) | (simp [pKey, sLive, *]; done))]; rfl) d_M_found_93
            · have b3 : k = 0 := lgc.mp c_4
              refine lv_goto (tgt := 94) hx hb d_M_found_42 (by decide) ?_
              refine lv_iinc (v := (pr j)) (lv' := [(4, .int (pr j)), (0, .ref (ad 0)), (1, .int (nI qi)), (2, .long k)]) hx hb d_M_found_94 hl (k := 3) rfl (pr_dec j) (by decide) rfl (fun ls hl => ?_)
              refine lv_goto (tgt := 8) hx hb d_M_found_97 (by decide) ?_
              exact ih ls locs (by omega) (by rw [hst]; exact lstD_f (by first | (simp [pKey, *]; done) | (simp [pKey, sLive, *]; done))) (lv_sub hl [1, 2, 3, 0] rfl) hS
  have hl : lv_has ls 5 [(0, .ref (ad 0)), (1, .int (nI qi)), (2, .long k)] := hl
  refine lv_aload_n hx hb d_M_found_0 rfl (zl hl rfl) ?_
  refine z_get (C := R_M) (T := F_M) (N := 15) (v := .int (nI n)) hx hb hts inT_M hown hK hP (PM_o hM) rfl 2 (by decide) tw_575 (fun _ h => h) rfl d_M_found_1 ?_
  refine lv_iconst (v := 1) hx hb d_M_found_4 (by decide) ?_
  refine lv_isub hx hb d_M_found_5 ?_
  refine z_top (pr_sub n) ?_
  refine lv_istore (lv' := [(4, .int (pr n)), (0, .ref (ad 0)), (1, .int (nI qi)), (2, .long k)]) hx hb d_M_found_6 hl (by decide) rfl (fun ls hl => ?_)
  exact key n ls [] (Nat.le_refl _) rfl (lv_sub hl [1, 2, 3, 0] rfl) hS
end
section
def tx (t : Int32) : Nat := t.toNatClampNeg
theorem tx_nI {k : Nat} (h : k < 2 ^ 31) : tx (nI k) = k := nI_clamp h
theorem sWithin_nI {x : Int32} {h : Nat} (hh : h < 2 ^ 31) (hw : sWithin x 0 (nI h) = true) : ∃ a : Nat, a ≤ h ∧ x = nI a := by
  simp only [sWithin, Bool.and_eq_true, decide_eq_true_eq] at hw
  obtain ⟨j, hj, rfl⟩ := nI_of (x := x) (Int32.not_lt.mpr hw.1)
  exact ⟨j, (nI_leI hj hh).mp hw.2, rfl⟩
abbrev FF : Type := Nat → Nat → Int32
def w1 (f : FF) (j t : Nat) (v : Int32) : FF := va_up f j (upd (f j) t v)
def mBeat (f : FF) (time : Int32) (o : Option Nat) : FF := match o with
  | none => f
  | some t => w1 f 7 t (time + f 10 (6 * qx f t))
def cCan (f : FF) (n : Nat) (t : Int32) : Bool := sTask t n && sLive (f 6 (tx t))
def mCan (f : FF) (n : Nat) (t : Int32) : FF := if cCan f n t = true then w1 f 6 (tx t) 4 else f
def cRev (f : FF) (n : Nat) (t : Int32) : Bool := sTask t n && decide (f 6 (tx t) = 3) && !decide (nI (cnt (pLive f) n) = 64)
def mRev (f : FF) (n : Nat) (time t : Int32) : FF := if cRev f n t = true then w1 (w1 (w1 f 6 (tx t) 0) 7 (tx t) time) 5 (tx t) 0 else f
def cSet (what which v : Int32) : Bool := sWithin what 0 6 && sWithin which 0 (if 6 ≤ what then 7 else 3) && sWithin v (sLeast what) (sGreat what)
def mSet (f : FF) (what which v : Int32) : FF := if cSet what which v = true then (if 6 ≤ what then w1 f 11 (tx which) v else w1 f 10 (6 * tx which + tx what) v) else f
def nxs (f : FF) (time : Int32) : Nat → Int32
  | 0 => -1
  | k + 1 => if (sLive (f 6 k) && decide (time < f 7 k) && (decide (nxs f time k = -1) || decide (f 7 k < nxs f time k))) = true then f 7 k else nxs f time k
def cTask (n : Nat) (t what : Int32) : Bool := sTask t n && sWithin what 0 6
def mTask (f : FF) (time : Int32) (n : Nat) (t what : Int32) : Int32 := if cTask n t what = true then
    (if what = 0 then f 6 (tx t) else if what = 1 then f 5 (tx t) else if what = 2 then (if f 6 (tx t) = 0 then f 7 (tx t) else -1) else if what = 3 then (if f 6 (tx t) = 1 then f 7 (tx t) else -1)
      else if what = 4 then (if f 6 (tx t) = 1 then f 8 (tx t) else -1) else if what = 5 then (if f 6 (tx t) = 1 then f 9 (tx t) else -1) else if f 6 (tx t) = 0 ∧ f 7 (tx t) ≤ time then wgt f time (tx t) else -1) else 0
def mCount (f : FF) (time : Int32) (n : Nat) (what : Int32) : Int32 := if sWithin what 5 12 = true then nI (cnt (pTo f (what - 5)) n) else if sWithin what 13 20 = true then nI (cnt (pLent f (what - 13)) n) else if sWithin what 21 24 = true then nI (cnt (pWq f (what - 21)) n)
  else if what = 0 then time else if what = 1 then nI n else if what = 2 then nI (cnt (pLive f) n) else if what = 3 then nI (cnt (pSt f 1) n) else if what = 4 then nI (cnt (pSt f 3) n) else -1
def mFirst (f : FF) (time : Int32) (n : Nat) (q : Int32) : Int32 := if sWithin q 0 3 = true then oI (fst f time n q n) else -1
set_option maxHeartbeats 4000000 in
set_option maxRecDepth 100000 in
theorem c_M_raise (l : Launch) {D : va_G} {ws : va_W} {H : Heap} (hP : va_P D vwCl ws H) {kk : Nat → ClassId} {ad : Nat → Nat} {thr time tok : Int32} {n : Nat} {f : Nat → Nat → Int32} {ky : Nat → Int64} (hM : PM kk ad thr time n tok f ky ws)  {B : Nat} (hD : va_D (fun q => B ≤ q) ws) (v : Int32) : Met l y_M_raise (Cond.code y_M_raise b_M_raise 2 (some .int) :: TT) ({ frames := 1, cells := 0, slots := 0, locals := 60 }) (zPc [.ref (ad 0), .int v] H D vwCl (TY kk)) (zR D vwCl B (some (.int 0)) (fun ws' => PM kk ad v time n tok f ky ws' ∧ zfrM ws ws')) 0 0 (fun q => B ≤ q) := by
  refine z_body (by decide) (Nat.le_of_ble_eq_true rfl) ?_
  intro p e s m below meth c ls C0 hH hKN hl
  obtain ⟨hx, hb, hr, hts, hown, hlocks, hml⟩ := C0
  subst hH
  have hK := hKN.1
  have hN := hKN.2
  have hS : va_S (fun q => B ≤ q) s.heap s.heap [] := va_S.rf
  have hF : zfrM ws ws := zfrM_rf
  have hl : lv_has ls 2 [(0, .ref (ad 0)), (1, .int v)] := hl
  refine lv_aload_n hx hb d_M_raise_0 rfl (zl hl rfl) ?_
  refine lv_iload_n hx hb d_M_raise_1 rfl (zl hl rfl) ?_
  have hD0 := hD
  refine z_put (C := R_M) (T := F_M) (N := 15) (v := .int v) hx hb hts inT_M ft_M ft_M_ok fn_M hown hK hP hD hS (PM_o hM) rfl 0 (by decide) tw_573 (fun _ h => h) rfl rfl rfl (by simp) d_M_raise_2 (fun ws H locs hP hD hS u_1 => ?_)
  have hF := zfrM_tr hF (zfrM_up hD0 (PM_o hM) rfl u_1)
  have hM := PM_wo (thr' := v) (time' := time) (n' := n) (tok' := tok) hM u_1
  refine lv_iconst (v := 0) hx hb d_M_raise_5 (by decide) ?_
  exact z_iretR hx hb hr hlocks hP hD hS (rfl) (⟨hM, hF⟩) d_M_raise_6
set_option maxHeartbeats 4000000 in
set_option maxRecDepth 100000 in
theorem c_M_beat (l : Launch) {D : va_G} {ws : va_W} {H : Heap} (hP : va_P D vwCl ws H) {kk : Nat → ClassId} {ad : Nat → Nat} {thr time tok : Int32} {n : Nat} {f : Nat → Nat → Int32} {ky : Nat → Int64} (hM : PM kk ad thr time n tok f ky ws)  {B : Nat} (hD : va_D (fun q => B ≤ q) ws) (v : Int32) (hn : n ≤ 400) (hq : okq f n) : Met l y_M_beat (Cond.code y_M_beat b_M_beat 3 (some .boolean) :: TT) ({ frames := 2, cells := 0, slots := 0, locals := 120 }) (zPc [.ref (ad 0), .int v] H D vwCl (TY kk)) (zR D vwCl B (some (.int (zb (fnd (pTok f v) 0 n).isSome))) (fun ws' => PM kk ad 0 time n tok (mBeat f time (fnd (pTok f v) 0 n)) ky ws' ∧ zfrM ws ws')) 0 0 (fun q => B ≤ q) := by
  refine z_body (by decide) (Nat.le_of_ble_eq_true rfl) ?_
  intro p e s m below meth c ls C0 hH hKN hl
  obtain ⟨hx, hb, hr, hts, hown, hlocks, hml⟩ := C0
  subst hH
  have hK := hKN.1
  have hN := hKN.2
  have hS : va_S (fun q => B ≤ q) s.heap s.heap [] := va_S.rf
  have hF : zfrM ws ws := zfrM_rf
  have hl : lv_has ls 3 [(0, .ref (ad 0)), (1, .int v)] := hl
  refine lv_aload_n hx hb d_M_beat_0 rfl (zl hl rfl) ?_
  refine lv_iconst (v := 0) hx hb d_M_beat_1 (by decide) ?_
  have hD0 := hD
  refine z_put (C := R_M) (T := F_M) (N := 15) (v := .int 0) hx hb hts inT_M ft_M ft_M_ok fn_M hown hK hP hD hS (PM_o hM) rfl 0 (by decide) tw_573 (fun _ h => h) rfl rfl rfl (by simp) d_M_beat_2 (fun ws H locs hP hD hS u_1 => ?_)
  have hF := zfrM_tr hF (zfrM_up hD0 (PM_o hM) rfl u_1)
  have hM := PM_wo (thr' := 0) (time' := time) (n' := n) (tok' := tok) hM u_1
  refine lv_aload_n hx hb d_M_beat_5 rfl (zl hl rfl) ?_
  refine lv_iload_n hx hb d_M_beat_6 rfl (zl hl rfl) ?_
  refine z_calli (va_runV (As := [.int v]) (rest := []) ⟨hx, hb, hml, hown, hts⟩ (c_M_lentWith l hP hM v hn) (cwV 1 hts (tt_V tw_679 tw_676 tw_678 tw_24 tw_36) rfl rfl rfl (by decide +kernel) ⟨Nat.le_of_ble_eq_true rfl, Nat.le_of_ble_eq_true rfl⟩) (zPc_V hKN hP (ci := 4) (q := (R_M, F_M, 15)) rfl (PM_o hM)) rfl rfl hl.1 rfl (lv_room (Nat.le_of_ble_eq_true rfl)) d_M_beat_7 ⟨Nat.zero_le _, Nat.zero_le _⟩) hS (fun locs hS => ?_)
  rcases ho : fnd (pTok f v) 0 n with _ | t
  · have hm1 : True := trivial
    refine lv_istore_n (lv' := [(2, .int (-1)), (0, .ref (ad 0)), (1, .int v)]) hx hb d_M_beat_10 rfl hl (by decide) rfl (fun ls hl => ?_)
    refine lv_iload_n hx hb d_M_beat_11 rfl (zl hl rfl) ?_
    refine lv_iconst (v := (-1)) hx hb d_M_beat_12 (by decide) ?_
    refine lv_icmp_ne (tgt := 18) hx hb d_M_beat_13 (by decide) (fun c_2 => ?_) (fun c_2 => ?_)
    · exact absurd rfl c_2
    · refine lv_iconst (v := 0) hx hb d_M_beat_16 (by decide) ?_
      exact z_zretR hx hb hr hlocks hP hD hS (rfl) (⟨hM, hF⟩) d_M_beat_17
  · have hto := fnd_some ho
    refine lv_istore_n (lv' := [(2, .int (nI t)), (0, .ref (ad 0)), (1, .int v)]) hx hb d_M_beat_10 rfl hl (by decide) rfl (fun ls hl => ?_)
    refine lv_iload_n hx hb d_M_beat_11 rfl (zl hl rfl) ?_
    refine lv_iconst (v := (-1)) hx hb d_M_beat_12 (by decide) ?_
    refine lv_icmp_ne (tgt := 18) hx hb d_M_beat_13 (by decide) (fun c_3 => ?_) (fun c_3 => ?_)
    · refine lv_aload_n hx hb d_M_beat_18 rfl (zl hl rfl) ?_
      refine z_get (C := R_M) (T := F_M) (N := 15) (v := .ref (ad 7)) hx hb hts inT_M hown hK hP (PM_o hM) rfl 10 (by decide) tw_583 (fun _ h => h) rfl d_M_beat_19 ?_
      refine lv_iload_n hx hb d_M_beat_22 rfl (zl hl rfl) ?_
      refine lv_aload_n hx hb d_M_beat_23 rfl (zl hl rfl) ?_
      refine z_get (C := R_M) (T := F_M) (N := 15) (v := .int time) hx hb hts inT_M hown hK hP (PM_o hM) rfl 1 (by decide) tw_574 (fun _ h => h) rfl d_M_beat_24 ?_
      refine lv_aload_n hx hb d_M_beat_27 rfl (zl hl rfl) ?_
      refine z_get (C := R_M) (T := F_M) (N := 15) (v := .ref (ad 10)) hx hb hts inT_M hown hK hP (PM_o hM) rfl 13 (by decide) tw_586 (fun _ h => h) rfl d_M_beat_28 ?_
      refine lv_bipush (v := 6) hx hb d_M_beat_31 (by decide) ?_
      refine lv_aload_n hx hb d_M_beat_33 rfl (zl hl rfl) ?_
      refine z_get (C := R_M) (T := F_M) (N := 15) (v := .ref (ad 1)) hx hb hts inT_M hown hK hP (PM_o hM) rfl 4 (by decide) tw_577 (fun _ h => h) rfl d_M_beat_34 ?_
      refine lv_iload_n hx hb d_M_beat_37 rfl (zl hl rfl) ?_
      refine z_iald hx hb hK hP 0 (PM_1 hM) rfl t rfl (by omega) (by decide) d_M_beat_38 ?_
      refine lv_imul hx hb d_M_beat_39 ?_
      refine z_iald hx hb hK hP 0 (PM_10 hM) rfl (6 * qx f t) (by rw [(hq t (by omega)).1]; exact z_idx0 (qx f t)) (by have := (hq t (by omega)).2; omega) (by decide) d_M_beat_40 ?_
      refine lv_iadd hx hb d_M_beat_41 ?_
      have hD0 := hD
      refine z_iast hx hb hK hP hD hS 0 (PM_7 hM) rfl t rfl (by omega) (by decide) d_M_beat_42 (fun ws H locs hP hD hS u_4 => ?_)
      have hF := zfrM_tr hF (zfrM_up hD0 (PM_7 hM) rfl u_4)
      have hM := PM_wa hM 7 (by decide) (by decide) (by decide) rfl u_4
      refine lv_iconst (v := 1) hx hb d_M_beat_43 (by decide) ?_
      exact z_zretR hx hb hr hlocks hP hD hS (rfl) (⟨hM, hF⟩) d_M_beat_44
    · exact absurd c_3 (nI_m1 (by omega))
set_option maxHeartbeats 4000000 in
set_option maxRecDepth 100000 in
theorem c_M_cancel (l : Launch) {D : va_G} {ws : va_W} {H : Heap} (hP : va_P D vwCl ws H) {kk : Nat → ClassId} {ad : Nat → Nat} {thr time tok : Int32} {n : Nat} {f : Nat → Nat → Int32} {ky : Nat → Int64} (hM : PM kk ad thr time n tok f ky ws)  {B : Nat} (hD : va_D (fun q => B ≤ q) ws) (t : Int32) (hn : n ≤ 400) : Met l y_M_cancel (Cond.code y_M_cancel b_M_cancel 2 (some .boolean) :: TT) ({ frames := 2, cells := 0, slots := 0, locals := 120 }) (zPc [.ref (ad 0), .int t] H D vwCl (TY kk)) (zR D vwCl B (some (.int (zb (cCan f n t)))) (fun ws' => PM kk ad 0 time n tok (mCan f n t) ky ws' ∧ zfrM ws ws')) 0 0 (fun q => B ≤ q) := by
  refine z_body (by decide) (Nat.le_of_ble_eq_true rfl) ?_
  intro p e s m below meth c ls C0 hH hKN hl
  obtain ⟨hx, hb, hr, hts, hown, hlocks, hml⟩ := C0
  subst hH
  have hK := hKN.1
  have hN := hKN.2
  have hS : va_S (fun q => B ≤ q) s.heap s.heap [] := va_S.rf
  have hF : zfrM ws ws := zfrM_rf
  have hl : lv_has ls 2 [(0, .ref (ad 0)), (1, .int t)] := hl
  refine lv_aload_n hx hb d_M_cancel_0 rfl (zl hl rfl) ?_
  refine lv_iconst (v := 0) hx hb d_M_cancel_1 (by decide) ?_
  have hD0 := hD
  refine z_put (C := R_M) (T := F_M) (N := 15) (v := .int 0) hx hb hts inT_M ft_M ft_M_ok fn_M hown hK hP hD hS (PM_o hM) rfl 0 (by decide) tw_573 (fun _ h => h) rfl rfl rfl (by simp) d_M_cancel_2 (fun ws H locs hP hD hS u_1 => ?_)
  have hF := zfrM_tr hF (zfrM_up hD0 (PM_o hM) rfl u_1)
  have hM := PM_wo (thr' := 0) (time' := time) (n' := n) (tok' := tok) hM u_1
  refine lv_aload_n hx hb d_M_cancel_5 rfl (zl hl rfl) ?_
  refine lv_iload_n hx hb d_M_cancel_6 rfl (zl hl rfl) ?_
  refine z_calli (va_runV (As := [.int t]) (rest := []) ⟨hx, hb, hml, hown, hts⟩ (c_M_isTask l hP hM t) (cwV 1 hts (tt_V tw_699 tw_696 tw_698 tw_26 tw_36) rfl rfl rfl (by decide +kernel) ⟨Nat.le_of_ble_eq_true rfl, Nat.le_of_ble_eq_true rfl⟩) (zPc_V hKN hP (ci := 4) (q := (R_M, F_M, 15)) rfl (PM_o hM)) rfl rfl hl.1 rfl (lv_room (Nat.le_of_ble_eq_true rfl)) d_M_cancel_7 ⟨Nat.zero_le _, Nat.zero_le _⟩) hS (fun locs hS => ?_)
  refine lv_if_eq (tgt := 21) hx hb d_M_cancel_10 (by decide) (fun c_2 => ?_) (fun c_2 => ?_)
  · have b1 := zb_f c_2
    refine lv_iconst (v := 0) hx hb d_M_cancel_21 (by decide) ?_
    exact z_zretR hx hb hr hlocks hP hD hS (by simp [cCan, zb, *]) (⟨by unfold mCan; first | (simp only [cCan, *, reduceIte, Bool.true_and, Bool.false_and, Bool.and_false, Bool.and_true, Bool.false_eq_true]; done) | (simp only [cCan, *, reduceIte, Bool.true_and, Bool.false_and, Bool.and_false, Bool.and_true, Bool.false_eq_true]; exact hM), hF⟩) d_M_cancel_22
  · have b1 := zb_t c_2
    obtain ⟨k, hk, rfl⟩ := sTask_t (by omega) b1
    have htx : tx (nI k) = k := tx_nI (by omega)
    refine lv_aload_n hx hb d_M_cancel_13 rfl (zl hl rfl) ?_
    refine lv_iload_n hx hb d_M_cancel_14 rfl (zl hl rfl) ?_
    refine z_calli (va_runV (As := [.int (nI k)]) (rest := []) ⟨hx, hb, hml, hown, hts⟩ (c_M_isLive l hP hM k (by omega)) (cwV 1 hts (tt_V tw_643 tw_640 tw_642 tw_17 tw_36) rfl rfl rfl (by decide +kernel) ⟨Nat.le_of_ble_eq_true rfl, Nat.le_of_ble_eq_true rfl⟩) (zPc_V hKN hP (ci := 4) (q := (R_M, F_M, 15)) rfl (PM_o hM)) rfl rfl hl.1 rfl (lv_room (Nat.le_of_ble_eq_true rfl)) d_M_cancel_15 ⟨Nat.zero_le _, Nat.zero_le _⟩) hS (fun locs hS => ?_)
    refine lv_if_ne (tgt := 23) hx hb d_M_cancel_18 (by decide) (fun c_3 => ?_) (fun c_3 => ?_)
    · have b2 := zb_t c_3
      refine lv_aload_n hx hb d_M_cancel_23 rfl (zl hl rfl) ?_
      refine z_get (C := R_M) (T := F_M) (N := 15) (v := .ref (ad 6)) hx hb hts inT_M hown hK hP (PM_o hM) rfl 9 (by decide) tw_582 (fun _ h => h) rfl d_M_cancel_24 ?_
      refine lv_iload_n hx hb d_M_cancel_27 rfl (zl hl rfl) ?_
      refine lv_iconst (v := 4) hx hb d_M_cancel_28 (by decide) ?_
      have hD0 := hD
      refine z_iast hx hb hK hP hD hS 0 (PM_6 hM) rfl k rfl (by omega) (by decide) d_M_cancel_29 (fun ws H locs hP hD hS u_4 => ?_)
      have hF := zfrM_tr hF (zfrM_up hD0 (PM_6 hM) rfl u_4)
      have hM := PM_wa hM 6 (by decide) (by decide) (by decide) rfl u_4
      refine lv_iconst (v := 1) hx hb d_M_cancel_30 (by decide) ?_
      exact z_zretR hx hb hr hlocks hP hD hS (by simp [cCan, zb, *]) (⟨by unfold mCan; first | (simp only [cCan, *, reduceIte, Bool.true_and, Bool.false_and, Bool.and_false, Bool.and_true, Bool.false_eq_true]; done) | (simp only [cCan, *, reduceIte, Bool.true_and, Bool.false_and, Bool.and_false, Bool.and_true, Bool.false_eq_true]; exact hM), hF⟩) d_M_cancel_31
    · have b2 := zb_f c_3
      refine lv_iconst (v := 0) hx hb d_M_cancel_21 (by decide) ?_
      exact z_zretR hx hb hr hlocks hP hD hS (by simp [cCan, zb, *]) (⟨by unfold mCan; first | (simp only [cCan, *, reduceIte, Bool.true_and, Bool.false_and, Bool.and_false, Bool.and_true, Bool.false_eq_true]; done) | (simp only [cCan, *, reduceIte, Bool.true_and, Bool.false_and, Bool.and_false, Bool.and_true, Bool.false_eq_true]; exact hM), hF⟩) d_M_cancel_22
set_option maxHeartbeats 4000000 in
set_option maxRecDepth 100000 in
theorem c_M_revive (l : Launch) {D : va_G} {ws : va_W} {H : Heap} (hP : va_P D vwCl ws H) {kk : Nat → ClassId} {ad : Nat → Nat} {thr time tok : Int32} {n : Nat} {f : Nat → Nat → Int32} {ky : Nat → Int64} (hM : PM kk ad thr time n tok f ky ws)  {B : Nat} (hD : va_D (fun q => B ≤ q) ws) (t : Int32) (hn : n ≤ 400) : Met l y_M_revive (Cond.code y_M_revive b_M_revive 2 (some .boolean) :: TT) ({ frames := 3, cells := 0, slots := 0, locals := 180 }) (zPc [.ref (ad 0), .int t] H D vwCl (TY kk)) (zR D vwCl B (some (.int (zb (cRev f n t)))) (fun ws' => PM kk ad 0 time n tok (mRev f n time t) ky ws' ∧ zfrM ws ws')) 0 0 (fun q => B ≤ q) := by
  refine z_body (by decide) (Nat.le_of_ble_eq_true rfl) ?_
  intro p e s m below meth c ls C0 hH hKN hl
  obtain ⟨hx, hb, hr, hts, hown, hlocks, hml⟩ := C0
  subst hH
  have hK := hKN.1
  have hN := hKN.2
  have hS : va_S (fun q => B ≤ q) s.heap s.heap [] := va_S.rf
  have hF : zfrM ws ws := zfrM_rf
  have hl : lv_has ls 2 [(0, .ref (ad 0)), (1, .int t)] := hl
  refine lv_aload_n hx hb d_M_revive_0 rfl (zl hl rfl) ?_
  refine lv_iconst (v := 0) hx hb d_M_revive_1 (by decide) ?_
  have hD0 := hD
  refine z_put (C := R_M) (T := F_M) (N := 15) (v := .int 0) hx hb hts inT_M ft_M ft_M_ok fn_M hown hK hP hD hS (PM_o hM) rfl 0 (by decide) tw_573 (fun _ h => h) rfl rfl rfl (by simp) d_M_revive_2 (fun ws H locs hP hD hS u_1 => ?_)
  have hF := zfrM_tr hF (zfrM_up hD0 (PM_o hM) rfl u_1)
  have hM := PM_wo (thr' := 0) (time' := time) (n' := n) (tok' := tok) hM u_1
  refine lv_aload_n hx hb d_M_revive_5 rfl (zl hl rfl) ?_
  refine lv_iload_n hx hb d_M_revive_6 rfl (zl hl rfl) ?_
  refine z_calli (va_runV (As := [.int t]) (rest := []) ⟨hx, hb, hml, hown, hts⟩ (c_M_isTask l hP hM t) (cwV 1 hts (tt_V tw_699 tw_696 tw_698 tw_26 tw_36) rfl rfl rfl (by decide +kernel) ⟨Nat.le_of_ble_eq_true rfl, Nat.le_of_ble_eq_true rfl⟩) (zPc_V hKN hP (ci := 4) (q := (R_M, F_M, 15)) rfl (PM_o hM)) rfl rfl hl.1 rfl (lv_room (Nat.le_of_ble_eq_true rfl)) d_M_revive_7 ⟨Nat.zero_le _, Nat.zero_le _⟩) hS (fun locs hS => ?_)
  refine lv_if_eq (tgt := 32) hx hb d_M_revive_10 (by decide) (fun c_2 => ?_) (fun c_2 => ?_)
  · have b1 := zb_f c_2
    refine lv_iconst (v := 0) hx hb d_M_revive_32 (by decide) ?_
    exact z_zretR hx hb hr hlocks hP hD hS (by simp [cRev, zb, *]) (⟨by unfold mRev; first | (simp only [cRev, *, reduceIte, Bool.true_and, Bool.false_and, Bool.and_false, Bool.and_true, Bool.false_eq_true]; done) | (simp only [cRev, *, reduceIte, Bool.true_and, Bool.false_and, Bool.and_false, Bool.and_true, Bool.false_eq_true]; exact hM), hF⟩) d_M_revive_33
  · have b1 := zb_t c_2
    obtain ⟨k, hk, rfl⟩ := sTask_t (by omega) b1
    have htx : tx (nI k) = k := tx_nI (by omega)
    refine lv_aload_n hx hb d_M_revive_13 rfl (zl hl rfl) ?_
    refine z_get (C := R_M) (T := F_M) (N := 15) (v := .ref (ad 6)) hx hb hts inT_M hown hK hP (PM_o hM) rfl 9 (by decide) tw_582 (fun _ h => h) rfl d_M_revive_14 ?_
    refine lv_iload_n hx hb d_M_revive_17 rfl (zl hl rfl) ?_
    refine z_iald hx hb hK hP 0 (PM_6 hM) rfl k rfl (by omega) (by decide) d_M_revive_18 ?_
    refine lv_iconst (v := 3) hx hb d_M_revive_19 (by decide) ?_
    refine lv_icmp_ne (tgt := 32) hx hb d_M_revive_20 (by decide) (fun c_3 => ?_) (fun c_3 => ?_)
    · refine lv_iconst (v := 0) hx hb d_M_revive_32 (by decide) ?_
      exact z_zretR hx hb hr hlocks hP hD hS (by simp [cRev, zb, *]) (⟨by unfold mRev; first | (simp only [cRev, *, reduceIte, Bool.true_and, Bool.false_and, Bool.and_false, Bool.and_true, Bool.false_eq_true]; done) | (simp only [cRev, *, reduceIte, Bool.true_and, Bool.false_and, Bool.and_false, Bool.and_true, Bool.false_eq_true]; exact hM), hF⟩) d_M_revive_33
    · refine lv_aload_n hx hb d_M_revive_23 rfl (zl hl rfl) ?_
      refine z_calli (va_runV (As := []) (rest := []) ⟨hx, hb, hml, hown, hts⟩ (c_M_lives l hP hM hn) (cwV 0 hts (tt_V tw_647 tw_644 tw_646 tw_18 tw_36) rfl rfl rfl (by decide +kernel) ⟨Nat.le_of_ble_eq_true rfl, Nat.le_of_ble_eq_true rfl⟩) (zPc_V hKN hP (ci := 4) (q := (R_M, F_M, 15)) rfl (PM_o hM)) rfl rfl hl.1 rfl (lv_room (Nat.le_of_ble_eq_true rfl)) d_M_revive_24 ⟨Nat.zero_le _, Nat.zero_le _⟩) hS (fun locs hS => ?_)
      refine lv_bipush (v := 64) hx hb d_M_revive_27 (by decide) ?_
      refine lv_icmp_ne (tgt := 34) hx hb d_M_revive_29 (by decide) (fun c_4 => ?_) (fun c_4 => ?_)
      · refine lv_aload_n hx hb d_M_revive_34 rfl (zl hl rfl) ?_
        refine z_get (C := R_M) (T := F_M) (N := 15) (v := .ref (ad 6)) hx hb hts inT_M hown hK hP (PM_o hM) rfl 9 (by decide) tw_582 (fun _ h => h) rfl d_M_revive_35 ?_
        refine lv_iload_n hx hb d_M_revive_38 rfl (zl hl rfl) ?_
        refine lv_iconst (v := 0) hx hb d_M_revive_39 (by decide) ?_
        have hD0 := hD
        refine z_iast hx hb hK hP hD hS 0 (PM_6 hM) rfl k rfl (by omega) (by decide) d_M_revive_40 (fun ws H locs hP hD hS u_5 => ?_)
        have hF := zfrM_tr hF (zfrM_up hD0 (PM_6 hM) rfl u_5)
        have hM := PM_wa hM 6 (by decide) (by decide) (by decide) rfl u_5
        refine lv_aload_n hx hb d_M_revive_41 rfl (zl hl rfl) ?_
        refine z_get (C := R_M) (T := F_M) (N := 15) (v := .ref (ad 7)) hx hb hts inT_M hown hK hP (PM_o hM) rfl 10 (by decide) tw_583 (fun _ h => h) rfl d_M_revive_42 ?_
        refine lv_iload_n hx hb d_M_revive_45 rfl (zl hl rfl) ?_
        refine lv_aload_n hx hb d_M_revive_46 rfl (zl hl rfl) ?_
        refine z_get (C := R_M) (T := F_M) (N := 15) (v := .int time) hx hb hts inT_M hown hK hP (PM_o hM) rfl 1 (by decide) tw_574 (fun _ h => h) rfl d_M_revive_47 ?_
        have hD0 := hD
        refine z_iast hx hb hK hP hD hS 0 (PM_7 hM) rfl k rfl (by omega) (by decide) d_M_revive_50 (fun ws H locs hP hD hS u_6 => ?_)
        have hF := zfrM_tr hF (zfrM_up hD0 (PM_7 hM) rfl u_6)
        have hM := PM_wa hM 7 (by decide) (by decide) (by decide) rfl u_6
        refine lv_aload_n hx hb d_M_revive_51 rfl (zl hl rfl) ?_
        refine z_get (C := R_M) (T := F_M) (N := 15) (v := .ref (ad 5)) hx hb hts inT_M hown hK hP (PM_o hM) rfl 8 (by decide) tw_581 (fun _ h => h) rfl d_M_revive_52 ?_
        refine lv_iload_n hx hb d_M_revive_55 rfl (zl hl rfl) ?_
        refine lv_iconst (v := 0) hx hb d_M_revive_56 (by decide) ?_
        have hD0 := hD
        refine z_iast hx hb hK hP hD hS 0 (PM_5 hM) rfl k rfl (by omega) (by decide) d_M_revive_57 (fun ws H locs hP hD hS u_7 => ?_)
        have hF := zfrM_tr hF (zfrM_up hD0 (PM_5 hM) rfl u_7)
        have hM := PM_wa hM 5 (by decide) (by decide) (by decide) rfl u_7
        refine lv_iconst (v := 1) hx hb d_M_revive_58 (by decide) ?_
        exact z_zretR hx hb hr hlocks hP hD hS (by simp [cRev, zb, *]) (⟨by unfold mRev; first | (simp only [cRev, *, reduceIte, Bool.true_and, Bool.false_and, Bool.and_false, Bool.and_true, Bool.false_eq_true]; done) | (simp only [cRev, *, reduceIte, Bool.true_and, Bool.false_and, Bool.and_false, Bool.and_true, Bool.false_eq_true]; exact hM), hF⟩) d_M_revive_59
      · refine lv_iconst (v := 0) hx hb d_M_revive_32 (by decide) ?_
        exact z_zretR hx hb hr hlocks hP hD hS (by simp [cRev, zb, *]) (⟨by unfold mRev; first | (simp only [cRev, *, reduceIte, Bool.true_and, Bool.false_and, Bool.and_false, Bool.and_true, Bool.false_eq_true]; done) | (simp only [cRev, *, reduceIte, Bool.true_and, Bool.false_and, Bool.and_false, Bool.and_true, Bool.false_eq_true]; exact hM), hF⟩) d_M_revive_33
set_option maxHeartbeats 4000000 in
set_option maxRecDepth 100000 in
theorem c_M_first (l : Launch) {D : va_G} {ws : va_W} {H : Heap} (hP : va_P D vwCl ws H) {kk : Nat → ClassId} {ad : Nat → Nat} {thr time tok : Int32} {n : Nat} {f : Nat → Nat → Int32} {ky : Nat → Int64} (hM : PM kk ad thr time n tok f ky ws)  {B : Nat} (hD : va_D (fun q => B ≤ q) ws) (q : Int32) (hn : n ≤ 400) (hq : okq f n) (hg : okg f n) : Met l y_M_first (Cond.code y_M_first b_M_first 2 (some .int) :: TT) ({ frames := 4, cells := 0, slots := 0, locals := 240 }) (zPc [.ref (ad 0), .int q] H D vwCl (TY kk)) (zR D vwCl B (some (.int (mFirst f time n q))) (fun ws' => PM kk ad 0 time n tok f ky ws' ∧ zfrM ws ws')) 0 0 (fun q => B ≤ q) := by
  refine z_body (by decide) (Nat.le_of_ble_eq_true rfl) ?_
  intro p e s m below meth c ls C0 hH hKN hl
  obtain ⟨hx, hb, hr, hts, hown, hlocks, hml⟩ := C0
  subst hH
  have hK := hKN.1
  have hN := hKN.2
  have hS : va_S (fun q => B ≤ q) s.heap s.heap [] := va_S.rf
  have hF : zfrM ws ws := zfrM_rf
  have hl : lv_has ls 2 [(0, .ref (ad 0)), (1, .int q)] := hl
  refine lv_aload_n hx hb d_M_first_0 rfl (zl hl rfl) ?_
  refine lv_iconst (v := 0) hx hb d_M_first_1 (by decide) ?_
  have hD0 := hD
  refine z_put (C := R_M) (T := F_M) (N := 15) (v := .int 0) hx hb hts inT_M ft_M ft_M_ok fn_M hown hK hP hD hS (PM_o hM) rfl 0 (by decide) tw_573 (fun _ h => h) rfl rfl rfl (by simp) d_M_first_2 (fun ws H locs hP hD hS u_1 => ?_)
  have hF := zfrM_tr hF (zfrM_up hD0 (PM_o hM) rfl u_1)
  have hM := PM_wo (thr' := 0) (time' := time) (n' := n) (tok' := tok) hM u_1
  refine lv_iload_n hx hb d_M_first_5 rfl (zl hl rfl) ?_
  refine lv_iconst (v := 0) hx hb d_M_first_6 (by decide) ?_
  refine lv_iconst (v := 3) hx hb d_M_first_7 (by decide) ?_
  refine z_calli (va_runS (As := [.int q, .int 0, .int 3]) (rest := []) ⟨hx, hb, hml, hown, hts⟩ (c_M_within l hP q 0 3) (va_cwS 3 hts (tt_S tw_631 tw_629 tw_630 tw_36) rfl rfl rfl (by decide +kernel) ⟨Nat.le_of_ble_eq_true rfl, Nat.le_of_ble_eq_true rfl⟩) (zPc_S hKN) rfl rfl hl.1 rfl (lv_room (Nat.le_of_ble_eq_true rfl)) d_M_first_8 ⟨Nat.zero_le _, Nat.zero_le _⟩) hS (fun locs hS => ?_)
  refine lv_if_eq (tgt := 22) hx hb d_M_first_11 (by decide) (fun c_2 => ?_) (fun c_2 => ?_)
  · have b1 := zb_f c_2
    refine lv_iconst (v := (-1)) hx hb d_M_first_22 (by decide) ?_
    exact z_iretR hx hb hr hlocks hP hD hS (by simp [mFirst, *]) (⟨hM, hF⟩) d_M_first_23
  · have b1 := zb_t c_2
    refine lv_aload_n hx hb d_M_first_14 rfl (zl hl rfl) ?_
    refine lv_iload_n hx hb d_M_first_15 rfl (zl hl rfl) ?_
    refine z_calli (va_runV (As := [.int q]) (rest := []) ⟨hx, hb, hml, hown, hts⟩ (c_M_firstOf l hP hM q hn hq hg) (cwV 1 hts (tt_V tw_655 tw_652 tw_654 tw_19 tw_36) rfl rfl rfl (by decide +kernel) ⟨Nat.le_of_ble_eq_true rfl, Nat.le_of_ble_eq_true rfl⟩) (zPc_V hKN hP (ci := 4) (q := (R_M, F_M, 15)) rfl (PM_o hM)) rfl rfl hl.1 rfl (lv_room (Nat.le_of_ble_eq_true rfl)) d_M_first_16 ⟨Nat.zero_le _, Nat.zero_le _⟩) hS (fun locs hS => ?_)
    refine lv_goto (tgt := 23) hx hb d_M_first_19 (by decide) ?_
    exact z_iretR hx hb hr hlocks hP hD hS (by simp [mFirst, *]) (⟨hM, hF⟩) d_M_first_23
set_option maxHeartbeats 4000000 in
set_option maxRecDepth 100000 in
theorem c_M_task (l : Launch) {D : va_G} {ws : va_W} {H : Heap} (hP : va_P D vwCl ws H) {kk : Nat → ClassId} {ad : Nat → Nat} {thr time tok : Int32} {n : Nat} {f : Nat → Nat → Int32} {ky : Nat → Int64} (hM : PM kk ad thr time n tok f ky ws)  {B : Nat} (hD : va_D (fun q => B ≤ q) ws) (t what : Int32) (hn : n ≤ 400) (hq : okq f n) : Met l y_M_task (Cond.code y_M_task b_M_task 5 (some .int) :: TT) ({ frames := 2, cells := 0, slots := 0, locals := 120 }) (zPc [.ref (ad 0), .int t, .int what] H D vwCl (TY kk)) (zR D vwCl B (some (.int (mTask f time n t what))) (fun ws' => PM kk ad (if cTask n t what = true then 0 else 1) time n tok f ky ws' ∧ zfrM ws ws')) 0 0 (fun q => B ≤ q) := by
  refine z_body (by decide) (Nat.le_of_ble_eq_true rfl) ?_
  intro p e s m below meth c ls C0 hH hKN hl
  obtain ⟨hx, hb, hr, hts, hown, hlocks, hml⟩ := C0
  subst hH
  have hK := hKN.1
  have hN := hKN.2
  have hS : va_S (fun q => B ≤ q) s.heap s.heap [] := va_S.rf
  have hF : zfrM ws ws := zfrM_rf
  have hl : lv_has ls 5 [(0, .ref (ad 0)), (1, .int t), (2, .int what)] := hl
  refine lv_aload_n hx hb d_M_task_0 rfl (zl hl rfl) ?_
  refine lv_aload_n hx hb d_M_task_1 rfl (zl hl rfl) ?_
  refine lv_iload_n hx hb d_M_task_2 rfl (zl hl rfl) ?_
  refine z_calli (va_runV (As := [.int t]) (rest := [.ref (ad 0)]) ⟨hx, hb, hml, hown, hts⟩ (c_M_isTask l hP hM t) (cwV 1 hts (tt_V tw_699 tw_696 tw_698 tw_26 tw_36) rfl rfl rfl (by decide +kernel) ⟨Nat.le_of_ble_eq_true rfl, Nat.le_of_ble_eq_true rfl⟩) (zPc_V hKN hP (ci := 4) (q := (R_M, F_M, 15)) rfl (PM_o hM)) rfl rfl hl.1 rfl (lv_room (Nat.le_of_ble_eq_true rfl)) d_M_task_3 ⟨Nat.zero_le _, Nat.zero_le _⟩) hS (fun locs hS => ?_)
  refine lv_if_eq (tgt := 19) hx hb d_M_task_6 (by decide) (fun c_1 => ?_) (fun c_1 => ?_)
  · have b1 := zb_f c_1
    refine lv_iconst (v := 1) hx hb d_M_task_19 (by decide) ?_
    refine lv_goto (tgt := 24) hx hb d_M_task_20 (by decide) ?_
    have hD0 := hD
    refine z_put (C := R_M) (T := F_M) (N := 15) (v := .int 1) hx hb hts inT_M ft_M ft_M_ok fn_M hown hK hP hD hS (PM_o hM) rfl 0 (by decide) tw_573 (fun _ h => h) rfl rfl rfl (by simp) d_M_task_24 (fun ws H locs hP hD hS u_2 => ?_)
    have hF := zfrM_tr hF (zfrM_up hD0 (PM_o hM) rfl u_2)
    have hM := PM_wo (thr' := 1) (time' := time) (n' := n) (tok' := tok) hM u_2
    refine lv_aload_n hx hb d_M_task_27 rfl (zl hl rfl) ?_
    refine z_get (C := R_M) (T := F_M) (N := 15) (v := .int 1) hx hb hts inT_M hown hK hP (PM_o hM) rfl 0 (by decide) tw_573 (fun _ h => h) rfl d_M_task_28 ?_
    refine lv_if_le (tgt := 36) hx hb d_M_task_31 (by decide) (fun c_3 => ?_) (fun c_3 => ?_)
    · exact absurd c_3 (by decide)
    · refine lv_iconst (v := 0) hx hb d_M_task_34 (by decide) ?_
      exact z_iretR hx hb hr hlocks hP hD hS (by simp [mTask, cTask, *]) (⟨by first | (simp only [cTask, *, reduceIte, Bool.true_and, Bool.false_and, Bool.and_false, Bool.and_true, Bool.false_eq_true]; done) | (simp only [cTask, *, reduceIte, Bool.true_and, Bool.false_and, Bool.and_false, Bool.and_true, Bool.false_eq_true]; exact hM), hF⟩) d_M_task_35
  · have b1 := zb_t c_1
    obtain ⟨k, hk, rfl⟩ := sTask_t (by omega) b1
    have htx : tx (nI k) = k := tx_nI (by omega)
    refine lv_iload_n hx hb d_M_task_9 rfl (zl hl rfl) ?_
    refine lv_iconst (v := 0) hx hb d_M_task_10 (by decide) ?_
    refine lv_bipush (v := 6) hx hb d_M_task_11 (by decide) ?_
    refine z_calli (va_runS (As := [.int what, .int 0, .int 6]) (rest := [.ref (ad 0)]) ⟨hx, hb, hml, hown, hts⟩ (c_M_within l hP what 0 6) (va_cwS 3 hts (tt_S tw_631 tw_629 tw_630 tw_36) rfl rfl rfl (by decide +kernel) ⟨Nat.le_of_ble_eq_true rfl, Nat.le_of_ble_eq_true rfl⟩) (zPc_S hKN) rfl rfl hl.1 rfl (lv_room (Nat.le_of_ble_eq_true rfl)) d_M_task_13 ⟨Nat.zero_le _, Nat.zero_le _⟩) hS (fun locs hS => ?_)
    refine lv_if_ne (tgt := 23) hx hb d_M_task_16 (by decide) (fun c_4 => ?_) (fun c_4 => ?_)
    · have b2 := zb_t c_4
      refine lv_iconst (v := 0) hx hb d_M_task_23 (by decide) ?_
      have hD0 := hD
      refine z_put (C := R_M) (T := F_M) (N := 15) (v := .int 0) hx hb hts inT_M ft_M ft_M_ok fn_M hown hK hP hD hS (PM_o hM) rfl 0 (by decide) tw_573 (fun _ h => h) rfl rfl rfl (by simp) d_M_task_24 (fun ws H locs hP hD hS u_5 => ?_)
      have hF := zfrM_tr hF (zfrM_up hD0 (PM_o hM) rfl u_5)
      have hM := PM_wo (thr' := 0) (time' := time) (n' := n) (tok' := tok) hM u_5
      refine lv_aload_n hx hb d_M_task_27 rfl (zl hl rfl) ?_
      refine z_get (C := R_M) (T := F_M) (N := 15) (v := .int 0) hx hb hts inT_M hown hK hP (PM_o hM) rfl 0 (by decide) tw_573 (fun _ h => h) rfl d_M_task_28 ?_
      refine lv_if_le (tgt := 36) hx hb d_M_task_31 (by decide) (fun c_6 => ?_) (fun c_6 => ?_)
      · refine lv_aload_n hx hb d_M_task_36 rfl (zl hl rfl) ?_
        refine z_get (C := R_M) (T := F_M) (N := 15) (v := .ref (ad 6)) hx hb hts inT_M hown hK hP (PM_o hM) rfl 9 (by decide) tw_582 (fun _ h => h) rfl d_M_task_37 ?_
        refine lv_iload_n hx hb d_M_task_40 rfl (zl hl rfl) ?_
        refine z_iald hx hb hK hP 0 (PM_6 hM) rfl k rfl (by omega) (by decide) d_M_task_41 ?_
        refine lv_if_ne (tgt := 49) hx hb d_M_task_42 (by decide) (fun c_7 => ?_) (fun c_7 => ?_)
        · refine lv_iconst (v := 0) hx hb d_M_task_49 (by decide) ?_
          refine lv_istore_n (lv' := [(3, .int 0), (0, .ref (ad 0)), (1, .int (nI k)), (2, .int what)]) hx hb d_M_task_50 rfl hl (by decide) rfl (fun ls hl => ?_)
          refine lv_aload_n hx hb d_M_task_51 rfl (zl hl rfl) ?_
          refine z_get (C := R_M) (T := F_M) (N := 15) (v := .ref (ad 6)) hx hb hts inT_M hown hK hP (PM_o hM) rfl 9 (by decide) tw_582 (fun _ h => h) rfl d_M_task_52 ?_
          refine lv_iload_n hx hb d_M_task_55 rfl (zl hl rfl) ?_
          refine z_iald hx hb hK hP 0 (PM_6 hM) rfl k rfl (by omega) (by decide) d_M_task_56 ?_
          refine lv_iconst (v := 1) hx hb d_M_task_57 (by decide) ?_
          refine lv_icmp_ne (tgt := 65) hx hb d_M_task_58 (by decide) (fun c_8 => ?_) (fun c_8 => ?_)
          · refine lv_iconst (v := 0) hx hb d_M_task_65 (by decide) ?_
            refine lv_istore (lv' := [(4, .int 0), (3, .int 0), (0, .ref (ad 0)), (1, .int (nI k)), (2, .int what)]) hx hb d_M_task_66 hl (by decide) rfl (fun ls hl => ?_)
            refine lv_iload_n hx hb d_M_task_68 rfl (zl hl rfl) ?_
            rcases z_sw what 5 (by decide) with d_9 | ⟨k9, hk9, hkk⟩
            · have n_10 : ¬ what = 0 := fun h => absurd (h ▸ d_9) (by decide)
              have n_11 : ¬ what = 1 := fun h => absurd (h ▸ d_9) (by decide)
              have n_12 : ¬ what = 2 := fun h => absurd (h ▸ d_9) (by decide)
              have n_13 : ¬ what = 3 := fun h => absurd (h ▸ d_9) (by decide)
              have n_14 : ¬ what = 4 := fun h => absurd (h ▸ d_9) (by decide)
              have n_15 : ¬ what = 5 := fun h => absurd (h ▸ d_9) (by decide)
              refine lv_tableOut (tgt := 185) hx hb d_M_task_69 d_9 (by decide) ?_
              refine lv_iload_n hx hb d_M_task_185 rfl (zl hl rfl) ?_
              refine lv_if_eq (tgt := 210) hx hb d_M_task_186 (by decide) (fun c_16 => ?_) (fun c_16 => ?_)
              · refine lv_iconst (v := (-1)) hx hb d_M_task_210 (by decide) ?_
                exact z_iretR hx hb hr hlocks hP hD hS (by simp [mTask, cTask, *]) (⟨by first | (simp only [cTask, *, reduceIte, Bool.true_and, Bool.false_and, Bool.and_false, Bool.and_true, Bool.false_eq_true]; done) | (simp only [cTask, *, reduceIte, Bool.true_and, Bool.false_and, Bool.and_false, Bool.and_true, Bool.false_eq_true]; exact hM), hF⟩) d_M_task_211
              · exact absurd rfl c_16
            · obtain rfl | rfl | rfl | rfl | rfl | rfl : k9 = 0 ∨ k9 = 1 ∨ k9 = 2 ∨ k9 = 3 ∨ k9 = 4 ∨ k9 = 5 := by omega
              · have e9 : what = 0 := hkk
                clear hkk
                subst e9
                refine lv_tableIn (tgt := 108) hx hb d_M_task_69 (by decide) (by decide) rfl (by decide) ?_
                refine lv_aload_n hx hb d_M_task_108 rfl (zl hl rfl) ?_
                refine z_get (C := R_M) (T := F_M) (N := 15) (v := .ref (ad 6)) hx hb hts inT_M hown hK hP (PM_o hM) rfl 9 (by decide) tw_582 (fun _ h => h) rfl d_M_task_109 ?_
                refine lv_iload_n hx hb d_M_task_112 rfl (zl hl rfl) ?_
                refine z_iald hx hb hK hP 0 (PM_6 hM) rfl k rfl (by omega) (by decide) d_M_task_113 ?_
                exact z_iretR hx hb hr hlocks hP hD hS (by simp [mTask, cTask, *]) (⟨by first | (simp only [cTask, *, reduceIte, Bool.true_and, Bool.false_and, Bool.and_false, Bool.and_true, Bool.false_eq_true]; done) | (simp only [cTask, *, reduceIte, Bool.true_and, Bool.false_and, Bool.and_false, Bool.and_true, Bool.false_eq_true]; exact hM), hF⟩) d_M_task_114
              · have e9 : what = 1 := hkk
                clear hkk
                subst e9
                refine lv_tableIn (tgt := 115) hx hb d_M_task_69 (by decide) (by decide) rfl (by decide) ?_
                refine lv_aload_n hx hb d_M_task_115 rfl (zl hl rfl) ?_
                refine z_get (C := R_M) (T := F_M) (N := 15) (v := .ref (ad 5)) hx hb hts inT_M hown hK hP (PM_o hM) rfl 8 (by decide) tw_581 (fun _ h => h) rfl d_M_task_116 ?_
                refine lv_iload_n hx hb d_M_task_119 rfl (zl hl rfl) ?_
                refine z_iald hx hb hK hP 0 (PM_5 hM) rfl k rfl (by omega) (by decide) d_M_task_120 ?_
                exact z_iretR hx hb hr hlocks hP hD hS (by simp [mTask, cTask, *]) (⟨by first | (simp only [cTask, *, reduceIte, Bool.true_and, Bool.false_and, Bool.and_false, Bool.and_true, Bool.false_eq_true]; done) | (simp only [cTask, *, reduceIte, Bool.true_and, Bool.false_and, Bool.and_false, Bool.and_true, Bool.false_eq_true]; exact hM), hF⟩) d_M_task_121
              · have e9 : what = 2 := hkk
                clear hkk
                subst e9
                refine lv_tableIn (tgt := 122) hx hb d_M_task_69 (by decide) (by decide) rfl (by decide) ?_
                refine lv_iload_n hx hb d_M_task_122 rfl (zl hl rfl) ?_
                refine lv_if_eq (tgt := 135) hx hb d_M_task_123 (by decide) (fun c_17 => ?_) (fun c_17 => ?_)
                · refine lv_iconst (v := (-1)) hx hb d_M_task_135 (by decide) ?_
                  exact z_iretR hx hb hr hlocks hP hD hS (by simp [mTask, cTask, *]) (⟨by first | (simp only [cTask, *, reduceIte, Bool.true_and, Bool.false_and, Bool.and_false, Bool.and_true, Bool.false_eq_true]; done) | (simp only [cTask, *, reduceIte, Bool.true_and, Bool.false_and, Bool.and_false, Bool.and_true, Bool.false_eq_true]; exact hM), hF⟩) d_M_task_136
                · exact absurd rfl c_17
              · have e9 : what = 3 := hkk
                clear hkk
                subst e9
                refine lv_tableIn (tgt := 137) hx hb d_M_task_69 (by decide) (by decide) rfl (by decide) ?_
                refine lv_iload hx hb d_M_task_137 (zl hl rfl) ?_
                refine lv_if_eq (tgt := 151) hx hb d_M_task_139 (by decide) (fun c_18 => ?_) (fun c_18 => ?_)
                · refine lv_iconst (v := (-1)) hx hb d_M_task_151 (by decide) ?_
                  exact z_iretR hx hb hr hlocks hP hD hS (by simp [mTask, cTask, *]) (⟨by first | (simp only [cTask, *, reduceIte, Bool.true_and, Bool.false_and, Bool.and_false, Bool.and_true, Bool.false_eq_true]; done) | (simp only [cTask, *, reduceIte, Bool.true_and, Bool.false_and, Bool.and_false, Bool.and_true, Bool.false_eq_true]; exact hM), hF⟩) d_M_task_152
                · exact absurd rfl c_18
              · have e9 : what = 4 := hkk
                clear hkk
                subst e9
                refine lv_tableIn (tgt := 153) hx hb d_M_task_69 (by decide) (by decide) rfl (by decide) ?_
                refine lv_iload hx hb d_M_task_153 (zl hl rfl) ?_
                refine lv_if_eq (tgt := 167) hx hb d_M_task_155 (by decide) (fun c_19 => ?_) (fun c_19 => ?_)
                · refine lv_iconst (v := (-1)) hx hb d_M_task_167 (by decide) ?_
                  exact z_iretR hx hb hr hlocks hP hD hS (by simp [mTask, cTask, *]) (⟨by first | (simp only [cTask, *, reduceIte, Bool.true_and, Bool.false_and, Bool.and_false, Bool.and_true, Bool.false_eq_true]; done) | (simp only [cTask, *, reduceIte, Bool.true_and, Bool.false_and, Bool.and_false, Bool.and_true, Bool.false_eq_true]; exact hM), hF⟩) d_M_task_168
                · exact absurd rfl c_19
              · have e9 : what = 5 := hkk
                clear hkk
                subst e9
                refine lv_tableIn (tgt := 169) hx hb d_M_task_69 (by decide) (by decide) rfl (by decide) ?_
                refine lv_iload hx hb d_M_task_169 (zl hl rfl) ?_
                refine lv_if_eq (tgt := 183) hx hb d_M_task_171 (by decide) (fun c_20 => ?_) (fun c_20 => ?_)
                · refine lv_iconst (v := (-1)) hx hb d_M_task_183 (by decide) ?_
                  exact z_iretR hx hb hr hlocks hP hD hS (by simp [mTask, cTask, *]) (⟨by first | (simp only [cTask, *, reduceIte, Bool.true_and, Bool.false_and, Bool.and_false, Bool.and_true, Bool.false_eq_true]; done) | (simp only [cTask, *, reduceIte, Bool.true_and, Bool.false_and, Bool.and_false, Bool.and_true, Bool.false_eq_true]; exact hM), hF⟩) d_M_task_184
                · exact absurd rfl c_20
          · refine lv_iconst (v := 1) hx hb d_M_task_61 (by decide) ?_
            refine lv_goto (tgt := 66) hx hb d_M_task_62 (by decide) ?_
            refine lv_istore (lv' := [(4, .int 1), (3, .int 0), (0, .ref (ad 0)), (1, .int (nI k)), (2, .int what)]) hx hb d_M_task_66 hl (by decide) rfl (fun ls hl => ?_)
            refine lv_iload_n hx hb d_M_task_68 rfl (zl hl rfl) ?_
            rcases z_sw what 5 (by decide) with d_21 | ⟨k9, hk9, hkk⟩
            · have n_22 : ¬ what = 0 := fun h => absurd (h ▸ d_21) (by decide)
              have n_23 : ¬ what = 1 := fun h => absurd (h ▸ d_21) (by decide)
              have n_24 : ¬ what = 2 := fun h => absurd (h ▸ d_21) (by decide)
              have n_25 : ¬ what = 3 := fun h => absurd (h ▸ d_21) (by decide)
              have n_26 : ¬ what = 4 := fun h => absurd (h ▸ d_21) (by decide)
              have n_27 : ¬ what = 5 := fun h => absurd (h ▸ d_21) (by decide)
              refine lv_tableOut (tgt := 185) hx hb d_M_task_69 d_21 (by decide) ?_
              refine lv_iload_n hx hb d_M_task_185 rfl (zl hl rfl) ?_
              refine lv_if_eq (tgt := 210) hx hb d_M_task_186 (by decide) (fun c_28 => ?_) (fun c_28 => ?_)
              · refine lv_iconst (v := (-1)) hx hb d_M_task_210 (by decide) ?_
                exact z_iretR hx hb hr hlocks hP hD hS (by simp [mTask, cTask, *]) (⟨by first | (simp only [cTask, *, reduceIte, Bool.true_and, Bool.false_and, Bool.and_false, Bool.and_true, Bool.false_eq_true]; done) | (simp only [cTask, *, reduceIte, Bool.true_and, Bool.false_and, Bool.and_false, Bool.and_true, Bool.false_eq_true]; exact hM), hF⟩) d_M_task_211
              · exact absurd rfl c_28
            · obtain rfl | rfl | rfl | rfl | rfl | rfl : k9 = 0 ∨ k9 = 1 ∨ k9 = 2 ∨ k9 = 3 ∨ k9 = 4 ∨ k9 = 5 := by omega
              · have e9 : what = 0 := hkk
                clear hkk
                subst e9
                refine lv_tableIn (tgt := 108) hx hb d_M_task_69 (by decide) (by decide) rfl (by decide) ?_
                refine lv_aload_n hx hb d_M_task_108 rfl (zl hl rfl) ?_
                refine z_get (C := R_M) (T := F_M) (N := 15) (v := .ref (ad 6)) hx hb hts inT_M hown hK hP (PM_o hM) rfl 9 (by decide) tw_582 (fun _ h => h) rfl d_M_task_109 ?_
                refine lv_iload_n hx hb d_M_task_112 rfl (zl hl rfl) ?_
                refine z_iald hx hb hK hP 0 (PM_6 hM) rfl k rfl (by omega) (by decide) d_M_task_113 ?_
                exact z_iretR hx hb hr hlocks hP hD hS (by simp [mTask, cTask, *]) (⟨by first | (simp only [cTask, *, reduceIte, Bool.true_and, Bool.false_and, Bool.and_false, Bool.and_true, Bool.false_eq_true]; done) | (simp only [cTask, *, reduceIte, Bool.true_and, Bool.false_and, Bool.and_false, Bool.and_true, Bool.false_eq_true]; exact hM), hF⟩) d_M_task_114
              · have e9 : what = 1 := hkk
                clear hkk
                subst e9
                refine lv_tableIn (tgt := 115) hx hb d_M_task_69 (by decide) (by decide) rfl (by decide) ?_
                refine lv_aload_n hx hb d_M_task_115 rfl (zl hl rfl) ?_
                refine z_get (C := R_M) (T := F_M) (N := 15) (v := .ref (ad 5)) hx hb hts inT_M hown hK hP (PM_o hM) rfl 8 (by decide) tw_581 (fun _ h => h) rfl d_M_task_116 ?_
                refine lv_iload_n hx hb d_M_task_119 rfl (zl hl rfl) ?_
                refine z_iald hx hb hK hP 0 (PM_5 hM) rfl k rfl (by omega) (by decide) d_M_task_120 ?_
                exact z_iretR hx hb hr hlocks hP hD hS (by simp [mTask, cTask, *]) (⟨by first | (simp only [cTask, *, reduceIte, Bool.true_and, Bool.false_and, Bool.and_false, Bool.and_true, Bool.false_eq_true]; done) | (simp only [cTask, *, reduceIte, Bool.true_and, Bool.false_and, Bool.and_false, Bool.and_true, Bool.false_eq_true]; exact hM), hF⟩) d_M_task_121
              · have e9 : what = 2 := hkk
                clear hkk
                subst e9
                refine lv_tableIn (tgt := 122) hx hb d_M_task_69 (by decide) (by decide) rfl (by decide) ?_
                refine lv_iload_n hx hb d_M_task_122 rfl (zl hl rfl) ?_
                refine lv_if_eq (tgt := 135) hx hb d_M_task_123 (by decide) (fun c_29 => ?_) (fun c_29 => ?_)
                · refine lv_iconst (v := (-1)) hx hb d_M_task_135 (by decide) ?_
                  exact z_iretR hx hb hr hlocks hP hD hS (by simp [mTask, cTask, *]) (⟨by first | (simp only [cTask, *, reduceIte, Bool.true_and, Bool.false_and, Bool.and_false, Bool.and_true, Bool.false_eq_true]; done) | (simp only [cTask, *, reduceIte, Bool.true_and, Bool.false_and, Bool.and_false, Bool.and_true, Bool.false_eq_true]; exact hM), hF⟩) d_M_task_136
                · exact absurd rfl c_29
              · have e9 : what = 3 := hkk
                clear hkk
                subst e9
                refine lv_tableIn (tgt := 137) hx hb d_M_task_69 (by decide) (by decide) rfl (by decide) ?_
                refine lv_iload hx hb d_M_task_137 (zl hl rfl) ?_
                refine lv_if_eq (tgt := 151) hx hb d_M_task_139 (by decide) (fun c_30 => ?_) (fun c_30 => ?_)
                · exact absurd c_30 (by decide)
                · refine lv_aload_n hx hb d_M_task_142 rfl (zl hl rfl) ?_
                  refine z_get (C := R_M) (T := F_M) (N := 15) (v := .ref (ad 7)) hx hb hts inT_M hown hK hP (PM_o hM) rfl 10 (by decide) tw_583 (fun _ h => h) rfl d_M_task_143 ?_
                  refine lv_iload_n hx hb d_M_task_146 rfl (zl hl rfl) ?_
                  refine z_iald hx hb hK hP 0 (PM_7 hM) rfl k rfl (by omega) (by decide) d_M_task_147 ?_
                  refine lv_goto (tgt := 152) hx hb d_M_task_148 (by decide) ?_
                  exact z_iretR hx hb hr hlocks hP hD hS (by simp [mTask, cTask, *]) (⟨by first | (simp only [cTask, *, reduceIte, Bool.true_and, Bool.false_and, Bool.and_false, Bool.and_true, Bool.false_eq_true]; done) | (simp only [cTask, *, reduceIte, Bool.true_and, Bool.false_and, Bool.and_false, Bool.and_true, Bool.false_eq_true]; exact hM), hF⟩) d_M_task_152
              · have e9 : what = 4 := hkk
                clear hkk
                subst e9
                refine lv_tableIn (tgt := 153) hx hb d_M_task_69 (by decide) (by decide) rfl (by decide) ?_
                refine lv_iload hx hb d_M_task_153 (zl hl rfl) ?_
                refine lv_if_eq (tgt := 167) hx hb d_M_task_155 (by decide) (fun c_31 => ?_) (fun c_31 => ?_)
                · exact absurd c_31 (by decide)
                · refine lv_aload_n hx hb d_M_task_158 rfl (zl hl rfl) ?_
                  refine z_get (C := R_M) (T := F_M) (N := 15) (v := .ref (ad 8)) hx hb hts inT_M hown hK hP (PM_o hM) rfl 11 (by decide) tw_584 (fun _ h => h) rfl d_M_task_159 ?_
                  refine lv_iload_n hx hb d_M_task_162 rfl (zl hl rfl) ?_
                  refine z_iald hx hb hK hP 0 (PM_8 hM) rfl k rfl (by omega) (by decide) d_M_task_163 ?_
                  refine lv_goto (tgt := 168) hx hb d_M_task_164 (by decide) ?_
                  exact z_iretR hx hb hr hlocks hP hD hS (by simp [mTask, cTask, *]) (⟨by first | (simp only [cTask, *, reduceIte, Bool.true_and, Bool.false_and, Bool.and_false, Bool.and_true, Bool.false_eq_true]; done) | (simp only [cTask, *, reduceIte, Bool.true_and, Bool.false_and, Bool.and_false, Bool.and_true, Bool.false_eq_true]; exact hM), hF⟩) d_M_task_168
              · have e9 : what = 5 := hkk
                clear hkk
                subst e9
                refine lv_tableIn (tgt := 169) hx hb d_M_task_69 (by decide) (by decide) rfl (by decide) ?_
                refine lv_iload hx hb d_M_task_169 (zl hl rfl) ?_
                refine lv_if_eq (tgt := 183) hx hb d_M_task_171 (by decide) (fun c_32 => ?_) (fun c_32 => ?_)
                · exact absurd c_32 (by decide)
                · refine lv_aload_n hx hb d_M_task_174 rfl (zl hl rfl) ?_
                  refine z_get (C := R_M) (T := F_M) (N := 15) (v := .ref (ad 9)) hx hb hts inT_M hown hK hP (PM_o hM) rfl 12 (by decide) tw_585 (fun _ h => h) rfl d_M_task_175 ?_
                  refine lv_iload_n hx hb d_M_task_178 rfl (zl hl rfl) ?_
                  refine z_iald hx hb hK hP 0 (PM_9 hM) rfl k rfl (by omega) (by decide) d_M_task_179 ?_
                  refine lv_goto (tgt := 184) hx hb d_M_task_180 (by decide) ?_
                  exact z_iretR hx hb hr hlocks hP hD hS (by simp [mTask, cTask, *]) (⟨by first | (simp only [cTask, *, reduceIte, Bool.true_and, Bool.false_and, Bool.and_false, Bool.and_true, Bool.false_eq_true]; done) | (simp only [cTask, *, reduceIte, Bool.true_and, Bool.false_and, Bool.and_false, Bool.and_true, Bool.false_eq_true]; exact hM), hF⟩) d_M_task_184
        · refine lv_iconst (v := 1) hx hb d_M_task_45 (by decide) ?_
          refine lv_goto (tgt := 50) hx hb d_M_task_46 (by decide) ?_
          refine lv_istore_n (lv' := [(3, .int 1), (0, .ref (ad 0)), (1, .int (nI k)), (2, .int what)]) hx hb d_M_task_50 rfl hl (by decide) rfl (fun ls hl => ?_)
          refine lv_aload_n hx hb d_M_task_51 rfl (zl hl rfl) ?_
          refine z_get (C := R_M) (T := F_M) (N := 15) (v := .ref (ad 6)) hx hb hts inT_M hown hK hP (PM_o hM) rfl 9 (by decide) tw_582 (fun _ h => h) rfl d_M_task_52 ?_
          refine lv_iload_n hx hb d_M_task_55 rfl (zl hl rfl) ?_
          refine z_iald hx hb hK hP 0 (PM_6 hM) rfl k rfl (by omega) (by decide) d_M_task_56 ?_
          refine lv_iconst (v := 1) hx hb d_M_task_57 (by decide) ?_
          refine lv_icmp_ne (tgt := 65) hx hb d_M_task_58 (by decide) (fun c_33 => ?_) (fun c_33 => ?_)
          · refine lv_iconst (v := 0) hx hb d_M_task_65 (by decide) ?_
            refine lv_istore (lv' := [(4, .int 0), (3, .int 1), (0, .ref (ad 0)), (1, .int (nI k)), (2, .int what)]) hx hb d_M_task_66 hl (by decide) rfl (fun ls hl => ?_)
            refine lv_iload_n hx hb d_M_task_68 rfl (zl hl rfl) ?_
            rcases z_sw what 5 (by decide) with d_34 | ⟨k9, hk9, hkk⟩
            · have n_35 : ¬ what = 0 := fun h => absurd (h ▸ d_34) (by decide)
              have n_36 : ¬ what = 1 := fun h => absurd (h ▸ d_34) (by decide)
              have n_37 : ¬ what = 2 := fun h => absurd (h ▸ d_34) (by decide)
              have n_38 : ¬ what = 3 := fun h => absurd (h ▸ d_34) (by decide)
              have n_39 : ¬ what = 4 := fun h => absurd (h ▸ d_34) (by decide)
              have n_40 : ¬ what = 5 := fun h => absurd (h ▸ d_34) (by decide)
              refine lv_tableOut (tgt := 185) hx hb d_M_task_69 d_34 (by decide) ?_
              refine lv_iload_n hx hb d_M_task_185 rfl (zl hl rfl) ?_
              refine lv_if_eq (tgt := 210) hx hb d_M_task_186 (by decide) (fun c_41 => ?_) (fun c_41 => ?_)
              · exact absurd c_41 (by decide)
              · refine lv_aload_n hx hb d_M_task_189 rfl (zl hl rfl) ?_
                refine z_get (C := R_M) (T := F_M) (N := 15) (v := .ref (ad 7)) hx hb hts inT_M hown hK hP (PM_o hM) rfl 10 (by decide) tw_583 (fun _ h => h) rfl d_M_task_190 ?_
                refine lv_iload_n hx hb d_M_task_193 rfl (zl hl rfl) ?_
                refine z_iald hx hb hK hP 0 (PM_7 hM) rfl k rfl (by omega) (by decide) d_M_task_194 ?_
                refine lv_aload_n hx hb d_M_task_195 rfl (zl hl rfl) ?_
                refine z_get (C := R_M) (T := F_M) (N := 15) (v := .int time) hx hb hts inT_M hown hK hP (PM_o hM) rfl 1 (by decide) tw_574 (fun _ h => h) rfl d_M_task_196 ?_
                refine lv_icmp_gt (tgt := 210) hx hb d_M_task_199 (by decide) (fun c_42 => ?_) (fun c_42 => ?_)
                · have b6 := zlt_nle c_42
                  refine lv_iconst (v := (-1)) hx hb d_M_task_210 (by decide) ?_
                  exact z_iretR hx hb hr hlocks hP hD hS (by simp [mTask, cTask, *]) (⟨by first | (simp only [cTask, *, reduceIte, Bool.true_and, Bool.false_and, Bool.and_false, Bool.and_true, Bool.false_eq_true]; done) | (simp only [cTask, *, reduceIte, Bool.true_and, Bool.false_and, Bool.and_false, Bool.and_true, Bool.false_eq_true]; exact hM), hF⟩) d_M_task_211
                · have b6 := znlt_le c_42
                  refine lv_aload_n hx hb d_M_task_202 rfl (zl hl rfl) ?_
                  refine lv_iload_n hx hb d_M_task_203 rfl (zl hl rfl) ?_
                  refine z_calli (va_runV (As := [.int (nI k)]) (rest := []) ⟨hx, hb, hml, hown, hts⟩ (c_M_weight l hP hM k (by omega) (hq k (by omega)).1 (hq k (by omega)).2) (cwV 1 hts (tt_V tw_667 tw_664 tw_666 tw_22 tw_36) rfl rfl rfl (by decide +kernel) ⟨Nat.le_of_ble_eq_true rfl, Nat.le_of_ble_eq_true rfl⟩) (zPc_V hKN hP (ci := 4) (q := (R_M, F_M, 15)) rfl (PM_o hM)) rfl rfl hl.1 rfl (lv_room (Nat.le_of_ble_eq_true rfl)) d_M_task_204 ⟨Nat.zero_le _, Nat.zero_le _⟩) hS (fun locs hS => ?_)
                  refine lv_goto (tgt := 211) hx hb d_M_task_207 (by decide) ?_
                  exact z_iretR hx hb hr hlocks hP hD hS (by simp [mTask, cTask, *]) (⟨by first | (simp only [cTask, *, reduceIte, Bool.true_and, Bool.false_and, Bool.and_false, Bool.and_true, Bool.false_eq_true]; done) | (simp only [cTask, *, reduceIte, Bool.true_and, Bool.false_and, Bool.and_false, Bool.and_true, Bool.false_eq_true]; exact hM), hF⟩) d_M_task_211
            · obtain rfl | rfl | rfl | rfl | rfl | rfl : k9 = 0 ∨ k9 = 1 ∨ k9 = 2 ∨ k9 = 3 ∨ k9 = 4 ∨ k9 = 5 := by omega
              · have e9 : what = 0 := hkk
                clear hkk
                subst e9
                refine lv_tableIn (tgt := 108) hx hb d_M_task_69 (by decide) (by decide) rfl (by decide) ?_
                refine lv_aload_n hx hb d_M_task_108 rfl (zl hl rfl) ?_
                refine z_get (C := R_M) (T := F_M) (N := 15) (v := .ref (ad 6)) hx hb hts inT_M hown hK hP (PM_o hM) rfl 9 (by decide) tw_582 (fun _ h => h) rfl d_M_task_109 ?_
                refine lv_iload_n hx hb d_M_task_112 rfl (zl hl rfl) ?_
                refine z_iald hx hb hK hP 0 (PM_6 hM) rfl k rfl (by omega) (by decide) d_M_task_113 ?_
                exact z_iretR hx hb hr hlocks hP hD hS (by simp [mTask, cTask, *]) (⟨by first | (simp only [cTask, *, reduceIte, Bool.true_and, Bool.false_and, Bool.and_false, Bool.and_true, Bool.false_eq_true]; done) | (simp only [cTask, *, reduceIte, Bool.true_and, Bool.false_and, Bool.and_false, Bool.and_true, Bool.false_eq_true]; exact hM), hF⟩) d_M_task_114
              · have e9 : what = 1 := hkk
                clear hkk
                subst e9
                refine lv_tableIn (tgt := 115) hx hb d_M_task_69 (by decide) (by decide) rfl (by decide) ?_
                refine lv_aload_n hx hb d_M_task_115 rfl (zl hl rfl) ?_
                refine z_get (C := R_M) (T := F_M) (N := 15) (v := .ref (ad 5)) hx hb hts inT_M hown hK hP (PM_o hM) rfl 8 (by decide) tw_581 (fun _ h => h) rfl d_M_task_116 ?_
                refine lv_iload_n hx hb d_M_task_119 rfl (zl hl rfl) ?_
                refine z_iald hx hb hK hP 0 (PM_5 hM) rfl k rfl (by omega) (by decide) d_M_task_120 ?_
                exact z_iretR hx hb hr hlocks hP hD hS (by simp [mTask, cTask, *]) (⟨by first | (simp only [cTask, *, reduceIte, Bool.true_and, Bool.false_and, Bool.and_false, Bool.and_true, Bool.false_eq_true]; done) | (simp only [cTask, *, reduceIte, Bool.true_and, Bool.false_and, Bool.and_false, Bool.and_true, Bool.false_eq_true]; exact hM), hF⟩) d_M_task_121
              · have e9 : what = 2 := hkk
                clear hkk
                subst e9
                refine lv_tableIn (tgt := 122) hx hb d_M_task_69 (by decide) (by decide) rfl (by decide) ?_
                refine lv_iload_n hx hb d_M_task_122 rfl (zl hl rfl) ?_
                refine lv_if_eq (tgt := 135) hx hb d_M_task_123 (by decide) (fun c_43 => ?_) (fun c_43 => ?_)
                · exact absurd c_43 (by decide)
                · refine lv_aload_n hx hb d_M_task_126 rfl (zl hl rfl) ?_
                  refine z_get (C := R_M) (T := F_M) (N := 15) (v := .ref (ad 7)) hx hb hts inT_M hown hK hP (PM_o hM) rfl 10 (by decide) tw_583 (fun _ h => h) rfl d_M_task_127 ?_
                  refine lv_iload_n hx hb d_M_task_130 rfl (zl hl rfl) ?_
                  refine z_iald hx hb hK hP 0 (PM_7 hM) rfl k rfl (by omega) (by decide) d_M_task_131 ?_
                  refine lv_goto (tgt := 136) hx hb d_M_task_132 (by decide) ?_
                  exact z_iretR hx hb hr hlocks hP hD hS (by simp [mTask, cTask, *]) (⟨by first | (simp only [cTask, *, reduceIte, Bool.true_and, Bool.false_and, Bool.and_false, Bool.and_true, Bool.false_eq_true]; done) | (simp only [cTask, *, reduceIte, Bool.true_and, Bool.false_and, Bool.and_false, Bool.and_true, Bool.false_eq_true]; exact hM), hF⟩) d_M_task_136
              · have e9 : what = 3 := hkk
                clear hkk
                subst e9
                refine lv_tableIn (tgt := 137) hx hb d_M_task_69 (by decide) (by decide) rfl (by decide) ?_
                refine lv_iload hx hb d_M_task_137 (zl hl rfl) ?_
                refine lv_if_eq (tgt := 151) hx hb d_M_task_139 (by decide) (fun c_44 => ?_) (fun c_44 => ?_)
                · refine lv_iconst (v := (-1)) hx hb d_M_task_151 (by decide) ?_
                  exact z_iretR hx hb hr hlocks hP hD hS (by simp [mTask, cTask, *]) (⟨by first | (simp only [cTask, *, reduceIte, Bool.true_and, Bool.false_and, Bool.and_false, Bool.and_true, Bool.false_eq_true]; done) | (simp only [cTask, *, reduceIte, Bool.true_and, Bool.false_and, Bool.and_false, Bool.and_true, Bool.false_eq_true]; exact hM), hF⟩) d_M_task_152
                · exact absurd rfl c_44
              · have e9 : what = 4 := hkk
                clear hkk
                subst e9
                refine lv_tableIn (tgt := 153) hx hb d_M_task_69 (by decide) (by decide) rfl (by decide) ?_
                refine lv_iload hx hb d_M_task_153 (zl hl rfl) ?_
                refine lv_if_eq (tgt := 167) hx hb d_M_task_155 (by decide) (fun c_45 => ?_) (fun c_45 => ?_)
                · refine lv_iconst (v := (-1)) hx hb d_M_task_167 (by decide) ?_
                  exact z_iretR hx hb hr hlocks hP hD hS (by simp [mTask, cTask, *]) (⟨by first | (simp only [cTask, *, reduceIte, Bool.true_and, Bool.false_and, Bool.and_false, Bool.and_true, Bool.false_eq_true]; done) | (simp only [cTask, *, reduceIte, Bool.true_and, Bool.false_and, Bool.and_false, Bool.and_true, Bool.false_eq_true]; exact hM), hF⟩) d_M_task_168
                · exact absurd rfl c_45
              · have e9 : what = 5 := hkk
                clear hkk
                subst e9
                refine lv_tableIn (tgt := 169) hx hb d_M_task_69 (by decide) (by decide) rfl (by decide) ?_
                refine lv_iload hx hb d_M_task_169 (zl hl rfl) ?_
                refine lv_if_eq (tgt := 183) hx hb d_M_task_171 (by decide) (fun c_46 => ?_) (fun c_46 => ?_)
                · refine lv_iconst (v := (-1)) hx hb d_M_task_183 (by decide) ?_
                  exact z_iretR hx hb hr hlocks hP hD hS (by simp [mTask, cTask, *]) (⟨by first | (simp only [cTask, *, reduceIte, Bool.true_and, Bool.false_and, Bool.and_false, Bool.and_true, Bool.false_eq_true]; done) | (simp only [cTask, *, reduceIte, Bool.true_and, Bool.false_and, Bool.and_false, Bool.and_true, Bool.false_eq_true]; exact hM), hF⟩) d_M_task_184
                · exact absurd rfl c_46
          · exact absurd (c_7.symm.trans c_33) (by decide)
      · exact absurd (by decide) c_6
    · have b2 := zb_f c_4
      refine lv_iconst (v := 1) hx hb d_M_task_19 (by decide) ?_
      refine lv_goto (tgt := 24) hx hb d_M_task_20 (by decide) ?_
      have hD0 := hD
      refine z_put (C := R_M) (T := F_M) (N := 15) (v := .int 1) hx hb hts inT_M ft_M ft_M_ok fn_M hown hK hP hD hS (PM_o hM) rfl 0 (by decide) tw_573 (fun _ h => h) rfl rfl rfl (by simp) d_M_task_24 (fun ws H locs hP hD hS u_47 => ?_)
      have hF := zfrM_tr hF (zfrM_up hD0 (PM_o hM) rfl u_47)
      have hM := PM_wo (thr' := 1) (time' := time) (n' := n) (tok' := tok) hM u_47
      refine lv_aload_n hx hb d_M_task_27 rfl (zl hl rfl) ?_
      refine z_get (C := R_M) (T := F_M) (N := 15) (v := .int 1) hx hb hts inT_M hown hK hP (PM_o hM) rfl 0 (by decide) tw_573 (fun _ h => h) rfl d_M_task_28 ?_
      refine lv_if_le (tgt := 36) hx hb d_M_task_31 (by decide) (fun c_48 => ?_) (fun c_48 => ?_)
      · exact absurd c_48 (by decide)
      · refine lv_iconst (v := 0) hx hb d_M_task_34 (by decide) ?_
        exact z_iretR hx hb hr hlocks hP hD hS (by simp [mTask, cTask, *]) (⟨by first | (simp only [cTask, *, reduceIte, Bool.true_and, Bool.false_and, Bool.and_false, Bool.and_true, Bool.false_eq_true]; done) | (simp only [cTask, *, reduceIte, Bool.true_and, Bool.false_and, Bool.and_false, Bool.and_true, Bool.false_eq_true]; exact hM), hF⟩) d_M_task_35
set_option maxHeartbeats 4000000 in
set_option maxRecDepth 100000 in
theorem c_M_count (l : Launch) {D : va_G} {ws : va_W} {H : Heap} (hP : va_P D vwCl ws H) {kk : Nat → ClassId} {ad : Nat → Nat} {thr time tok : Int32} {n : Nat} {f : Nat → Nat → Int32} {ky : Nat → Int64} (hM : PM kk ad thr time n tok f ky ws)  {B : Nat} (hD : va_D (fun q => B ≤ q) ws) (what : Int32) (hn : n ≤ 400) : Met l y_M_count (Cond.code y_M_count b_M_count 2 (some .int) :: TT) ({ frames := 3, cells := 0, slots := 0, locals := 180 }) (zPc [.ref (ad 0), .int what] H D vwCl (TY kk)) (zR D vwCl B (some (.int (mCount f time n what))) (fun ws' => PM kk ad 0 time n tok f ky ws' ∧ zfrM ws ws')) 0 0 (fun q => B ≤ q) := by
  refine z_body (by decide) (Nat.le_of_ble_eq_true rfl) ?_
  intro p e s m below meth c ls C0 hH hKN hl
  obtain ⟨hx, hb, hr, hts, hown, hlocks, hml⟩ := C0
  subst hH
  have hK := hKN.1
  have hN := hKN.2
  have hS : va_S (fun q => B ≤ q) s.heap s.heap [] := va_S.rf
  have hF : zfrM ws ws := zfrM_rf
  have hl : lv_has ls 2 [(0, .ref (ad 0)), (1, .int what)] := hl
  refine lv_aload_n hx hb d_M_count_0 rfl (zl hl rfl) ?_
  refine lv_iconst (v := 0) hx hb d_M_count_1 (by decide) ?_
  have hD0 := hD
  refine z_put (C := R_M) (T := F_M) (N := 15) (v := .int 0) hx hb hts inT_M ft_M ft_M_ok fn_M hown hK hP hD hS (PM_o hM) rfl 0 (by decide) tw_573 (fun _ h => h) rfl rfl rfl (by simp) d_M_count_2 (fun ws H locs hP hD hS u_1 => ?_)
  have hF := zfrM_tr hF (zfrM_up hD0 (PM_o hM) rfl u_1)
  have hM := PM_wo (thr' := 0) (time' := time) (n' := n) (tok' := tok) hM u_1
  refine lv_iload_n hx hb d_M_count_5 rfl (zl hl rfl) ?_
  refine lv_iconst (v := 5) hx hb d_M_count_6 (by decide) ?_
  refine lv_bipush (v := 12) hx hb d_M_count_7 (by decide) ?_
  refine z_calli (va_runS (As := [.int what, .int 5, .int 12]) (rest := []) ⟨hx, hb, hml, hown, hts⟩ (c_M_within l hP what 5 12) (va_cwS 3 hts (tt_S tw_631 tw_629 tw_630 tw_36) rfl rfl rfl (by decide +kernel) ⟨Nat.le_of_ble_eq_true rfl, Nat.le_of_ble_eq_true rfl⟩) (zPc_S hKN) rfl rfl hl.1 rfl (lv_room (Nat.le_of_ble_eq_true rfl)) d_M_count_9 ⟨Nat.zero_le _, Nat.zero_le _⟩) hS (fun locs hS => ?_)
  refine lv_if_eq (tgt := 23) hx hb d_M_count_12 (by decide) (fun c_2 => ?_) (fun c_2 => ?_)
  · have b1 := zb_f c_2
    refine lv_iload_n hx hb d_M_count_23 rfl (zl hl rfl) ?_
    refine lv_bipush (v := 13) hx hb d_M_count_24 (by decide) ?_
    refine lv_bipush (v := 20) hx hb d_M_count_26 (by decide) ?_
    refine z_calli (va_runS (As := [.int what, .int 13, .int 20]) (rest := []) ⟨hx, hb, hml, hown, hts⟩ (c_M_within l hP what 13 20) (va_cwS 3 hts (tt_S tw_631 tw_629 tw_630 tw_36) rfl rfl rfl (by decide +kernel) ⟨Nat.le_of_ble_eq_true rfl, Nat.le_of_ble_eq_true rfl⟩) (zPc_S hKN) rfl rfl hl.1 rfl (lv_room (Nat.le_of_ble_eq_true rfl)) d_M_count_28 ⟨Nat.zero_le _, Nat.zero_le _⟩) hS (fun locs hS => ?_)
    refine lv_if_eq (tgt := 43) hx hb d_M_count_31 (by decide) (fun c_3 => ?_) (fun c_3 => ?_)
    · have b2 := zb_f c_3
      refine lv_iload_n hx hb d_M_count_43 rfl (zl hl rfl) ?_
      refine lv_bipush (v := 21) hx hb d_M_count_44 (by decide) ?_
      refine lv_bipush (v := 24) hx hb d_M_count_46 (by decide) ?_
      refine z_calli (va_runS (As := [.int what, .int 21, .int 24]) (rest := []) ⟨hx, hb, hml, hown, hts⟩ (c_M_within l hP what 21 24) (va_cwS 3 hts (tt_S tw_631 tw_629 tw_630 tw_36) rfl rfl rfl (by decide +kernel) ⟨Nat.le_of_ble_eq_true rfl, Nat.le_of_ble_eq_true rfl⟩) (zPc_S hKN) rfl rfl hl.1 rfl (lv_room (Nat.le_of_ble_eq_true rfl)) d_M_count_48 ⟨Nat.zero_le _, Nat.zero_le _⟩) hS (fun locs hS => ?_)
      refine lv_if_eq (tgt := 63) hx hb d_M_count_51 (by decide) (fun c_4 => ?_) (fun c_4 => ?_)
      · have b3 := zb_f c_4
        refine lv_iload_n hx hb d_M_count_63 rfl (zl hl rfl) ?_
        rcases z_sw what 4 (by decide) with d_5 | ⟨k9, hk9, hkk⟩
        · have n_6 : ¬ what = 0 := fun h => absurd (h ▸ d_5) (by decide)
          have n_7 : ¬ what = 1 := fun h => absurd (h ▸ d_5) (by decide)
          have n_8 : ¬ what = 2 := fun h => absurd (h ▸ d_5) (by decide)
          have n_9 : ¬ what = 3 := fun h => absurd (h ▸ d_5) (by decide)
          have n_10 : ¬ what = 4 := fun h => absurd (h ▸ d_5) (by decide)
          refine lv_tableOut (tgt := 127) hx hb d_M_count_64 d_5 (by decide) ?_
          refine lv_iconst (v := (-1)) hx hb d_M_count_127 (by decide) ?_
          exact z_iretR hx hb hr hlocks hP hD hS (by simp [mCount, *]) (⟨hM, hF⟩) d_M_count_128
        · obtain rfl | rfl | rfl | rfl | rfl : k9 = 0 ∨ k9 = 1 ∨ k9 = 2 ∨ k9 = 3 ∨ k9 = 4 := by omega
          · have e9 : what = 0 := hkk
            clear hkk
            subst e9
            refine lv_tableIn (tgt := 100) hx hb d_M_count_64 (by decide) (by decide) rfl (by decide) ?_
            refine lv_aload_n hx hb d_M_count_100 rfl (zl hl rfl) ?_
            refine z_get (C := R_M) (T := F_M) (N := 15) (v := .int time) hx hb hts inT_M hown hK hP (PM_o hM) rfl 1 (by decide) tw_574 (fun _ h => h) rfl d_M_count_101 ?_
            exact z_iretR hx hb hr hlocks hP hD hS (by simp [mCount, *]) (⟨hM, hF⟩) d_M_count_104
          · have e9 : what = 1 := hkk
            clear hkk
            subst e9
            refine lv_tableIn (tgt := 105) hx hb d_M_count_64 (by decide) (by decide) rfl (by decide) ?_
            refine lv_aload_n hx hb d_M_count_105 rfl (zl hl rfl) ?_
            refine z_get (C := R_M) (T := F_M) (N := 15) (v := .int (nI n)) hx hb hts inT_M hown hK hP (PM_o hM) rfl 2 (by decide) tw_575 (fun _ h => h) rfl d_M_count_106 ?_
            exact z_iretR hx hb hr hlocks hP hD hS (by simp [mCount, *]) (⟨hM, hF⟩) d_M_count_109
          · have e9 : what = 2 := hkk
            clear hkk
            subst e9
            refine lv_tableIn (tgt := 110) hx hb d_M_count_64 (by decide) (by decide) rfl (by decide) ?_
            refine lv_aload_n hx hb d_M_count_110 rfl (zl hl rfl) ?_
            refine z_calli (va_runV (As := []) (rest := []) ⟨hx, hb, hml, hown, hts⟩ (c_M_lives l hP hM hn) (cwV 0 hts (tt_V tw_647 tw_644 tw_646 tw_18 tw_36) rfl rfl rfl (by decide +kernel) ⟨Nat.le_of_ble_eq_true rfl, Nat.le_of_ble_eq_true rfl⟩) (zPc_V hKN hP (ci := 4) (q := (R_M, F_M, 15)) rfl (PM_o hM)) rfl rfl hl.1 rfl (lv_room (Nat.le_of_ble_eq_true rfl)) d_M_count_111 ⟨Nat.zero_le _, Nat.zero_le _⟩) hS (fun locs hS => ?_)
            exact z_iretR hx hb hr hlocks hP hD hS (by simp [mCount, *]) (⟨hM, hF⟩) d_M_count_114
          · have e9 : what = 3 := hkk
            clear hkk
            subst e9
            refine lv_tableIn (tgt := 115) hx hb d_M_count_64 (by decide) (by decide) rfl (by decide) ?_
            refine lv_aload_n hx hb d_M_count_115 rfl (zl hl rfl) ?_
            refine lv_iconst (v := 1) hx hb d_M_count_116 (by decide) ?_
            refine z_calli (va_runV (As := [.int 1]) (rest := []) ⟨hx, hb, hml, hown, hts⟩ (c_M_inState l hP hM 1 hn) (cwV 1 hts (tt_V tw_737 tw_734 tw_736 tw_28 tw_36) rfl rfl rfl (by decide +kernel) ⟨Nat.le_of_ble_eq_true rfl, Nat.le_of_ble_eq_true rfl⟩) (zPc_V hKN hP (ci := 4) (q := (R_M, F_M, 15)) rfl (PM_o hM)) rfl rfl hl.1 rfl (lv_room (Nat.le_of_ble_eq_true rfl)) d_M_count_117 ⟨Nat.zero_le _, Nat.zero_le _⟩) hS (fun locs hS => ?_)
            exact z_iretR hx hb hr hlocks hP hD hS (by simp [mCount, *]) (⟨hM, hF⟩) d_M_count_120
          · have e9 : what = 4 := hkk
            clear hkk
            subst e9
            refine lv_tableIn (tgt := 121) hx hb d_M_count_64 (by decide) (by decide) rfl (by decide) ?_
            refine lv_aload_n hx hb d_M_count_121 rfl (zl hl rfl) ?_
            refine lv_iconst (v := 3) hx hb d_M_count_122 (by decide) ?_
            refine z_calli (va_runV (As := [.int 3]) (rest := []) ⟨hx, hb, hml, hown, hts⟩ (c_M_inState l hP hM 3 hn) (cwV 1 hts (tt_V tw_737 tw_734 tw_736 tw_28 tw_36) rfl rfl rfl (by decide +kernel) ⟨Nat.le_of_ble_eq_true rfl, Nat.le_of_ble_eq_true rfl⟩) (zPc_V hKN hP (ci := 4) (q := (R_M, F_M, 15)) rfl (PM_o hM)) rfl rfl hl.1 rfl (lv_room (Nat.le_of_ble_eq_true rfl)) d_M_count_123 ⟨Nat.zero_le _, Nat.zero_le _⟩) hS (fun locs hS => ?_)
            exact z_iretR hx hb hr hlocks hP hD hS (by simp [mCount, *]) (⟨hM, hF⟩) d_M_count_126
      · have b3 := zb_t c_4
        refine lv_aload_n hx hb d_M_count_54 rfl (zl hl rfl) ?_
        refine lv_iload_n hx hb d_M_count_55 rfl (zl hl rfl) ?_
        refine lv_bipush (v := 21) hx hb d_M_count_56 (by decide) ?_
        refine lv_isub hx hb d_M_count_58 ?_
        refine z_calli (va_runV (As := [.int (what - 21)]) (rest := []) ⟨hx, hb, hml, hown, hts⟩ (c_M_waitingIn l hP hM (what - 21) hn) (cwV 1 hts (tt_V tw_733 tw_730 tw_732 tw_27 tw_36) rfl rfl rfl (by decide +kernel) ⟨Nat.le_of_ble_eq_true rfl, Nat.le_of_ble_eq_true rfl⟩) (zPc_V hKN hP (ci := 4) (q := (R_M, F_M, 15)) rfl (PM_o hM)) rfl rfl hl.1 rfl (lv_room (Nat.le_of_ble_eq_true rfl)) d_M_count_59 ⟨Nat.zero_le _, Nat.zero_le _⟩) hS (fun locs hS => ?_)
        exact z_iretR hx hb hr hlocks hP hD hS (by simp [mCount, *]) (⟨hM, hF⟩) d_M_count_62
    · have b2 := zb_t c_3
      refine lv_aload_n hx hb d_M_count_34 rfl (zl hl rfl) ?_
      refine lv_iload_n hx hb d_M_count_35 rfl (zl hl rfl) ?_
      refine lv_bipush (v := 13) hx hb d_M_count_36 (by decide) ?_
      refine lv_isub hx hb d_M_count_38 ?_
      refine z_calli (va_runV (As := [.int (what - 13)]) (rest := []) ⟨hx, hb, hml, hown, hts⟩ (c_M_lentOf l hP hM (what - 13) hn) (cwV 1 hts (tt_V tw_663 tw_660 tw_662 tw_21 tw_36) rfl rfl rfl (by decide +kernel) ⟨Nat.le_of_ble_eq_true rfl, Nat.le_of_ble_eq_true rfl⟩) (zPc_V hKN hP (ci := 4) (q := (R_M, F_M, 15)) rfl (PM_o hM)) rfl rfl hl.1 rfl (lv_room (Nat.le_of_ble_eq_true rfl)) d_M_count_39 ⟨Nat.zero_le _, Nat.zero_le _⟩) hS (fun locs hS => ?_)
      exact z_iretR hx hb hr hlocks hP hD hS (by simp [mCount, *]) (⟨hM, hF⟩) d_M_count_42
  · have b1 := zb_t c_2
    refine lv_aload_n hx hb d_M_count_15 rfl (zl hl rfl) ?_
    refine lv_iload_n hx hb d_M_count_16 rfl (zl hl rfl) ?_
    refine lv_iconst (v := 5) hx hb d_M_count_17 (by decide) ?_
    refine lv_isub hx hb d_M_count_18 ?_
    refine z_calli (va_runV (As := [.int (what - 5)]) (rest := []) ⟨hx, hb, hml, hown, hts⟩ (c_M_lentTo l hP hM (what - 5) hn) (cwV 1 hts (tt_V tw_671 tw_668 tw_670 tw_23 tw_36) rfl rfl rfl (by decide +kernel) ⟨Nat.le_of_ble_eq_true rfl, Nat.le_of_ble_eq_true rfl⟩) (zPc_V hKN hP (ci := 4) (q := (R_M, F_M, 15)) rfl (PM_o hM)) rfl rfl hl.1 rfl (lv_room (Nat.le_of_ble_eq_true rfl)) d_M_count_19 ⟨Nat.zero_le _, Nat.zero_le _⟩) hS (fun locs hS => ?_)
    exact z_iretR hx hb hr hlocks hP hD hS (by simp [mCount, *]) (⟨hM, hF⟩) d_M_count_22
set_option maxHeartbeats 4000000 in
set_option maxRecDepth 100000 in
theorem c_M_set (l : Launch) {D : va_G} {ws : va_W} {H : Heap} (hP : va_P D vwCl ws H) {kk : Nat → ClassId} {ad : Nat → Nat} {thr time tok : Int32} {n : Nat} {f : Nat → Nat → Int32} {ky : Nat → Int64} (hM : PM kk ad thr time n tok f ky ws)  {B : Nat} (hD : va_D (fun q => B ≤ q) ws) (what which v : Int32) : Met l y_M_set (Cond.code y_M_set b_M_set 4 (some .boolean) :: TT) ({ frames := 2, cells := 0, slots := 0, locals := 120 }) (zPc [.ref (ad 0), .int what, .int which, .int v] H D vwCl (TY kk)) (zR D vwCl B (some (.int (zb (cSet what which v)))) (fun ws' => PM kk ad 0 time n tok (mSet f what which v) ky ws' ∧ zfrM ws ws')) 0 0 (fun q => B ≤ q) := by
  refine z_body (by decide) (Nat.le_of_ble_eq_true rfl) ?_
  intro p e s m below meth c ls C0 hH hKN hl
  obtain ⟨hx, hb, hr, hts, hown, hlocks, hml⟩ := C0
  subst hH
  have hK := hKN.1
  have hN := hKN.2
  have hS : va_S (fun q => B ≤ q) s.heap s.heap [] := va_S.rf
  have hF : zfrM ws ws := zfrM_rf
  have hl : lv_has ls 4 [(0, .ref (ad 0)), (1, .int what), (2, .int which), (3, .int v)] := hl
  refine lv_aload_n hx hb d_M_set_0 rfl (zl hl rfl) ?_
  refine lv_iconst (v := 0) hx hb d_M_set_1 (by decide) ?_
  have hD0 := hD
  refine z_put (C := R_M) (T := F_M) (N := 15) (v := .int 0) hx hb hts inT_M ft_M ft_M_ok fn_M hown hK hP hD hS (PM_o hM) rfl 0 (by decide) tw_573 (fun _ h => h) rfl rfl rfl (by simp) d_M_set_2 (fun ws H locs hP hD hS u_1 => ?_)
  have hF := zfrM_tr hF (zfrM_up hD0 (PM_o hM) rfl u_1)
  have hM := PM_wo (thr' := 0) (time' := time) (n' := n) (tok' := tok) hM u_1
  refine lv_iload_n hx hb d_M_set_5 rfl (zl hl rfl) ?_
  refine lv_iconst (v := 0) hx hb d_M_set_6 (by decide) ?_
  refine lv_bipush (v := 6) hx hb d_M_set_7 (by decide) ?_
  refine z_calli (va_runS (As := [.int what, .int 0, .int 6]) (rest := []) ⟨hx, hb, hml, hown, hts⟩ (c_M_within l hP what 0 6) (va_cwS 3 hts (tt_S tw_631 tw_629 tw_630 tw_36) rfl rfl rfl (by decide +kernel) ⟨Nat.le_of_ble_eq_true rfl, Nat.le_of_ble_eq_true rfl⟩) (zPc_S hKN) rfl rfl hl.1 rfl (lv_room (Nat.le_of_ble_eq_true rfl)) d_M_set_9 ⟨Nat.zero_le _, Nat.zero_le _⟩) hS (fun locs hS => ?_)
  refine lv_if_eq (tgt := 50) hx hb d_M_set_12 (by decide) (fun c_2 => ?_) (fun c_2 => ?_)
  · have b1 := zb_f c_2
    refine lv_iconst (v := 0) hx hb d_M_set_50 (by decide) ?_
    exact z_zretR hx hb hr hlocks hP hD hS (by simp [cSet, zb, *]) (⟨by unfold mSet; first | (simp only [cSet, *, reduceIte, Bool.true_and, Bool.false_and, Bool.and_false, Bool.and_true, Bool.false_eq_true]; done) | (simp only [cSet, *, reduceIte, Bool.true_and, Bool.false_and, Bool.and_false, Bool.and_true, Bool.false_eq_true]; exact hM), hF⟩) d_M_set_51
  · have b1 := zb_t c_2
    refine lv_iload_n hx hb d_M_set_15 rfl (zl hl rfl) ?_
    refine lv_iconst (v := 0) hx hb d_M_set_16 (by decide) ?_
    refine lv_iload_n hx hb d_M_set_17 rfl (zl hl rfl) ?_
    refine lv_bipush (v := 6) hx hb d_M_set_18 (by decide) ?_
    refine lv_icmp_ge (tgt := 27) hx hb d_M_set_20 (by decide) (fun c_3 => ?_) (fun c_3 => ?_)
    · refine lv_bipush (v := 7) hx hb d_M_set_27 (by decide) ?_
      refine z_calli (va_runS (As := [.int which, .int 0, .int 7]) (rest := []) ⟨hx, hb, hml, hown, hts⟩ (c_M_within l hP which 0 7) (va_cwS 3 hts (tt_S tw_631 tw_629 tw_630 tw_36) rfl rfl rfl (by decide +kernel) ⟨Nat.le_of_ble_eq_true rfl, Nat.le_of_ble_eq_true rfl⟩) (zPc_S hKN) rfl rfl hl.1 rfl (lv_room (Nat.le_of_ble_eq_true rfl)) d_M_set_29 ⟨Nat.zero_le _, Nat.zero_le _⟩) hS (fun locs hS => ?_)
      refine lv_if_eq (tgt := 50) hx hb d_M_set_32 (by decide) (fun c_4 => ?_) (fun c_4 => ?_)
      · have b2 := zb_f c_4
        refine lv_iconst (v := 0) hx hb d_M_set_50 (by decide) ?_
        exact z_zretR hx hb hr hlocks hP hD hS (by simp [cSet, zb, *]) (⟨by unfold mSet; first | (simp only [cSet, *, reduceIte, Bool.true_and, Bool.false_and, Bool.and_false, Bool.and_true, Bool.false_eq_true]; done) | (simp only [cSet, *, reduceIte, Bool.true_and, Bool.false_and, Bool.and_false, Bool.and_true, Bool.false_eq_true]; exact hM), hF⟩) d_M_set_51
      · have b2 := zb_t c_4
        refine lv_iload_n hx hb d_M_set_35 rfl (zl hl rfl) ?_
        refine lv_iload_n hx hb d_M_set_36 rfl (zl hl rfl) ?_
        refine z_calli (va_runS (As := [.int what]) (rest := [.int v]) ⟨hx, hb, hml, hown, hts⟩ (c_M_least l hP what) (va_cwS 1 hts (tt_S tw_710 tw_708 tw_709 tw_36) rfl rfl rfl (by decide +kernel) ⟨Nat.le_of_ble_eq_true rfl, Nat.le_of_ble_eq_true rfl⟩) (zPc_S hKN) rfl rfl hl.1 rfl (lv_room (Nat.le_of_ble_eq_true rfl)) d_M_set_37 ⟨Nat.zero_le _, Nat.zero_le _⟩) hS (fun locs hS => ?_)
        refine lv_iload_n hx hb d_M_set_40 rfl (zl hl rfl) ?_
        refine z_calli (va_runS (As := [.int what]) (rest := [.int (sLeast what), .int v]) ⟨hx, hb, hml, hown, hts⟩ (c_M_greatest l hP what) (va_cwS 1 hts (tt_S tw_713 tw_711 tw_712 tw_36) rfl rfl rfl (by decide +kernel) ⟨Nat.le_of_ble_eq_true rfl, Nat.le_of_ble_eq_true rfl⟩) (zPc_S hKN) rfl rfl hl.1 rfl (lv_room (Nat.le_of_ble_eq_true rfl)) d_M_set_41 ⟨Nat.zero_le _, Nat.zero_le _⟩) hS (fun locs hS => ?_)
        refine z_calli (va_runS (As := [.int v, .int (sLeast what), .int (sGreat what)]) (rest := []) ⟨hx, hb, hml, hown, hts⟩ (c_M_within l hP v (sLeast what) (sGreat what)) (va_cwS 3 hts (tt_S tw_631 tw_629 tw_630 tw_36) rfl rfl rfl (by decide +kernel) ⟨Nat.le_of_ble_eq_true rfl, Nat.le_of_ble_eq_true rfl⟩) (zPc_S hKN) rfl rfl hl.1 rfl (lv_room (Nat.le_of_ble_eq_true rfl)) d_M_set_44 ⟨Nat.zero_le _, Nat.zero_le _⟩) hS (fun locs hS => ?_)
        refine lv_if_ne (tgt := 52) hx hb d_M_set_47 (by decide) (fun c_5 => ?_) (fun c_5 => ?_)
        · have b3 := zb_t c_5
          refine lv_iload_n hx hb d_M_set_52 rfl (zl hl rfl) ?_
          refine lv_bipush (v := 6) hx hb d_M_set_53 (by decide) ?_
          refine lv_icmp_ge (tgt := 73) hx hb d_M_set_55 (by decide) (fun c_6 => ?_) (fun c_6 => ?_)
          · obtain ⟨x2, hx2, rfl⟩ := sWithin_nI (h := 7) (by decide) b2
            have ht2 : tx (nI x2) = x2 := tx_nI (by omega)
            refine lv_aload_n hx hb d_M_set_73 rfl (zl hl rfl) ?_
            refine z_get (C := R_M) (T := F_M) (N := 15) (v := .ref (ad 11)) hx hb hts inT_M hown hK hP (PM_o hM) rfl 14 (by decide) tw_587 (fun _ h => h) rfl d_M_set_74 ?_
            refine lv_iload_n hx hb d_M_set_77 rfl (zl hl rfl) ?_
            refine lv_iload_n hx hb d_M_set_78 rfl (zl hl rfl) ?_
            have hD0 := hD
            refine z_iast hx hb hK hP hD hS 0 (PM_11 hM) rfl x2 rfl (by omega) (by decide) d_M_set_79 (fun ws H locs hP hD hS u_7 => ?_)
            have hF := zfrM_tr hF (zfrM_up hD0 (PM_11 hM) rfl u_7)
            have hM := PM_wa hM 11 (by decide) (by decide) (by decide) rfl u_7
            refine lv_iconst (v := 1) hx hb d_M_set_80 (by decide) ?_
            exact z_zretR hx hb hr hlocks hP hD hS (by simp [cSet, zb, *]) (⟨by unfold mSet; first | (simp only [cSet, *, reduceIte, Bool.true_and, Bool.false_and, Bool.and_false, Bool.and_true, Bool.false_eq_true]; done) | (simp only [cSet, *, reduceIte, Bool.true_and, Bool.false_and, Bool.and_false, Bool.and_true, Bool.false_eq_true]; exact hM), hF⟩) d_M_set_81
          · exact absurd c_3 c_6
        · have b3 := zb_f c_5
          refine lv_iconst (v := 0) hx hb d_M_set_50 (by decide) ?_
          exact z_zretR hx hb hr hlocks hP hD hS (by simp [cSet, zb, *]) (⟨by unfold mSet; first | (simp only [cSet, *, reduceIte, Bool.true_and, Bool.false_and, Bool.and_false, Bool.and_true, Bool.false_eq_true]; done) | (simp only [cSet, *, reduceIte, Bool.true_and, Bool.false_and, Bool.and_false, Bool.and_true, Bool.false_eq_true]; exact hM), hF⟩) d_M_set_51
    · refine lv_iconst (v := 3) hx hb d_M_set_23 (by decide) ?_
      refine lv_goto (tgt := 29) hx hb d_M_set_24 (by decide) ?_
      refine z_calli (va_runS (As := [.int which, .int 0, .int 3]) (rest := []) ⟨hx, hb, hml, hown, hts⟩ (c_M_within l hP which 0 3) (va_cwS 3 hts (tt_S tw_631 tw_629 tw_630 tw_36) rfl rfl rfl (by decide +kernel) ⟨Nat.le_of_ble_eq_true rfl, Nat.le_of_ble_eq_true rfl⟩) (zPc_S hKN) rfl rfl hl.1 rfl (lv_room (Nat.le_of_ble_eq_true rfl)) d_M_set_29 ⟨Nat.zero_le _, Nat.zero_le _⟩) hS (fun locs hS => ?_)
      refine lv_if_eq (tgt := 50) hx hb d_M_set_32 (by decide) (fun c_8 => ?_) (fun c_8 => ?_)
      · have b2 := zb_f c_8
        refine lv_iconst (v := 0) hx hb d_M_set_50 (by decide) ?_
        exact z_zretR hx hb hr hlocks hP hD hS (by simp [cSet, zb, *]) (⟨by unfold mSet; first | (simp only [cSet, *, reduceIte, Bool.true_and, Bool.false_and, Bool.and_false, Bool.and_true, Bool.false_eq_true]; done) | (simp only [cSet, *, reduceIte, Bool.true_and, Bool.false_and, Bool.and_false, Bool.and_true, Bool.false_eq_true]; exact hM), hF⟩) d_M_set_51
      · have b2 := zb_t c_8
        refine lv_iload_n hx hb d_M_set_35 rfl (zl hl rfl) ?_
        refine lv_iload_n hx hb d_M_set_36 rfl (zl hl rfl) ?_
        refine z_calli (va_runS (As := [.int what]) (rest := [.int v]) ⟨hx, hb, hml, hown, hts⟩ (c_M_least l hP what) (va_cwS 1 hts (tt_S tw_710 tw_708 tw_709 tw_36) rfl rfl rfl (by decide +kernel) ⟨Nat.le_of_ble_eq_true rfl, Nat.le_of_ble_eq_true rfl⟩) (zPc_S hKN) rfl rfl hl.1 rfl (lv_room (Nat.le_of_ble_eq_true rfl)) d_M_set_37 ⟨Nat.zero_le _, Nat.zero_le _⟩) hS (fun locs hS => ?_)
        refine lv_iload_n hx hb d_M_set_40 rfl (zl hl rfl) ?_
        refine z_calli (va_runS (As := [.int what]) (rest := [.int (sLeast what), .int v]) ⟨hx, hb, hml, hown, hts⟩ (c_M_greatest l hP what) (va_cwS 1 hts (tt_S tw_713 tw_711 tw_712 tw_36) rfl rfl rfl (by decide +kernel) ⟨Nat.le_of_ble_eq_true rfl, Nat.le_of_ble_eq_true rfl⟩) (zPc_S hKN) rfl rfl hl.1 rfl (lv_room (Nat.le_of_ble_eq_true rfl)) d_M_set_41 ⟨Nat.zero_le _, Nat.zero_le _⟩) hS (fun locs hS => ?_)
        refine z_calli (va_runS (As := [.int v, .int (sLeast what), .int (sGreat what)]) (rest := []) ⟨hx, hb, hml, hown, hts⟩ (c_M_within l hP v (sLeast what) (sGreat what)) (va_cwS 3 hts (tt_S tw_631 tw_629 tw_630 tw_36) rfl rfl rfl (by decide +kernel) ⟨Nat.le_of_ble_eq_true rfl, Nat.le_of_ble_eq_true rfl⟩) (zPc_S hKN) rfl rfl hl.1 rfl (lv_room (Nat.le_of_ble_eq_true rfl)) d_M_set_44 ⟨Nat.zero_le _, Nat.zero_le _⟩) hS (fun locs hS => ?_)
        refine lv_if_ne (tgt := 52) hx hb d_M_set_47 (by decide) (fun c_9 => ?_) (fun c_9 => ?_)
        · have b3 := zb_t c_9
          refine lv_iload_n hx hb d_M_set_52 rfl (zl hl rfl) ?_
          refine lv_bipush (v := 6) hx hb d_M_set_53 (by decide) ?_
          refine lv_icmp_ge (tgt := 73) hx hb d_M_set_55 (by decide) (fun c_10 => ?_) (fun c_10 => ?_)
          · exact absurd c_10 c_3
          · obtain ⟨x1, hx1, rfl⟩ := sWithin_nI (h := 6) (by decide) b1
            have hlo : x1 < 6 := by
              have h9 := c_10
              rcases Nat.lt_or_ge x1 6 with q | q
              · exact q
              · exact absurd (nI_le (a := 6) (b := x1) q (by omega)) h9
            obtain ⟨x2, hx2, rfl⟩ := sWithin_nI (h := 3) (by decide) b2
            have ht1 : tx (nI x1) = x1 := tx_nI (by omega)
            have ht2 : tx (nI x2) = x2 := tx_nI (by omega)
            refine lv_aload_n hx hb d_M_set_58 rfl (zl hl rfl) ?_
            refine z_get (C := R_M) (T := F_M) (N := 15) (v := .ref (ad 10)) hx hb hts inT_M hown hK hP (PM_o hM) rfl 13 (by decide) tw_586 (fun _ h => h) rfl d_M_set_59 ?_
            refine lv_bipush (v := 6) hx hb d_M_set_62 (by decide) ?_
            refine lv_iload_n hx hb d_M_set_64 rfl (zl hl rfl) ?_
            refine lv_imul hx hb d_M_set_65 ?_
            refine lv_iload_n hx hb d_M_set_66 rfl (zl hl rfl) ?_
            refine lv_iadd hx hb d_M_set_67 ?_
            refine lv_iload_n hx hb d_M_set_68 rfl (zl hl rfl) ?_
            have hD0 := hD
            refine z_iast hx hb hK hP hD hS 0 (PM_10 hM) rfl (6 * x2 + x1) (z_idx x2 x1) (by omega) (by decide) d_M_set_69 (fun ws H locs hP hD hS u_11 => ?_)
            have hF := zfrM_tr hF (zfrM_up hD0 (PM_10 hM) rfl u_11)
            have hM := PM_wa hM 10 (by decide) (by decide) (by decide) rfl u_11
            refine lv_goto (tgt := 80) hx hb d_M_set_70 (by decide) ?_
            refine lv_iconst (v := 1) hx hb d_M_set_80 (by decide) ?_
            exact z_zretR hx hb hr hlocks hP hD hS (by simp [cSet, zb, *]) (⟨by unfold mSet; first | (simp only [cSet, *, reduceIte, Bool.true_and, Bool.false_and, Bool.and_false, Bool.and_true, Bool.false_eq_true]; done) | (simp only [cSet, *, reduceIte, Bool.true_and, Bool.false_and, Bool.and_false, Bool.and_true, Bool.false_eq_true]; exact hM), hF⟩) d_M_set_81
        · have b3 := zb_f c_9
          refine lv_iconst (v := 0) hx hb d_M_set_50 (by decide) ?_
          exact z_zretR hx hb hr hlocks hP hD hS (by simp [cSet, zb, *]) (⟨by unfold mSet; first | (simp only [cSet, *, reduceIte, Bool.true_and, Bool.false_and, Bool.and_false, Bool.and_true, Bool.false_eq_true]; done) | (simp only [cSet, *, reduceIte, Bool.true_and, Bool.false_and, Bool.and_false, Bool.and_true, Bool.false_eq_true]; exact hM), hF⟩) d_M_set_51
set_option maxHeartbeats 4000000 in
set_option maxRecDepth 100000 in
theorem c_M_next (l : Launch) {D : va_G} {ws : va_W} {H : Heap} (hP : va_P D vwCl ws H) {kk : Nat → ClassId} {ad : Nat → Nat} {thr time tok : Int32} {n : Nat} {f : Nat → Nat → Int32} {ky : Nat → Int64} (hM : PM kk ad thr time n tok f ky ws)  {B : Nat} (hD : va_D (fun q => B ≤ q) ws) (hn : n ≤ 400) : Met l y_M_next (Cond.code y_M_next b_M_next 3 (some .int) :: TT) ({ frames := 2, cells := 0, slots := 0, locals := 120 }) (zPc [.ref (ad 0)] H D vwCl (TY kk)) (zR D vwCl B (some (.int (nxs f time n))) (fun ws' => PM kk ad 0 time n tok f ky ws' ∧ zfrM ws ws')) 0 0 (fun q => B ≤ q) := by
  refine z_body (by decide) (Nat.le_of_ble_eq_true rfl) ?_
  intro p e s m below meth c ls C0 hH hKN hl
  obtain ⟨hx, hb, hr, hts, hown, hlocks, hml⟩ := C0
  subst hH
  have hK := hKN.1
  have hN := hKN.2
  have hS : va_S (fun q => B ≤ q) s.heap s.heap [] := va_S.rf
  have hF : zfrM ws ws := zfrM_rf
  obtain ⟨ws0, hws0⟩ : ∃ z, z = ws := ⟨_, rfl⟩
  have hF : zfrM ws0 ws := by rw [hws0]; exact zfrM_rf
  rw [show (fun ws' => PM kk ad 0 time n tok f ky ws' ∧ zfrM ws ws') = (fun ws' => PM kk ad 0 time n tok f ky ws' ∧ zfrM ws0 ws') by rw [hws0]]
  have hl : lv_has ls 3 [(0, .ref (ad 0))] := hl
  refine lv_aload_n hx hb d_M_next_0 rfl (zl hl rfl) ?_
  refine lv_iconst (v := 0) hx hb d_M_next_1 (by decide) ?_
  have hD0 := hD
  refine z_put (C := R_M) (T := F_M) (N := 15) (v := .int 0) hx hb hts inT_M ft_M ft_M_ok fn_M hown hK hP hD hS (PM_o hM) rfl 0 (by decide) tw_573 (fun _ h => h) rfl rfl rfl (by simp) d_M_next_2 (fun ws H locs hP hD hS u_1 => ?_)
  have hF := zfrM_tr hF (zfrM_up hD0 (PM_o hM) rfl u_1)
  have hM := PM_wo (thr' := 0) (time' := time) (n' := n) (tok' := tok) hM u_1
  refine lv_iconst (v := (-1)) hx hb d_M_next_5 (by decide) ?_
  refine lv_istore_n (lv' := [(1, .int (-1)), (0, .ref (ad 0))]) hx hb d_M_next_6 rfl hl (by decide) rfl (fun ls hl => ?_)
  refine lv_iconst (v := 0) hx hb d_M_next_7 (by decide) ?_
  refine lv_istore_n (lv' := [(2, .int 0), (1, .int (-1)), (0, .ref (ad 0))]) hx hb d_M_next_8 rfl hl (by decide) rfl (fun ls hl => ?_)
  have key : ∀ (r i : Nat) (ls : Array Slot) (locs : List Loc), i ≤ n → n + 1 ≤ i + r → lv_has ls 3 [(0, .ref (ad 0)), (1, .int (nxs f time i)), (2, .int (nI i))] → va_S (fun q => B ≤ q) s.heap H locs → W p l e ({ frames := 2, cells := 0, slots := 0, locals := 120 }) s m ([.ref (ad 0)] : List Value).toArray below meth c H locs 0 0 (MQ below (zR D vwCl B (some (.int (nxs f time n))) (fun ws' => PM kk ad 0 time n tok f ky ws' ∧ zfrM ws0 ws')) ([.ref (ad 0)] : List Value).toArray s 0 0 (fun q => B ≤ q)) (F0 m 9 ls []) := by
    intro r
    induction r with
    | zero => intro i ls locs h1 h2; omega
    | succ r ih =>
      intro i ls locs hi hir hl hS
      refine lv_iload_n hx hb d_M_next_9 rfl (zl hl rfl) ?_
      refine lv_aload_n hx hb d_M_next_10 rfl (zl hl rfl) ?_
      refine z_get (C := R_M) (T := F_M) (N := 15) (v := .int (nI n)) hx hb hts inT_M hown hK hP (PM_o hM) rfl 2 (by decide) tw_575 (fun _ h => h) rfl d_M_next_11 ?_
      refine lv_icmp_ge (tgt := 73) hx hb d_M_next_14 (by decide) (fun c_1 => ?_) (fun c_1 => ?_)
      · have hin := z_ge hi (by omega) c_1
        refine lv_iload_n hx hb d_M_next_73 rfl (zl hl rfl) ?_
        exact z_iretR hx hb hr hlocks hP hD hS (by rw [hin]) (⟨hM, hF⟩) d_M_next_74
      · have hlt := z_lt hi (by omega) c_1
        refine lv_aload_n hx hb d_M_next_17 rfl (zl hl rfl) ?_
        refine lv_iload_n hx hb d_M_next_18 rfl (zl hl rfl) ?_
        refine z_calli (va_runV (As := [.int (nI i)]) (rest := []) ⟨hx, hb, hml, hown, hts⟩ (c_M_isLive l hP hM i (by omega)) (cwV 1 hts (tt_V tw_643 tw_640 tw_642 tw_17 tw_36) rfl rfl rfl (by decide +kernel) ⟨Nat.le_of_ble_eq_true rfl, Nat.le_of_ble_eq_true rfl⟩) (zPc_V hKN hP (ci := 4) (q := (R_M, F_M, 15)) rfl (PM_o hM)) rfl rfl hl.1 rfl (lv_room (Nat.le_of_ble_eq_true rfl)) d_M_next_19 ⟨Nat.zero_le _, Nat.zero_le _⟩) hS (fun locs hS => ?_)
        refine lv_if_eq (tgt := 67) hx hb d_M_next_22 (by decide) (fun c_2 => ?_) (fun c_2 => ?_)
        · have b1 := zb_f c_2
          refine lv_iinc (v := (nI (i + 1))) (lv' := [(2, .int (nI (i + 1))), (0, .ref (ad 0)), (1, .int (nxs f time i))]) hx hb d_M_next_67 hl (k := 2) rfl (nI_1 i) (by decide) rfl (fun ls hl => ?_)
          refine lv_goto (tgt := 9) hx hb d_M_next_70 (by decide) ?_
          have hst : nxs f time i = nxs f time (i + 1) := by
            show _ = if _ then _ else _
            simp [*]
          rw [hst] at hl
          exact ih (i + 1) ls locs (by omega) (by omega) (lv_sub hl [1, 2, 0] rfl) hS
        · have b1 := zb_t c_2
          refine lv_aload_n hx hb d_M_next_25 rfl (zl hl rfl) ?_
          refine z_get (C := R_M) (T := F_M) (N := 15) (v := .ref (ad 7)) hx hb hts inT_M hown hK hP (PM_o hM) rfl 10 (by decide) tw_583 (fun _ h => h) rfl d_M_next_26 ?_
          refine lv_iload_n hx hb d_M_next_29 rfl (zl hl rfl) ?_
          refine z_iald hx hb hK hP 0 (PM_7 hM) rfl i rfl (by omega) (by decide) d_M_next_30 ?_
          refine lv_aload_n hx hb d_M_next_31 rfl (zl hl rfl) ?_
          refine z_get (C := R_M) (T := F_M) (N := 15) (v := .int time) hx hb hts inT_M hown hK hP (PM_o hM) rfl 1 (by decide) tw_574 (fun _ h => h) rfl d_M_next_32 ?_
          refine lv_icmp_gt (tgt := 41) hx hb d_M_next_35 (by decide) (fun c_3 => ?_) (fun c_3 => ?_)
          · refine lv_iload_n hx hb d_M_next_41 rfl (zl hl rfl) ?_
            refine lv_iconst (v := (-1)) hx hb d_M_next_42 (by decide) ?_
            refine lv_icmp_eq (tgt := 56) hx hb d_M_next_43 (by decide) (fun c_4 => ?_) (fun c_4 => ?_)
            · refine lv_aload_n hx hb d_M_next_56 rfl (zl hl rfl) ?_
              refine z_get (C := R_M) (T := F_M) (N := 15) (v := .ref (ad 7)) hx hb hts inT_M hown hK hP (PM_o hM) rfl 10 (by decide) tw_583 (fun _ h => h) rfl d_M_next_57 ?_
              refine lv_iload_n hx hb d_M_next_60 rfl (zl hl rfl) ?_
              refine z_iald hx hb hK hP 0 (PM_7 hM) rfl i rfl (by omega) (by decide) d_M_next_61 ?_
              refine lv_goto (tgt := 66) hx hb d_M_next_62 (by decide) ?_
              refine lv_istore_n (lv' := [(1, .int (f 7 i)), (0, .ref (ad 0)), (2, .int (nI i))]) hx hb d_M_next_66 rfl hl (by decide) rfl (fun ls hl => ?_)
              refine lv_iinc (v := (nI (i + 1))) (lv' := [(2, .int (nI (i + 1))), (1, .int (f 7 i)), (0, .ref (ad 0))]) hx hb d_M_next_67 hl (k := 2) rfl (nI_1 i) (by decide) rfl (fun ls hl => ?_)
              refine lv_goto (tgt := 9) hx hb d_M_next_70 (by decide) ?_
              have hst : f 7 i = nxs f time (i + 1) := by
                show _ = if _ then _ else _
                simp [*]
              rw [hst] at hl
              exact ih (i + 1) ls locs (by omega) (by omega) (lv_sub hl [2, 1, 0] rfl) hS
            · refine lv_aload_n hx hb d_M_next_46 rfl (zl hl rfl) ?_
              refine z_get (C := R_M) (T := F_M) (N := 15) (v := .ref (ad 7)) hx hb hts inT_M hown hK hP (PM_o hM) rfl 10 (by decide) tw_583 (fun _ h => h) rfl d_M_next_47 ?_
              refine lv_iload_n hx hb d_M_next_50 rfl (zl hl rfl) ?_
              refine z_iald hx hb hK hP 0 (PM_7 hM) rfl i rfl (by omega) (by decide) d_M_next_51 ?_
              refine lv_iload_n hx hb d_M_next_52 rfl (zl hl rfl) ?_
              refine lv_icmp_ge (tgt := 65) hx hb d_M_next_53 (by decide) (fun c_5 => ?_) (fun c_5 => ?_)
              · have b4 := zle_nlt c_5
                refine lv_iload_n hx hb d_M_next_65 rfl (zl hl rfl) ?_
                refine lv_istore_n (lv' := [(1, .int (nxs f time i)), (0, .ref (ad 0)), (2, .int (nI i))]) hx hb d_M_next_66 rfl hl (by decide) rfl (fun ls hl => ?_)
                refine lv_iinc (v := (nI (i + 1))) (lv' := [(2, .int (nI (i + 1))), (1, .int (nxs f time i)), (0, .ref (ad 0))]) hx hb d_M_next_67 hl (k := 2) rfl (nI_1 i) (by decide) rfl (fun ls hl => ?_)
                refine lv_goto (tgt := 9) hx hb d_M_next_70 (by decide) ?_
                have hst : nxs f time i = nxs f time (i + 1) := by
                  show _ = if _ then _ else _
                  simp [*]
                rw [hst] at hl
                exact ih (i + 1) ls locs (by omega) (by omega) (lv_sub hl [2, 1, 0] rfl) hS
              · have b4 := znle_lt c_5
                refine lv_aload_n hx hb d_M_next_56 rfl (zl hl rfl) ?_
                refine z_get (C := R_M) (T := F_M) (N := 15) (v := .ref (ad 7)) hx hb hts inT_M hown hK hP (PM_o hM) rfl 10 (by decide) tw_583 (fun _ h => h) rfl d_M_next_57 ?_
                refine lv_iload_n hx hb d_M_next_60 rfl (zl hl rfl) ?_
                refine z_iald hx hb hK hP 0 (PM_7 hM) rfl i rfl (by omega) (by decide) d_M_next_61 ?_
                refine lv_goto (tgt := 66) hx hb d_M_next_62 (by decide) ?_
                refine lv_istore_n (lv' := [(1, .int (f 7 i)), (0, .ref (ad 0)), (2, .int (nI i))]) hx hb d_M_next_66 rfl hl (by decide) rfl (fun ls hl => ?_)
                refine lv_iinc (v := (nI (i + 1))) (lv' := [(2, .int (nI (i + 1))), (1, .int (f 7 i)), (0, .ref (ad 0))]) hx hb d_M_next_67 hl (k := 2) rfl (nI_1 i) (by decide) rfl (fun ls hl => ?_)
                refine lv_goto (tgt := 9) hx hb d_M_next_70 (by decide) ?_
                have hst : f 7 i = nxs f time (i + 1) := by
                  show _ = if _ then _ else _
                  simp [*]
                rw [hst] at hl
                exact ih (i + 1) ls locs (by omega) (by omega) (lv_sub hl [2, 1, 0] rfl) hS
          · have b2 := znlt_le c_3
            refine lv_goto (tgt := 67) hx hb d_M_next_38 (by decide) ?_
            refine lv_iinc (v := (nI (i + 1))) (lv' := [(2, .int (nI (i + 1))), (0, .ref (ad 0)), (1, .int (nxs f time i))]) hx hb d_M_next_67 hl (k := 2) rfl (nI_1 i) (by decide) rfl (fun ls hl => ?_)
            refine lv_goto (tgt := 9) hx hb d_M_next_70 (by decide) ?_
            have hst : nxs f time i = nxs f time (i + 1) := by
              show _ = if _ then _ else _
              simp [*]
            rw [hst] at hl
            exact ih (i + 1) ls locs (by omega) (by omega) (lv_sub hl [1, 2, 0] rfl) hS
  exact key (n + 1) 0 ls locs (Nat.zero_le _) (by omega) (lv_sub hl [2, 1, 0] rfl) hS
end
section
theorem sWithin_2 {x : Int32} {a b : Nat} (hb : b < 2 ^ 31) (hab : a ≤ b) (hw : sWithin x (nI a) (nI b) = true) : ∃ k : Nat, a ≤ k ∧ k ≤ b ∧ x = nI k := by
  simp only [sWithin, Bool.and_eq_true, decide_eq_true_eq] at hw
  have h0 : ¬ x < 0 := fun z => absurd (Int32.lt_of_le_of_lt hw.1 z) (nI_pos (by omega))
  obtain ⟨j, hj, rfl⟩ := nI_of (x := x) h0
  exact ⟨j, (nI_leI (by omega) hj).mp hw.1, (nI_leI hj hb).mp hw.2, rfl⟩
def cLend (w q : Int32) : Bool := sWithin w 0 7 && sWithin q 0 3
def oLend (f : FF) (time : Int32) (n : Nat) (w q : Int32) : Option Nat := if nI (cnt (pTo f w) n) = 4 then none else fst f time n q n
def mLent (f : FF) (time : Int32) (qi t : Nat) (w tok : Int32) : FF := w1 (w1 (w1 (w1 (w1 f 6 t 1) 8 t w) 9 t tok) 5 t ((w1 (w1 (w1 f 6 t 1) 8 t w) 9 t tok) 5 t + 1)) 7 t (time + (w1 (w1 (w1 (w1 f 6 t 1) 8 t w) 9 t tok) 5 t ((w1 (w1 (w1 f 6 t 1) 8 t w) 9 t tok) 5 t + 1)) 10 (6 * qi))
def mLend (f : FF) (time : Int32) (n : Nat) (w q tok : Int32) : FF := if cLend w q = true then (match oLend f time n w q with
  | none => f
  | some t => mLent f time (tx q) t w tok) else f
def rLend (f : FF) (time : Int32) (n : Nat) (w q tok : Int32) : Int32 := if cLend w q = true then (match oLend f time n w q with
  | none => -1
  | some _ => tok) else 0
def tLend (f : FF) (time : Int32) (n : Nat) (w q tok : Int32) : Int32 := if cLend w q = true then (match oLend f time n w q with
  | none => tok
  | some _ => tok + 1) else tok
def cAdd (q r g delay : Int32) : Bool := sWithin q 0 3 && sWithin r 0 3 && sWithin g (-1) 7 && sWithin delay 0 1000
def oAdd (f : FF) (ky : Nat → Int64) (time : Int32) (n : Nat) (q : Int32) (k : Int64) : Option Nat := lstD (pKey f ky time (tx q) k) n
def fullA (f : FF) (n : Nat) : Bool := decide (nI (cnt (pLive f) n) = 64) || decide (nI n = 400)
def xAdd (f : FF) (ky : Nat → Int64) (time : Int32) (n : Nat) (q r g : Int32) (k : Int64) (delay : Int32) : Int32 := if cAdd q r g delay = true then (match oAdd f ky time n q k with
  | none => if fullA f n = true then 2 else 0
  | some _ => 0) else 1
def cNew (f : FF) (ky : Nat → Int64) (time : Int32) (n : Nat) (q r g : Int32) (k : Int64) (delay : Int32) : Bool := cAdd q r g delay && (oAdd f ky time n q k).isNone && !fullA f n
def rAdd (f : FF) (ky : Nat → Int64) (time : Int32) (n : Nat) (q r g : Int32) (k : Int64) (delay : Int32) : Int32 := if cAdd q r g delay = true then (match oAdd f ky time n q k with
  | none => if fullA f n = true then 0 else nI n
  | some t => nI t) else 0
def mAdd (f : FF) (n : Nat) (q r g time delay : Int32) : FF := w1 (w1 (w1 (w1 (w1 (w1 f 1 n q) 2 n r) 3 n g) 5 n 0) 6 n 0) 7 n (time + delay)
def dwl (top : Int32) : Nat → Int32 → Int32
  | 0, w => w
  | r + 1, w => if w < top then dwl top r (w * 2) else w
def mWait (f : FF) (t : Nat) : Int32 := dwl (f 10 (6 * qx f t + 3)) (tx (f 5 t) - 1) (f 10 (6 * qx f t + 2))
def mAgain (f : FF) (time : Int32) (t : Nat) : FF := if f 5 t < f 10 (6 * qx f t + 1) then w1 (w1 f 6 t 0) 7 t (time + (if mWait f t < f 10 (6 * qx f t + 3) then mWait f t else f 10 (6 * qx f t + 3))) else w1 f 6 t 3
def mEnd1 (f : FF) (time how : Int32) (t : Nat) : FF := if how = 1 then mAgain f time t else w1 (w1 (w1 f 6 t (if how = 0 then 2 else 0)) 7 t time) 5 t ((w1 (w1 f 6 t (if how = 0 then 2 else 0)) 7 t time) 5 t - (if how = 2 then 1 else 0))
def mEnd (f : FF) (time : Int32) (n : Nat) (v how : Int32) : FF := match fnd (pTok f v) 0 n with
  | none => f
  | some t => if sWithin how 0 2 = true then mEnd1 f time how t else f
def xEnd (f : FF) (n : Nat) (v how : Int32) : Int32 := match fnd (pTok f v) 0 n with
  | none => 1
  | some _ => if sWithin how 0 2 = true then 0 else 2
def rEnd (f : FF) (n : Nat) (v how : Int32) : Int32 := match fnd (pTok f v) 0 n with
  | none => 0
  | some t => if sWithin how 0 2 = true then nI t else 0
theorem mAgain_1 {f : FF} {time : Int32} {t : Nat} {w : Int32} (h : f 5 t < f 10 (6 * qx f t + 1)) (hw : mWait f t = w) (b : w < f 10 (6 * qx f t + 3)) : mAgain f time t = w1 (w1 f 6 t 0) 7 t (time + w) := by
  unfold mAgain
  rw [if_pos h, hw, if_pos b]
theorem mAgain_2 {f : FF} {time : Int32} {t : Nat} {w : Int32} (h : f 5 t < f 10 (6 * qx f t + 1)) (hw : mWait f t = w) (b : ¬ w < f 10 (6 * qx f t + 3)) : mAgain f time t = w1 (w1 f 6 t 0) 7 t (time + f 10 (6 * qx f t + 3)) := by
  unfold mAgain
  rw [if_pos h, hw, if_neg b]
set_option maxHeartbeats 4000000 in
set_option maxRecDepth 100000 in
theorem c_M_lend (l : Launch) {D : va_G} {ws : va_W} {H : Heap} (hP : va_P D vwCl ws H) {kk : Nat → ClassId} {ad : Nat → Nat} {thr time tok : Int32} {n : Nat} {f : Nat → Nat → Int32} {ky : Nat → Int64} (hM : PM kk ad thr time n tok f ky ws)  {B : Nat} (hD : va_D (fun q => B ≤ q) ws) (v q : Int32) (hn : n ≤ 400) (hq : okq f n) (hg : okg f n) : Met l y_M_lend (Cond.code y_M_lend b_M_lend 4 (some .int) :: TT) ({ frames := 4, cells := 0, slots := 0, locals := 240 }) (zPc [.ref (ad 0), .int v, .int q] H D vwCl (TY kk)) (zR D vwCl B (some (.int (rLend f time n v q tok))) (fun ws' => PM kk ad (if cLend v q = true then 0 else 1) time n (tLend f time n v q tok) (mLend f time n v q tok) ky ws' ∧ zfrM ws ws')) 0 0 (fun q => B ≤ q) := by
  refine z_body (by decide) (Nat.le_of_ble_eq_true rfl) ?_
  intro p e s m below meth c ls C0 hH hKN hl
  obtain ⟨hx, hb, hr, hts, hown, hlocks, hml⟩ := C0
  subst hH
  have hK := hKN.1
  have hN := hKN.2
  have hS : va_S (fun q => B ≤ q) s.heap s.heap [] := va_S.rf
  have hF : zfrM ws ws := zfrM_rf
  have hl : lv_has ls 4 [(0, .ref (ad 0)), (1, .int v), (2, .int q)] := hl
  refine lv_iload_n hx hb d_M_lend_0 rfl (zl hl rfl) ?_
  refine lv_iconst (v := 0) hx hb d_M_lend_1 (by decide) ?_
  refine lv_bipush (v := 7) hx hb d_M_lend_2 (by decide) ?_
  refine z_calli (va_runS (As := [.int v, .int 0, .int 7]) (rest := []) ⟨hx, hb, hml, hown, hts⟩ (c_M_within l hP v 0 7) (va_cwS 3 hts (tt_S tw_631 tw_629 tw_630 tw_36) rfl rfl rfl (by decide +kernel) ⟨Nat.le_of_ble_eq_true rfl, Nat.le_of_ble_eq_true rfl⟩) (zPc_S hKN) rfl rfl hl.1 rfl (lv_room (Nat.le_of_ble_eq_true rfl)) d_M_lend_4 ⟨Nat.zero_le _, Nat.zero_le _⟩) hS (fun locs hS => ?_)
  refine lv_if_eq (tgt := 19) hx hb d_M_lend_7 (by decide) (fun c_1 => ?_) (fun c_1 => ?_)
  · have b1 := zb_f c_1
    refine lv_aload_n hx hb d_M_lend_19 rfl (zl hl rfl) ?_
    refine lv_iconst (v := 1) hx hb d_M_lend_20 (by decide) ?_
    refine z_call (va_runV (As := [.int 1]) (rest := []) ⟨hx, hb, hml, hown, hts⟩ (c_M_raise l hP hM hD 1) (cwV 1 hts (tt_V tw_635 tw_632 tw_634 tw_15 tw_36) rfl rfl rfl (by decide +kernel) ⟨Nat.le_of_ble_eq_true rfl, Nat.le_of_ble_eq_true rfl⟩) (zPc_V hKN hP (ci := 4) (q := (R_M, F_M, 15)) rfl (PM_o hM)) rfl rfl hl.1 rfl (lv_room (Nat.le_of_ble_eq_true rfl)) d_M_lend_21 ⟨Nat.le_of_ble_eq_true rfl, Nat.le_of_ble_eq_true rfl⟩) hS (fun ws H locs hR hP hD hz hS => ?_)
    have hF := zfrM_tr hF hR.2
    have hM := hR.1
    clear hR
    exact z_iretR hx hb hr hlocks hP hD hS (by first | (simp [rLend, cLend, oLend, *]; done) | (simp [rLend, cLend, oLend, va_up, upd, *]; done)) (⟨by first | (simp only [tLend, mLend, cLend, oLend, *, reduceIte, Bool.true_and, Bool.false_and, Bool.and_false, Bool.and_true, Bool.false_eq_true, Bool.or_true, Bool.true_or, Bool.or_false, Bool.false_or, decide_true, decide_false, Option.isNone_none, Option.isNone_some, Bool.not_true, Bool.not_false, ite_self]; done) | (simp only [tLend, mLend, cLend, oLend, *, reduceIte, Bool.true_and, Bool.false_and, Bool.and_false, Bool.and_true, Bool.false_eq_true, Bool.or_true, Bool.true_or, Bool.or_false, Bool.false_or, decide_true, decide_false, Option.isNone_none, Option.isNone_some, Bool.not_true, Bool.not_false, ite_self]; exact hM), hF⟩) d_M_lend_24
  · have b1 := zb_t c_1
    refine lv_iload_n hx hb d_M_lend_10 rfl (zl hl rfl) ?_
    refine lv_iconst (v := 0) hx hb d_M_lend_11 (by decide) ?_
    refine lv_iconst (v := 3) hx hb d_M_lend_12 (by decide) ?_
    refine z_calli (va_runS (As := [.int q, .int 0, .int 3]) (rest := []) ⟨hx, hb, hml, hown, hts⟩ (c_M_within l hP q 0 3) (va_cwS 3 hts (tt_S tw_631 tw_629 tw_630 tw_36) rfl rfl rfl (by decide +kernel) ⟨Nat.le_of_ble_eq_true rfl, Nat.le_of_ble_eq_true rfl⟩) (zPc_S hKN) rfl rfl hl.1 rfl (lv_room (Nat.le_of_ble_eq_true rfl)) d_M_lend_13 ⟨Nat.zero_le _, Nat.zero_le _⟩) hS (fun locs hS => ?_)
    refine lv_if_ne (tgt := 25) hx hb d_M_lend_16 (by decide) (fun c_2 => ?_) (fun c_2 => ?_)
    · have b2 := zb_t c_2
      obtain ⟨qi, hqi, rfl⟩ := sWithin_nI (h := 3) (by decide) b2
      have htq : tx (nI qi) = qi := tx_nI (by omega)
      refine lv_aload_n hx hb d_M_lend_25 rfl (zl hl rfl) ?_
      refine lv_iconst (v := 0) hx hb d_M_lend_26 (by decide) ?_
      have hD0 := hD
      refine z_put (C := R_M) (T := F_M) (N := 15) (v := .int 0) hx hb hts inT_M ft_M ft_M_ok fn_M hown hK hP hD hS (PM_o hM) rfl 0 (by decide) tw_573 (fun _ h => h) rfl rfl rfl (by simp) d_M_lend_27 (fun ws H locs hP hD hS u_3 => ?_)
      have hF := zfrM_tr hF (zfrM_up hD0 (PM_o hM) rfl u_3)
      have hM := PM_wo (thr' := 0) (time' := time) (n' := n) (tok' := tok) hM u_3
      refine lv_aload_n hx hb d_M_lend_30 rfl (zl hl rfl) ?_
      refine lv_iload_n hx hb d_M_lend_31 rfl (zl hl rfl) ?_
      refine z_calli (va_runV (As := [.int (nI qi)]) (rest := []) ⟨hx, hb, hml, hown, hts⟩ (c_M_firstOf l hP hM (nI qi) hn hq hg) (cwV 1 hts (tt_V tw_655 tw_652 tw_654 tw_19 tw_36) rfl rfl rfl (by decide +kernel) ⟨Nat.le_of_ble_eq_true rfl, Nat.le_of_ble_eq_true rfl⟩) (zPc_V hKN hP (ci := 4) (q := (R_M, F_M, 15)) rfl (PM_o hM)) rfl rfl hl.1 rfl (lv_room (Nat.le_of_ble_eq_true rfl)) d_M_lend_32 ⟨Nat.zero_le _, Nat.zero_le _⟩) hS (fun locs hS => ?_)
      rcases ho : fst f time n (nI qi) n with _ | t
      · have hm1 : True := trivial
        refine lv_istore_n (lv' := [(3, .int (-1)), (0, .ref (ad 0)), (1, .int v), (2, .int (nI qi))]) hx hb d_M_lend_35 rfl hl (by decide) rfl (fun ls hl => ?_)
        refine lv_iload_n hx hb d_M_lend_36 rfl (zl hl rfl) ?_
        refine lv_iconst (v := (-1)) hx hb d_M_lend_37 (by decide) ?_
        refine lv_icmp_eq (tgt := 50) hx hb d_M_lend_38 (by decide) (fun c_4 => ?_) (fun c_4 => ?_)
        · refine lv_iconst (v := (-1)) hx hb d_M_lend_50 (by decide) ?_
          exact z_iretR hx hb hr hlocks hP hD hS (by first | (simp [rLend, cLend, oLend, *]; done) | (simp [rLend, cLend, oLend, va_up, upd, *]; done)) (⟨by first | (simp only [tLend, mLend, cLend, oLend, *, reduceIte, Bool.true_and, Bool.false_and, Bool.and_false, Bool.and_true, Bool.false_eq_true, Bool.or_true, Bool.true_or, Bool.or_false, Bool.false_or, decide_true, decide_false, Option.isNone_none, Option.isNone_some, Bool.not_true, Bool.not_false, ite_self]; done) | (simp only [tLend, mLend, cLend, oLend, *, reduceIte, Bool.true_and, Bool.false_and, Bool.and_false, Bool.and_true, Bool.false_eq_true, Bool.or_true, Bool.true_or, Bool.or_false, Bool.false_or, decide_true, decide_false, Option.isNone_none, Option.isNone_some, Bool.not_true, Bool.not_false, ite_self]; exact hM), hF⟩) d_M_lend_51
        · exact absurd rfl c_4
      · have hto := fst_lt ho
        refine lv_istore_n (lv' := [(3, .int (nI t)), (0, .ref (ad 0)), (1, .int v), (2, .int (nI qi))]) hx hb d_M_lend_35 rfl hl (by decide) rfl (fun ls hl => ?_)
        refine lv_iload_n hx hb d_M_lend_36 rfl (zl hl rfl) ?_
        refine lv_iconst (v := (-1)) hx hb d_M_lend_37 (by decide) ?_
        refine lv_icmp_eq (tgt := 50) hx hb d_M_lend_38 (by decide) (fun c_5 => ?_) (fun c_5 => ?_)
        · exact absurd c_5 (nI_m1 (by omega))
        · refine lv_aload_n hx hb d_M_lend_41 rfl (zl hl rfl) ?_
          refine lv_iload_n hx hb d_M_lend_42 rfl (zl hl rfl) ?_
          refine z_calli (va_runV (As := [.int v]) (rest := []) ⟨hx, hb, hml, hown, hts⟩ (c_M_lentTo l hP hM v hn) (cwV 1 hts (tt_V tw_671 tw_668 tw_670 tw_23 tw_36) rfl rfl rfl (by decide +kernel) ⟨Nat.le_of_ble_eq_true rfl, Nat.le_of_ble_eq_true rfl⟩) (zPc_V hKN hP (ci := 4) (q := (R_M, F_M, 15)) rfl (PM_o hM)) rfl rfl hl.1 rfl (lv_room (Nat.le_of_ble_eq_true rfl)) d_M_lend_43 ⟨Nat.zero_le _, Nat.zero_le _⟩) hS (fun locs hS => ?_)
          refine lv_iconst (v := 4) hx hb d_M_lend_46 (by decide) ?_
          refine lv_icmp_ne (tgt := 52) hx hb d_M_lend_47 (by decide) (fun c_6 => ?_) (fun c_6 => ?_)
          · refine lv_aload_n hx hb d_M_lend_52 rfl (zl hl rfl) ?_
            refine z_get (C := R_M) (T := F_M) (N := 15) (v := .ref (ad 6)) hx hb hts inT_M hown hK hP (PM_o hM) rfl 9 (by decide) tw_582 (fun _ h => h) rfl d_M_lend_53 ?_
            refine lv_iload_n hx hb d_M_lend_56 rfl (zl hl rfl) ?_
            refine lv_iconst (v := 1) hx hb d_M_lend_57 (by decide) ?_
            have hD0 := hD
            refine z_iast hx hb hK hP hD hS 0 (PM_6 hM) rfl t rfl (by omega) (by decide) d_M_lend_58 (fun ws H locs hP hD hS u_7 => ?_)
            have hF := zfrM_tr hF (zfrM_up hD0 (PM_6 hM) rfl u_7)
            have hM := PM_wa hM 6 (by decide) (by decide) (by decide) rfl u_7
            refine lv_aload_n hx hb d_M_lend_59 rfl (zl hl rfl) ?_
            refine z_get (C := R_M) (T := F_M) (N := 15) (v := .ref (ad 8)) hx hb hts inT_M hown hK hP (PM_o hM) rfl 11 (by decide) tw_584 (fun _ h => h) rfl d_M_lend_60 ?_
            refine lv_iload_n hx hb d_M_lend_63 rfl (zl hl rfl) ?_
            refine lv_iload_n hx hb d_M_lend_64 rfl (zl hl rfl) ?_
            have hD0 := hD
            refine z_iast hx hb hK hP hD hS 0 (PM_8 hM) rfl t rfl (by omega) (by decide) d_M_lend_65 (fun ws H locs hP hD hS u_8 => ?_)
            have hF := zfrM_tr hF (zfrM_up hD0 (PM_8 hM) rfl u_8)
            have hM := PM_wa hM 8 (by decide) (by decide) (by decide) rfl u_8
            refine lv_aload_n hx hb d_M_lend_66 rfl (zl hl rfl) ?_
            refine z_get (C := R_M) (T := F_M) (N := 15) (v := .ref (ad 9)) hx hb hts inT_M hown hK hP (PM_o hM) rfl 12 (by decide) tw_585 (fun _ h => h) rfl d_M_lend_67 ?_
            refine lv_iload_n hx hb d_M_lend_70 rfl (zl hl rfl) ?_
            refine lv_aload_n hx hb d_M_lend_71 rfl (zl hl rfl) ?_
            refine z_get (C := R_M) (T := F_M) (N := 15) (v := .int tok) hx hb hts inT_M hown hK hP (PM_o hM) rfl 3 (by decide) tw_576 (fun _ h => h) rfl d_M_lend_72 ?_
            have hD0 := hD
            refine z_iast hx hb hK hP hD hS 0 (PM_9 hM) rfl t rfl (by omega) (by decide) d_M_lend_75 (fun ws H locs hP hD hS u_9 => ?_)
            have hF := zfrM_tr hF (zfrM_up hD0 (PM_9 hM) rfl u_9)
            have hM := PM_wa hM 9 (by decide) (by decide) (by decide) rfl u_9
            refine lv_aload_n hx hb d_M_lend_76 rfl (zl hl rfl) ?_
            refine lv_dup hx hb d_M_lend_77 rfl ?_
            refine z_get (C := R_M) (T := F_M) (N := 15) (v := .int tok) hx hb hts inT_M hown hK hP (PM_o hM) rfl 3 (by decide) tw_576 (fun _ h => h) rfl d_M_lend_78 ?_
            refine lv_iconst (v := 1) hx hb d_M_lend_81 (by decide) ?_
            refine lv_iadd hx hb d_M_lend_82 ?_
            have hD0 := hD
            refine z_put (C := R_M) (T := F_M) (N := 15) (v := .int (tok + 1)) hx hb hts inT_M ft_M ft_M_ok fn_M hown hK hP hD hS (PM_o hM) rfl 3 (by decide) tw_576 (fun _ h => h) rfl rfl rfl (by simp) d_M_lend_83 (fun ws H locs hP hD hS u_10 => ?_)
            have hF := zfrM_tr hF (zfrM_up hD0 (PM_o hM) rfl u_10)
            have hM := PM_wo (thr' := 0) (time' := time) (n' := n) (tok' := tok + 1) hM u_10
            refine lv_aload_n hx hb d_M_lend_86 rfl (zl hl rfl) ?_
            refine z_get (C := R_M) (T := F_M) (N := 15) (v := .ref (ad 5)) hx hb hts inT_M hown hK hP (PM_o hM) rfl 8 (by decide) tw_581 (fun _ h => h) rfl d_M_lend_87 ?_
            refine lv_iload_n hx hb d_M_lend_90 rfl (zl hl rfl) ?_
            refine lv_dup2_11 hx hb d_M_lend_91 rfl rfl ?_
            refine z_iald hx hb hK hP 0 (PM_5 hM) rfl t rfl (by omega) (by decide) d_M_lend_92 ?_
            refine lv_iconst (v := 1) hx hb d_M_lend_93 (by decide) ?_
            refine lv_iadd hx hb d_M_lend_94 ?_
            have hD0 := hD
            refine z_iast hx hb hK hP hD hS 0 (PM_5 hM) rfl t rfl (by omega) (by decide) d_M_lend_95 (fun ws H locs hP hD hS u_11 => ?_)
            have hF := zfrM_tr hF (zfrM_up hD0 (PM_5 hM) rfl u_11)
            have hM := PM_wa hM 5 (by decide) (by decide) (by decide) rfl u_11
            refine lv_aload_n hx hb d_M_lend_96 rfl (zl hl rfl) ?_
            refine z_get (C := R_M) (T := F_M) (N := 15) (v := .ref (ad 7)) hx hb hts inT_M hown hK hP (PM_o hM) rfl 10 (by decide) tw_583 (fun _ h => h) rfl d_M_lend_97 ?_
            refine lv_iload_n hx hb d_M_lend_100 rfl (zl hl rfl) ?_
            refine lv_aload_n hx hb d_M_lend_101 rfl (zl hl rfl) ?_
            refine z_get (C := R_M) (T := F_M) (N := 15) (v := .int time) hx hb hts inT_M hown hK hP (PM_o hM) rfl 1 (by decide) tw_574 (fun _ h => h) rfl d_M_lend_102 ?_
            refine lv_aload_n hx hb d_M_lend_105 rfl (zl hl rfl) ?_
            refine z_get (C := R_M) (T := F_M) (N := 15) (v := .ref (ad 10)) hx hb hts inT_M hown hK hP (PM_o hM) rfl 13 (by decide) tw_586 (fun _ h => h) rfl d_M_lend_106 ?_
            refine lv_bipush (v := 6) hx hb d_M_lend_109 (by decide) ?_
            refine lv_iload_n hx hb d_M_lend_111 rfl (zl hl rfl) ?_
            refine lv_imul hx hb d_M_lend_112 ?_
            refine z_iald hx hb hK hP 0 (PM_10 hM) rfl (6 * qi) (z_idx0 qi) (by omega) (by decide) d_M_lend_113 ?_
            refine lv_iadd hx hb d_M_lend_114 ?_
            have hD0 := hD
            refine z_iast hx hb hK hP hD hS 0 (PM_7 hM) rfl t rfl (by omega) (by decide) d_M_lend_115 (fun ws H locs hP hD hS u_12 => ?_)
            have hF := zfrM_tr hF (zfrM_up hD0 (PM_7 hM) rfl u_12)
            have hM := PM_wa hM 7 (by decide) (by decide) (by decide) rfl u_12
            refine lv_aload_n hx hb d_M_lend_116 rfl (zl hl rfl) ?_
            refine z_get (C := R_M) (T := F_M) (N := 15) (v := .ref (ad 9)) hx hb hts inT_M hown hK hP (PM_o hM) rfl 12 (by decide) tw_585 (fun _ h => h) rfl d_M_lend_117 ?_
            refine lv_iload_n hx hb d_M_lend_120 rfl (zl hl rfl) ?_
            refine z_iald hx hb hK hP 0 (PM_9 hM) rfl t rfl (by omega) (by decide) d_M_lend_121 ?_
            exact z_iretR hx hb hr hlocks hP hD hS (by first | (simp [rLend, cLend, oLend, *]; done) | (simp [rLend, cLend, oLend, va_up, upd, *]; done)) (⟨by first | (simp only [tLend, mLend, cLend, oLend, *, reduceIte, Bool.true_and, Bool.false_and, Bool.and_false, Bool.and_true, Bool.false_eq_true, Bool.or_true, Bool.true_or, Bool.or_false, Bool.false_or, decide_true, decide_false, Option.isNone_none, Option.isNone_some, Bool.not_true, Bool.not_false, ite_self]; done) | (simp only [tLend, mLend, cLend, oLend, *, reduceIte, Bool.true_and, Bool.false_and, Bool.and_false, Bool.and_true, Bool.false_eq_true, Bool.or_true, Bool.true_or, Bool.or_false, Bool.false_or, decide_true, decide_false, Option.isNone_none, Option.isNone_some, Bool.not_true, Bool.not_false, ite_self]; exact hM), hF⟩) d_M_lend_122
          · refine lv_iconst (v := (-1)) hx hb d_M_lend_50 (by decide) ?_
            exact z_iretR hx hb hr hlocks hP hD hS (by first | (simp [rLend, cLend, oLend, *]; done) | (simp [rLend, cLend, oLend, va_up, upd, *]; done)) (⟨by first | (simp only [tLend, mLend, cLend, oLend, *, reduceIte, Bool.true_and, Bool.false_and, Bool.and_false, Bool.and_true, Bool.false_eq_true, Bool.or_true, Bool.true_or, Bool.or_false, Bool.false_or, decide_true, decide_false, Option.isNone_none, Option.isNone_some, Bool.not_true, Bool.not_false, ite_self]; done) | (simp only [tLend, mLend, cLend, oLend, *, reduceIte, Bool.true_and, Bool.false_and, Bool.and_false, Bool.and_true, Bool.false_eq_true, Bool.or_true, Bool.true_or, Bool.or_false, Bool.false_or, decide_true, decide_false, Option.isNone_none, Option.isNone_some, Bool.not_true, Bool.not_false, ite_self]; exact hM), hF⟩) d_M_lend_51
    · have b2 := zb_f c_2
      refine lv_aload_n hx hb d_M_lend_19 rfl (zl hl rfl) ?_
      refine lv_iconst (v := 1) hx hb d_M_lend_20 (by decide) ?_
      refine z_call (va_runV (As := [.int 1]) (rest := []) ⟨hx, hb, hml, hown, hts⟩ (c_M_raise l hP hM hD 1) (cwV 1 hts (tt_V tw_635 tw_632 tw_634 tw_15 tw_36) rfl rfl rfl (by decide +kernel) ⟨Nat.le_of_ble_eq_true rfl, Nat.le_of_ble_eq_true rfl⟩) (zPc_V hKN hP (ci := 4) (q := (R_M, F_M, 15)) rfl (PM_o hM)) rfl rfl hl.1 rfl (lv_room (Nat.le_of_ble_eq_true rfl)) d_M_lend_21 ⟨Nat.le_of_ble_eq_true rfl, Nat.le_of_ble_eq_true rfl⟩) hS (fun ws H locs hR hP hD hz hS => ?_)
      have hF := zfrM_tr hF hR.2
      have hM := hR.1
      clear hR
      exact z_iretR hx hb hr hlocks hP hD hS (by first | (simp [rLend, cLend, oLend, *]; done) | (simp [rLend, cLend, oLend, va_up, upd, *]; done)) (⟨by first | (simp only [tLend, mLend, cLend, oLend, *, reduceIte, Bool.true_and, Bool.false_and, Bool.and_false, Bool.and_true, Bool.false_eq_true, Bool.or_true, Bool.true_or, Bool.or_false, Bool.false_or, decide_true, decide_false, Option.isNone_none, Option.isNone_some, Bool.not_true, Bool.not_false, ite_self]; done) | (simp only [tLend, mLend, cLend, oLend, *, reduceIte, Bool.true_and, Bool.false_and, Bool.and_false, Bool.and_true, Bool.false_eq_true, Bool.or_true, Bool.true_or, Bool.or_false, Bool.false_or, decide_true, decide_false, Option.isNone_none, Option.isNone_some, Bool.not_true, Bool.not_false, ite_self]; exact hM), hF⟩) d_M_lend_24
set_option maxHeartbeats 4000000 in
set_option maxRecDepth 100000 in
theorem c_M_add (l : Launch) {D : va_G} {ws : va_W} {H : Heap} (hP : va_P D vwCl ws H) {kk : Nat → ClassId} {ad : Nat → Nat} {thr time tok : Int32} {n : Nat} {f : Nat → Nat → Int32} {ky : Nat → Int64} (hM : PM kk ad thr time n tok f ky ws)  {B : Nat} (hD : va_D (fun q => B ≤ q) ws) (q r g : Int32) (kv : Int64) (delay : Int32) (hn : n ≤ 400) : Met l y_M_add (Cond.code y_M_add b_M_add 9 (some .int) :: TT) ({ frames := 3, cells := 0, slots := 0, locals := 180 }) (zPc [.ref (ad 0), .int q, .int r, .int g, .long kv, .int delay] H D vwCl (TY kk)) (zR D vwCl B (some (.int (rAdd f ky time n q r g kv delay))) (fun ws' => PM kk ad (xAdd f ky time n q r g kv delay) time (if cNew f ky time n q r g kv delay = true then n + 1 else n) tok (if cNew f ky time n q r g kv delay = true then mAdd f n q r g time delay else f) (if cNew f ky time n q r g kv delay = true then vp_updL ky n kv else ky) ws' ∧ zfrM ws ws')) 0 0 (fun q => B ≤ q) := by
  refine z_body (by decide) (Nat.le_of_ble_eq_true rfl) ?_
  intro p e s m below meth c ls C0 hH hKN hl
  obtain ⟨hx, hb, hr, hts, hown, hlocks, hml⟩ := C0
  subst hH
  have hK := hKN.1
  have hN := hKN.2
  have hS : va_S (fun q => B ≤ q) s.heap s.heap [] := va_S.rf
  have hF : zfrM ws ws := zfrM_rf
  have hl : lv_has ls 9 [(0, .ref (ad 0)), (1, .int q), (2, .int r), (3, .int g), (4, .long kv), (6, .int delay)] := hl
  refine lv_iload_n hx hb d_M_add_0 rfl (zl hl rfl) ?_
  refine lv_iconst (v := 0) hx hb d_M_add_1 (by decide) ?_
  refine lv_iconst (v := 3) hx hb d_M_add_2 (by decide) ?_
  refine z_calli (va_runS (As := [.int q, .int 0, .int 3]) (rest := []) ⟨hx, hb, hml, hown, hts⟩ (c_M_within l hP q 0 3) (va_cwS 3 hts (tt_S tw_631 tw_629 tw_630 tw_36) rfl rfl rfl (by decide +kernel) ⟨Nat.le_of_ble_eq_true rfl, Nat.le_of_ble_eq_true rfl⟩) (zPc_S hKN) rfl rfl hl.1 rfl (lv_room (Nat.le_of_ble_eq_true rfl)) d_M_add_3 ⟨Nat.zero_le _, Nat.zero_le _⟩) hS (fun locs hS => ?_)
  refine lv_if_eq (tgt := 40) hx hb d_M_add_6 (by decide) (fun c_1 => ?_) (fun c_1 => ?_)
  · have b1 := zb_f c_1
    refine lv_aload_n hx hb d_M_add_40 rfl (zl hl rfl) ?_
    refine lv_iconst (v := 1) hx hb d_M_add_41 (by decide) ?_
    refine z_call (va_runV (As := [.int 1]) (rest := []) ⟨hx, hb, hml, hown, hts⟩ (c_M_raise l hP hM hD 1) (cwV 1 hts (tt_V tw_635 tw_632 tw_634 tw_15 tw_36) rfl rfl rfl (by decide +kernel) ⟨Nat.le_of_ble_eq_true rfl, Nat.le_of_ble_eq_true rfl⟩) (zPc_V hKN hP (ci := 4) (q := (R_M, F_M, 15)) rfl (PM_o hM)) rfl rfl hl.1 rfl (lv_room (Nat.le_of_ble_eq_true rfl)) d_M_add_42 ⟨Nat.le_of_ble_eq_true rfl, Nat.le_of_ble_eq_true rfl⟩) hS (fun ws H locs hR hP hD hz hS => ?_)
    have hF := zfrM_tr hF hR.2
    have hM := hR.1
    clear hR
    exact z_iretR hx hb hr hlocks hP hD hS (by simp [rAdd, cAdd, oAdd, fullA, *]) (⟨by first | (simp only [xAdd, cNew, cAdd, oAdd, fullA, *, reduceIte, Bool.true_and, Bool.false_and, Bool.and_false, Bool.and_true, Bool.false_eq_true, Bool.or_true, Bool.true_or, Bool.or_false, Bool.false_or, decide_true, decide_false, Option.isNone_none, Option.isNone_some, Bool.not_true, Bool.not_false, ite_self]; done) | (simp only [xAdd, cNew, cAdd, oAdd, fullA, *, reduceIte, Bool.true_and, Bool.false_and, Bool.and_false, Bool.and_true, Bool.false_eq_true, Bool.or_true, Bool.true_or, Bool.or_false, Bool.false_or, decide_true, decide_false, Option.isNone_none, Option.isNone_some, Bool.not_true, Bool.not_false, ite_self]; exact hM), hF⟩) d_M_add_45
  · have b1 := zb_t c_1
    obtain ⟨qi, hqi, rfl⟩ := sWithin_nI (h := 3) (by decide) b1
    have htq : tx (nI qi) = qi := tx_nI (by omega)
    refine lv_iload_n hx hb d_M_add_9 rfl (zl hl rfl) ?_
    refine lv_iconst (v := 0) hx hb d_M_add_10 (by decide) ?_
    refine lv_iconst (v := 3) hx hb d_M_add_11 (by decide) ?_
    refine z_calli (va_runS (As := [.int r, .int 0, .int 3]) (rest := []) ⟨hx, hb, hml, hown, hts⟩ (c_M_within l hP r 0 3) (va_cwS 3 hts (tt_S tw_631 tw_629 tw_630 tw_36) rfl rfl rfl (by decide +kernel) ⟨Nat.le_of_ble_eq_true rfl, Nat.le_of_ble_eq_true rfl⟩) (zPc_S hKN) rfl rfl hl.1 rfl (lv_room (Nat.le_of_ble_eq_true rfl)) d_M_add_12 ⟨Nat.zero_le _, Nat.zero_le _⟩) hS (fun locs hS => ?_)
    refine lv_if_eq (tgt := 40) hx hb d_M_add_15 (by decide) (fun c_2 => ?_) (fun c_2 => ?_)
    · have b2 := zb_f c_2
      refine lv_aload_n hx hb d_M_add_40 rfl (zl hl rfl) ?_
      refine lv_iconst (v := 1) hx hb d_M_add_41 (by decide) ?_
      refine z_call (va_runV (As := [.int 1]) (rest := []) ⟨hx, hb, hml, hown, hts⟩ (c_M_raise l hP hM hD 1) (cwV 1 hts (tt_V tw_635 tw_632 tw_634 tw_15 tw_36) rfl rfl rfl (by decide +kernel) ⟨Nat.le_of_ble_eq_true rfl, Nat.le_of_ble_eq_true rfl⟩) (zPc_V hKN hP (ci := 4) (q := (R_M, F_M, 15)) rfl (PM_o hM)) rfl rfl hl.1 rfl (lv_room (Nat.le_of_ble_eq_true rfl)) d_M_add_42 ⟨Nat.le_of_ble_eq_true rfl, Nat.le_of_ble_eq_true rfl⟩) hS (fun ws H locs hR hP hD hz hS => ?_)
      have hF := zfrM_tr hF hR.2
      have hM := hR.1
      clear hR
      exact z_iretR hx hb hr hlocks hP hD hS (by simp [rAdd, cAdd, oAdd, fullA, *]) (⟨by first | (simp only [xAdd, cNew, cAdd, oAdd, fullA, *, reduceIte, Bool.true_and, Bool.false_and, Bool.and_false, Bool.and_true, Bool.false_eq_true, Bool.or_true, Bool.true_or, Bool.or_false, Bool.false_or, decide_true, decide_false, Option.isNone_none, Option.isNone_some, Bool.not_true, Bool.not_false, ite_self]; done) | (simp only [xAdd, cNew, cAdd, oAdd, fullA, *, reduceIte, Bool.true_and, Bool.false_and, Bool.and_false, Bool.and_true, Bool.false_eq_true, Bool.or_true, Bool.true_or, Bool.or_false, Bool.false_or, decide_true, decide_false, Option.isNone_none, Option.isNone_some, Bool.not_true, Bool.not_false, ite_self]; exact hM), hF⟩) d_M_add_45
    · have b2 := zb_t c_2
      refine lv_iload_n hx hb d_M_add_18 rfl (zl hl rfl) ?_
      refine lv_iconst (v := (-1)) hx hb d_M_add_19 (by decide) ?_
      refine lv_bipush (v := 7) hx hb d_M_add_20 (by decide) ?_
      refine z_calli (va_runS (As := [.int g, .int (-1), .int 7]) (rest := []) ⟨hx, hb, hml, hown, hts⟩ (c_M_within l hP g (-1) 7) (va_cwS 3 hts (tt_S tw_631 tw_629 tw_630 tw_36) rfl rfl rfl (by decide +kernel) ⟨Nat.le_of_ble_eq_true rfl, Nat.le_of_ble_eq_true rfl⟩) (zPc_S hKN) rfl rfl hl.1 rfl (lv_room (Nat.le_of_ble_eq_true rfl)) d_M_add_22 ⟨Nat.zero_le _, Nat.zero_le _⟩) hS (fun locs hS => ?_)
      refine lv_if_eq (tgt := 40) hx hb d_M_add_25 (by decide) (fun c_3 => ?_) (fun c_3 => ?_)
      · have b3 := zb_f c_3
        refine lv_aload_n hx hb d_M_add_40 rfl (zl hl rfl) ?_
        refine lv_iconst (v := 1) hx hb d_M_add_41 (by decide) ?_
        refine z_call (va_runV (As := [.int 1]) (rest := []) ⟨hx, hb, hml, hown, hts⟩ (c_M_raise l hP hM hD 1) (cwV 1 hts (tt_V tw_635 tw_632 tw_634 tw_15 tw_36) rfl rfl rfl (by decide +kernel) ⟨Nat.le_of_ble_eq_true rfl, Nat.le_of_ble_eq_true rfl⟩) (zPc_V hKN hP (ci := 4) (q := (R_M, F_M, 15)) rfl (PM_o hM)) rfl rfl hl.1 rfl (lv_room (Nat.le_of_ble_eq_true rfl)) d_M_add_42 ⟨Nat.le_of_ble_eq_true rfl, Nat.le_of_ble_eq_true rfl⟩) hS (fun ws H locs hR hP hD hz hS => ?_)
        have hF := zfrM_tr hF hR.2
        have hM := hR.1
        clear hR
        exact z_iretR hx hb hr hlocks hP hD hS (by simp [rAdd, cAdd, oAdd, fullA, *]) (⟨by first | (simp only [xAdd, cNew, cAdd, oAdd, fullA, *, reduceIte, Bool.true_and, Bool.false_and, Bool.and_false, Bool.and_true, Bool.false_eq_true, Bool.or_true, Bool.true_or, Bool.or_false, Bool.false_or, decide_true, decide_false, Option.isNone_none, Option.isNone_some, Bool.not_true, Bool.not_false, ite_self]; done) | (simp only [xAdd, cNew, cAdd, oAdd, fullA, *, reduceIte, Bool.true_and, Bool.false_and, Bool.and_false, Bool.and_true, Bool.false_eq_true, Bool.or_true, Bool.true_or, Bool.or_false, Bool.false_or, decide_true, decide_false, Option.isNone_none, Option.isNone_some, Bool.not_true, Bool.not_false, ite_self]; exact hM), hF⟩) d_M_add_45
      · have b3 := zb_t c_3
        refine lv_iload hx hb d_M_add_28 (zl hl rfl) ?_
        refine lv_iconst (v := 0) hx hb d_M_add_30 (by decide) ?_
        refine lv_sipush (v := 1000) hx hb d_M_add_31 (by decide) ?_
        refine z_calli (va_runS (As := [.int delay, .int 0, .int 1000]) (rest := []) ⟨hx, hb, hml, hown, hts⟩ (c_M_within l hP delay 0 1000) (va_cwS 3 hts (tt_S tw_631 tw_629 tw_630 tw_36) rfl rfl rfl (by decide +kernel) ⟨Nat.le_of_ble_eq_true rfl, Nat.le_of_ble_eq_true rfl⟩) (zPc_S hKN) rfl rfl hl.1 rfl (lv_room (Nat.le_of_ble_eq_true rfl)) d_M_add_34 ⟨Nat.zero_le _, Nat.zero_le _⟩) hS (fun locs hS => ?_)
        refine lv_if_ne (tgt := 46) hx hb d_M_add_37 (by decide) (fun c_4 => ?_) (fun c_4 => ?_)
        · have b4 := zb_t c_4
          refine lv_aload_n hx hb d_M_add_46 rfl (zl hl rfl) ?_
          refine lv_iload_n hx hb d_M_add_47 rfl (zl hl rfl) ?_
          refine lv_lload hx hb d_M_add_48 (zl hl rfl) ?_
          refine z_calli (va_runV (As := [.int (nI qi), .long kv]) (rest := []) ⟨hx, hb, hml, hown, hts⟩ (c_M_found l hP hM qi (by omega) kv hn) (cwV 2 hts (tt_V tw_639 tw_636 tw_638 tw_16 tw_36) rfl rfl rfl (by decide +kernel) ⟨Nat.le_of_ble_eq_true rfl, Nat.le_of_ble_eq_true rfl⟩) (zPc_V hKN hP (ci := 4) (q := (R_M, F_M, 15)) rfl (PM_o hM)) rfl rfl hl.1 rfl (lv_room (Nat.le_of_ble_eq_true rfl)) d_M_add_50 ⟨Nat.zero_le _, Nat.zero_le _⟩) hS (fun locs hS => ?_)
          rcases ho : lstD (pKey f ky time qi kv) n with _ | t
          · have hm1 : True := trivial
            refine lv_istore (lv' := [(7, .int (-1)), (0, .ref (ad 0)), (1, .int (nI qi)), (2, .int r), (3, .int g), (4, .long kv), (6, .int delay)]) hx hb d_M_add_53 hl (by decide) rfl (fun ls hl => ?_)
            refine lv_aload_n hx hb d_M_add_55 rfl (zl hl rfl) ?_
            refine lv_iload hx hb d_M_add_56 (zl hl rfl) ?_
            refine lv_iconst (v := (-1)) hx hb d_M_add_58 (by decide) ?_
            refine lv_icmp_ne (tgt := 85) hx hb d_M_add_59 (by decide) (fun c_5 => ?_) (fun c_5 => ?_)
            · exact absurd rfl c_5
            · refine lv_aload_n hx hb d_M_add_62 rfl (zl hl rfl) ?_
              refine z_calli (va_runV (As := []) (rest := [.ref (ad 0)]) ⟨hx, hb, hml, hown, hts⟩ (c_M_lives l hP hM hn) (cwV 0 hts (tt_V tw_647 tw_644 tw_646 tw_18 tw_36) rfl rfl rfl (by decide +kernel) ⟨Nat.le_of_ble_eq_true rfl, Nat.le_of_ble_eq_true rfl⟩) (zPc_V hKN hP (ci := 4) (q := (R_M, F_M, 15)) rfl (PM_o hM)) rfl rfl hl.1 rfl (lv_room (Nat.le_of_ble_eq_true rfl)) d_M_add_63 ⟨Nat.zero_le _, Nat.zero_le _⟩) hS (fun locs hS => ?_)
              refine lv_bipush (v := 64) hx hb d_M_add_66 (by decide) ?_
              refine lv_icmp_eq (tgt := 81) hx hb d_M_add_68 (by decide) (fun c_6 => ?_) (fun c_6 => ?_)
              · refine lv_iconst (v := 2) hx hb d_M_add_81 (by decide) ?_
                refine lv_goto (tgt := 86) hx hb d_M_add_82 (by decide) ?_
                have hD0 := hD
                refine z_put (C := R_M) (T := F_M) (N := 15) (v := .int 2) hx hb hts inT_M ft_M ft_M_ok fn_M hown hK hP hD hS (PM_o hM) rfl 0 (by decide) tw_573 (fun _ h => h) rfl rfl rfl (by simp) d_M_add_86 (fun ws H locs hP hD hS u_7 => ?_)
                have hF := zfrM_tr hF (zfrM_up hD0 (PM_o hM) rfl u_7)
                have hM := PM_wo (thr' := 2) (time' := time) (n' := n) (tok' := tok) hM u_7
                refine lv_aload_n hx hb d_M_add_89 rfl (zl hl rfl) ?_
                refine z_get (C := R_M) (T := F_M) (N := 15) (v := .int 2) hx hb hts inT_M hown hK hP (PM_o hM) rfl 0 (by decide) tw_573 (fun _ h => h) rfl d_M_add_90 ?_
                refine lv_if_le (tgt := 98) hx hb d_M_add_93 (by decide) (fun c_8 => ?_) (fun c_8 => ?_)
                · exact absurd c_8 (by decide)
                · refine lv_iconst (v := 0) hx hb d_M_add_96 (by decide) ?_
                  exact z_iretR hx hb hr hlocks hP hD hS (by simp [rAdd, cAdd, oAdd, fullA, *]) (⟨by first | (simp only [xAdd, cNew, cAdd, oAdd, fullA, *, reduceIte, Bool.true_and, Bool.false_and, Bool.and_false, Bool.and_true, Bool.false_eq_true, Bool.or_true, Bool.true_or, Bool.or_false, Bool.false_or, decide_true, decide_false, Option.isNone_none, Option.isNone_some, Bool.not_true, Bool.not_false, ite_self]; done) | (simp only [xAdd, cNew, cAdd, oAdd, fullA, *, reduceIte, Bool.true_and, Bool.false_and, Bool.and_false, Bool.and_true, Bool.false_eq_true, Bool.or_true, Bool.true_or, Bool.or_false, Bool.false_or, decide_true, decide_false, Option.isNone_none, Option.isNone_some, Bool.not_true, Bool.not_false, ite_self]; exact hM), hF⟩) d_M_add_97
              · refine lv_aload_n hx hb d_M_add_71 rfl (zl hl rfl) ?_
                refine z_get (C := R_M) (T := F_M) (N := 15) (v := .int (nI n)) hx hb hts inT_M hown hK hP (PM_o hM) rfl 2 (by decide) tw_575 (fun _ h => h) rfl d_M_add_72 ?_
                refine lv_sipush (v := 400) hx hb d_M_add_75 (by decide) ?_
                refine lv_icmp_ne (tgt := 85) hx hb d_M_add_78 (by decide) (fun c_9 => ?_) (fun c_9 => ?_)
                · have hlt : n < 400 := by
                    rcases Nat.lt_or_ge n 400 with q | q
                    · exact q
                    · exact absurd (congrArg nI (show n = 400 by omega)) c_9
                  refine lv_iconst (v := 0) hx hb d_M_add_85 (by decide) ?_
                  have hD0 := hD
                  refine z_put (C := R_M) (T := F_M) (N := 15) (v := .int 0) hx hb hts inT_M ft_M ft_M_ok fn_M hown hK hP hD hS (PM_o hM) rfl 0 (by decide) tw_573 (fun _ h => h) rfl rfl rfl (by simp) d_M_add_86 (fun ws H locs hP hD hS u_10 => ?_)
                  have hF := zfrM_tr hF (zfrM_up hD0 (PM_o hM) rfl u_10)
                  have hM := PM_wo (thr' := 0) (time' := time) (n' := n) (tok' := tok) hM u_10
                  refine lv_aload_n hx hb d_M_add_89 rfl (zl hl rfl) ?_
                  refine z_get (C := R_M) (T := F_M) (N := 15) (v := .int 0) hx hb hts inT_M hown hK hP (PM_o hM) rfl 0 (by decide) tw_573 (fun _ h => h) rfl d_M_add_90 ?_
                  refine lv_if_le (tgt := 98) hx hb d_M_add_93 (by decide) (fun c_11 => ?_) (fun c_11 => ?_)
                  · refine lv_iload hx hb d_M_add_98 (zl hl rfl) ?_
                    refine lv_iconst (v := (-1)) hx hb d_M_add_100 (by decide) ?_
                    refine lv_icmp_eq (tgt := 107) hx hb d_M_add_101 (by decide) (fun c_12 => ?_) (fun c_12 => ?_)
                    · refine lv_aload_n hx hb d_M_add_107 rfl (zl hl rfl) ?_
                      refine z_get (C := R_M) (T := F_M) (N := 15) (v := .int (nI n)) hx hb hts inT_M hown hK hP (PM_o hM) rfl 2 (by decide) tw_575 (fun _ h => h) rfl d_M_add_108 ?_
                      refine lv_istore (lv' := [(8, .int (nI n)), (7, .int (-1)), (0, .ref (ad 0)), (1, .int (nI qi)), (2, .int r), (3, .int g), (4, .long kv), (6, .int delay)]) hx hb d_M_add_111 hl (by decide) rfl (fun ls hl => ?_)
                      refine lv_aload_n hx hb d_M_add_113 rfl (zl hl rfl) ?_
                      refine lv_dup hx hb d_M_add_114 rfl ?_
                      refine z_get (C := R_M) (T := F_M) (N := 15) (v := .int (nI n)) hx hb hts inT_M hown hK hP (PM_o hM) rfl 2 (by decide) tw_575 (fun _ h => h) rfl d_M_add_115 ?_
                      refine lv_iconst (v := 1) hx hb d_M_add_118 (by decide) ?_
                      refine lv_iadd hx hb d_M_add_119 ?_
                      refine z_top (y := nI (n + 1)) (nI_1 n) ?_
                      have hD0 := hD
                      refine z_put (C := R_M) (T := F_M) (N := 15) (v := .int (nI (n + 1))) hx hb hts inT_M ft_M ft_M_ok fn_M hown hK hP hD hS (PM_o hM) rfl 2 (by decide) tw_575 (fun _ h => h) rfl rfl rfl (by simp) d_M_add_120 (fun ws H locs hP hD hS u_13 => ?_)
                      have hF := zfrM_tr hF (zfrM_up hD0 (PM_o hM) rfl u_13)
                      have hM := PM_wo (thr' := 0) (time' := time) (n' := (n + 1)) (tok' := tok) hM u_13
                      refine lv_aload_n hx hb d_M_add_123 rfl (zl hl rfl) ?_
                      refine z_get (C := R_M) (T := F_M) (N := 15) (v := .ref (ad 1)) hx hb hts inT_M hown hK hP (PM_o hM) rfl 4 (by decide) tw_577 (fun _ h => h) rfl d_M_add_124 ?_
                      refine lv_iload hx hb d_M_add_127 (zl hl rfl) ?_
                      refine lv_iload_n hx hb d_M_add_129 rfl (zl hl rfl) ?_
                      have hD0 := hD
                      refine z_iast hx hb hK hP hD hS 0 (PM_1 hM) rfl n rfl (by omega) (by decide) d_M_add_130 (fun ws H locs hP hD hS u_14 => ?_)
                      have hF := zfrM_tr hF (zfrM_up hD0 (PM_1 hM) rfl u_14)
                      have hM := PM_wa hM 1 (by decide) (by decide) (by decide) rfl u_14
                      refine lv_aload_n hx hb d_M_add_131 rfl (zl hl rfl) ?_
                      refine z_get (C := R_M) (T := F_M) (N := 15) (v := .ref (ad 2)) hx hb hts inT_M hown hK hP (PM_o hM) rfl 5 (by decide) tw_578 (fun _ h => h) rfl d_M_add_132 ?_
                      refine lv_iload hx hb d_M_add_135 (zl hl rfl) ?_
                      refine lv_iload_n hx hb d_M_add_137 rfl (zl hl rfl) ?_
                      have hD0 := hD
                      refine z_iast hx hb hK hP hD hS 0 (PM_2 hM) rfl n rfl (by omega) (by decide) d_M_add_138 (fun ws H locs hP hD hS u_15 => ?_)
                      have hF := zfrM_tr hF (zfrM_up hD0 (PM_2 hM) rfl u_15)
                      have hM := PM_wa hM 2 (by decide) (by decide) (by decide) rfl u_15
                      refine lv_aload_n hx hb d_M_add_139 rfl (zl hl rfl) ?_
                      refine z_get (C := R_M) (T := F_M) (N := 15) (v := .ref (ad 3)) hx hb hts inT_M hown hK hP (PM_o hM) rfl 6 (by decide) tw_579 (fun _ h => h) rfl d_M_add_140 ?_
                      refine lv_iload hx hb d_M_add_143 (zl hl rfl) ?_
                      refine lv_iload_n hx hb d_M_add_145 rfl (zl hl rfl) ?_
                      have hD0 := hD
                      refine z_iast hx hb hK hP hD hS 0 (PM_3 hM) rfl n rfl (by omega) (by decide) d_M_add_146 (fun ws H locs hP hD hS u_16 => ?_)
                      have hF := zfrM_tr hF (zfrM_up hD0 (PM_3 hM) rfl u_16)
                      have hM := PM_wa hM 3 (by decide) (by decide) (by decide) rfl u_16
                      refine lv_aload_n hx hb d_M_add_147 rfl (zl hl rfl) ?_
                      refine z_get (C := R_M) (T := F_M) (N := 15) (v := .ref (ad 4)) hx hb hts inT_M hown hK hP (PM_o hM) rfl 7 (by decide) tw_580 (fun _ h => h) rfl d_M_add_148 ?_
                      refine lv_iload hx hb d_M_add_151 (zl hl rfl) ?_
                      refine lv_lload hx hb d_M_add_153 (zl hl rfl) ?_
                      have hD0 := hD
                      refine z_last hx hb hK hP hD hS 1 (PM_4 hM) rfl n rfl (by omega) (by decide) d_M_add_155 (fun ws H locs hP hD hS u_17 => ?_)
                      have hF := zfrM_tr hF (zfrM_up hD0 (PM_4 hM) rfl u_17)
                      have hM := PM_wk hM u_17
                      refine lv_aload_n hx hb d_M_add_156 rfl (zl hl rfl) ?_
                      refine z_get (C := R_M) (T := F_M) (N := 15) (v := .ref (ad 5)) hx hb hts inT_M hown hK hP (PM_o hM) rfl 8 (by decide) tw_581 (fun _ h => h) rfl d_M_add_157 ?_
                      refine lv_iload hx hb d_M_add_160 (zl hl rfl) ?_
                      refine lv_iconst (v := 0) hx hb d_M_add_162 (by decide) ?_
                      have hD0 := hD
                      refine z_iast hx hb hK hP hD hS 0 (PM_5 hM) rfl n rfl (by omega) (by decide) d_M_add_163 (fun ws H locs hP hD hS u_18 => ?_)
                      have hF := zfrM_tr hF (zfrM_up hD0 (PM_5 hM) rfl u_18)
                      have hM := PM_wa hM 5 (by decide) (by decide) (by decide) rfl u_18
                      refine lv_aload_n hx hb d_M_add_164 rfl (zl hl rfl) ?_
                      refine z_get (C := R_M) (T := F_M) (N := 15) (v := .ref (ad 6)) hx hb hts inT_M hown hK hP (PM_o hM) rfl 9 (by decide) tw_582 (fun _ h => h) rfl d_M_add_165 ?_
                      refine lv_iload hx hb d_M_add_168 (zl hl rfl) ?_
                      refine lv_iconst (v := 0) hx hb d_M_add_170 (by decide) ?_
                      have hD0 := hD
                      refine z_iast hx hb hK hP hD hS 0 (PM_6 hM) rfl n rfl (by omega) (by decide) d_M_add_171 (fun ws H locs hP hD hS u_19 => ?_)
                      have hF := zfrM_tr hF (zfrM_up hD0 (PM_6 hM) rfl u_19)
                      have hM := PM_wa hM 6 (by decide) (by decide) (by decide) rfl u_19
                      refine lv_aload_n hx hb d_M_add_172 rfl (zl hl rfl) ?_
                      refine z_get (C := R_M) (T := F_M) (N := 15) (v := .ref (ad 7)) hx hb hts inT_M hown hK hP (PM_o hM) rfl 10 (by decide) tw_583 (fun _ h => h) rfl d_M_add_173 ?_
                      refine lv_iload hx hb d_M_add_176 (zl hl rfl) ?_
                      refine lv_aload_n hx hb d_M_add_178 rfl (zl hl rfl) ?_
                      refine z_get (C := R_M) (T := F_M) (N := 15) (v := .int time) hx hb hts inT_M hown hK hP (PM_o hM) rfl 1 (by decide) tw_574 (fun _ h => h) rfl d_M_add_179 ?_
                      refine lv_iload hx hb d_M_add_182 (zl hl rfl) ?_
                      refine lv_iadd hx hb d_M_add_184 ?_
                      have hD0 := hD
                      refine z_iast hx hb hK hP hD hS 0 (PM_7 hM) rfl n rfl (by omega) (by decide) d_M_add_185 (fun ws H locs hP hD hS u_20 => ?_)
                      have hF := zfrM_tr hF (zfrM_up hD0 (PM_7 hM) rfl u_20)
                      have hM := PM_wa hM 7 (by decide) (by decide) (by decide) rfl u_20
                      refine lv_iload hx hb d_M_add_186 (zl hl rfl) ?_
                      exact z_iretR hx hb hr hlocks hP hD hS (by simp [rAdd, cAdd, oAdd, fullA, *]) (⟨by first | (simp only [xAdd, cNew, cAdd, oAdd, fullA, *, reduceIte, Bool.true_and, Bool.false_and, Bool.and_false, Bool.and_true, Bool.false_eq_true, Bool.or_true, Bool.true_or, Bool.or_false, Bool.false_or, decide_true, decide_false, Option.isNone_none, Option.isNone_some, Bool.not_true, Bool.not_false, ite_self]; done) | (simp only [xAdd, cNew, cAdd, oAdd, fullA, *, reduceIte, Bool.true_and, Bool.false_and, Bool.and_false, Bool.and_true, Bool.false_eq_true, Bool.or_true, Bool.true_or, Bool.or_false, Bool.false_or, decide_true, decide_false, Option.isNone_none, Option.isNone_some, Bool.not_true, Bool.not_false, ite_self]; exact hM), hF⟩) d_M_add_188
                    · exact absurd rfl c_12
                  · exact absurd (by decide) c_11
                · refine lv_iconst (v := 2) hx hb d_M_add_81 (by decide) ?_
                  refine lv_goto (tgt := 86) hx hb d_M_add_82 (by decide) ?_
                  have hD0 := hD
                  refine z_put (C := R_M) (T := F_M) (N := 15) (v := .int 2) hx hb hts inT_M ft_M ft_M_ok fn_M hown hK hP hD hS (PM_o hM) rfl 0 (by decide) tw_573 (fun _ h => h) rfl rfl rfl (by simp) d_M_add_86 (fun ws H locs hP hD hS u_21 => ?_)
                  have hF := zfrM_tr hF (zfrM_up hD0 (PM_o hM) rfl u_21)
                  have hM := PM_wo (thr' := 2) (time' := time) (n' := n) (tok' := tok) hM u_21
                  refine lv_aload_n hx hb d_M_add_89 rfl (zl hl rfl) ?_
                  refine z_get (C := R_M) (T := F_M) (N := 15) (v := .int 2) hx hb hts inT_M hown hK hP (PM_o hM) rfl 0 (by decide) tw_573 (fun _ h => h) rfl d_M_add_90 ?_
                  refine lv_if_le (tgt := 98) hx hb d_M_add_93 (by decide) (fun c_22 => ?_) (fun c_22 => ?_)
                  · exact absurd c_22 (by decide)
                  · refine lv_iconst (v := 0) hx hb d_M_add_96 (by decide) ?_
                    exact z_iretR hx hb hr hlocks hP hD hS (by simp [rAdd, cAdd, oAdd, fullA, *]) (⟨by first | (simp only [xAdd, cNew, cAdd, oAdd, fullA, *, reduceIte, Bool.true_and, Bool.false_and, Bool.and_false, Bool.and_true, Bool.false_eq_true, Bool.or_true, Bool.true_or, Bool.or_false, Bool.false_or, decide_true, decide_false, Option.isNone_none, Option.isNone_some, Bool.not_true, Bool.not_false, ite_self]; done) | (simp only [xAdd, cNew, cAdd, oAdd, fullA, *, reduceIte, Bool.true_and, Bool.false_and, Bool.and_false, Bool.and_true, Bool.false_eq_true, Bool.or_true, Bool.true_or, Bool.or_false, Bool.false_or, decide_true, decide_false, Option.isNone_none, Option.isNone_some, Bool.not_true, Bool.not_false, ite_self]; exact hM), hF⟩) d_M_add_97
          · have hto := lstD_some ho
            refine lv_istore (lv' := [(7, .int (nI t)), (0, .ref (ad 0)), (1, .int (nI qi)), (2, .int r), (3, .int g), (4, .long kv), (6, .int delay)]) hx hb d_M_add_53 hl (by decide) rfl (fun ls hl => ?_)
            refine lv_aload_n hx hb d_M_add_55 rfl (zl hl rfl) ?_
            refine lv_iload hx hb d_M_add_56 (zl hl rfl) ?_
            refine lv_iconst (v := (-1)) hx hb d_M_add_58 (by decide) ?_
            refine lv_icmp_ne (tgt := 85) hx hb d_M_add_59 (by decide) (fun c_23 => ?_) (fun c_23 => ?_)
            · refine lv_iconst (v := 0) hx hb d_M_add_85 (by decide) ?_
              have hD0 := hD
              refine z_put (C := R_M) (T := F_M) (N := 15) (v := .int 0) hx hb hts inT_M ft_M ft_M_ok fn_M hown hK hP hD hS (PM_o hM) rfl 0 (by decide) tw_573 (fun _ h => h) rfl rfl rfl (by simp) d_M_add_86 (fun ws H locs hP hD hS u_24 => ?_)
              have hF := zfrM_tr hF (zfrM_up hD0 (PM_o hM) rfl u_24)
              have hM := PM_wo (thr' := 0) (time' := time) (n' := n) (tok' := tok) hM u_24
              refine lv_aload_n hx hb d_M_add_89 rfl (zl hl rfl) ?_
              refine z_get (C := R_M) (T := F_M) (N := 15) (v := .int 0) hx hb hts inT_M hown hK hP (PM_o hM) rfl 0 (by decide) tw_573 (fun _ h => h) rfl d_M_add_90 ?_
              refine lv_if_le (tgt := 98) hx hb d_M_add_93 (by decide) (fun c_25 => ?_) (fun c_25 => ?_)
              · refine lv_iload hx hb d_M_add_98 (zl hl rfl) ?_
                refine lv_iconst (v := (-1)) hx hb d_M_add_100 (by decide) ?_
                refine lv_icmp_eq (tgt := 107) hx hb d_M_add_101 (by decide) (fun c_26 => ?_) (fun c_26 => ?_)
                · exact absurd c_26 (nI_m1 (by omega))
                · refine lv_iload hx hb d_M_add_104 (zl hl rfl) ?_
                  exact z_iretR hx hb hr hlocks hP hD hS (by simp [rAdd, cAdd, oAdd, fullA, *]) (⟨by first | (simp only [xAdd, cNew, cAdd, oAdd, fullA, *, reduceIte, Bool.true_and, Bool.false_and, Bool.and_false, Bool.and_true, Bool.false_eq_true, Bool.or_true, Bool.true_or, Bool.or_false, Bool.false_or, decide_true, decide_false, Option.isNone_none, Option.isNone_some, Bool.not_true, Bool.not_false, ite_self]; done) | (simp only [xAdd, cNew, cAdd, oAdd, fullA, *, reduceIte, Bool.true_and, Bool.false_and, Bool.and_false, Bool.and_true, Bool.false_eq_true, Bool.or_true, Bool.true_or, Bool.or_false, Bool.false_or, decide_true, decide_false, Option.isNone_none, Option.isNone_some, Bool.not_true, Bool.not_false, ite_self]; exact hM), hF⟩) d_M_add_106
              · exact absurd (by decide) c_25
            · exact absurd c_23 (nI_m1 (by omega))
        · have b4 := zb_f c_4
          refine lv_aload_n hx hb d_M_add_40 rfl (zl hl rfl) ?_
          refine lv_iconst (v := 1) hx hb d_M_add_41 (by decide) ?_
          refine z_call (va_runV (As := [.int 1]) (rest := []) ⟨hx, hb, hml, hown, hts⟩ (c_M_raise l hP hM hD 1) (cwV 1 hts (tt_V tw_635 tw_632 tw_634 tw_15 tw_36) rfl rfl rfl (by decide +kernel) ⟨Nat.le_of_ble_eq_true rfl, Nat.le_of_ble_eq_true rfl⟩) (zPc_V hKN hP (ci := 4) (q := (R_M, F_M, 15)) rfl (PM_o hM)) rfl rfl hl.1 rfl (lv_room (Nat.le_of_ble_eq_true rfl)) d_M_add_42 ⟨Nat.le_of_ble_eq_true rfl, Nat.le_of_ble_eq_true rfl⟩) hS (fun ws H locs hR hP hD hz hS => ?_)
          have hF := zfrM_tr hF hR.2
          have hM := hR.1
          clear hR
          exact z_iretR hx hb hr hlocks hP hD hS (by simp [rAdd, cAdd, oAdd, fullA, *]) (⟨by first | (simp only [xAdd, cNew, cAdd, oAdd, fullA, *, reduceIte, Bool.true_and, Bool.false_and, Bool.and_false, Bool.and_true, Bool.false_eq_true, Bool.or_true, Bool.true_or, Bool.or_false, Bool.false_or, decide_true, decide_false, Option.isNone_none, Option.isNone_some, Bool.not_true, Bool.not_false, ite_self]; done) | (simp only [xAdd, cNew, cAdd, oAdd, fullA, *, reduceIte, Bool.true_and, Bool.false_and, Bool.and_false, Bool.and_true, Bool.false_eq_true, Bool.or_true, Bool.true_or, Bool.or_false, Bool.false_or, decide_true, decide_false, Option.isNone_none, Option.isNone_some, Bool.not_true, Bool.not_false, ite_self]; exact hM), hF⟩) d_M_add_45
set_option maxHeartbeats 4000000 in
set_option maxRecDepth 100000 in
theorem c_M_again (l : Launch) {D : va_G} {ws : va_W} {H : Heap} (hP : va_P D vwCl ws H) {kk : Nat → ClassId} {ad : Nat → Nat} {thr time tok : Int32} {n : Nat} {f : Nat → Nat → Int32} {ky : Nat → Int64} (hM : PM kk ad thr time n tok f ky ws)  {B : Nat} (hD : va_D (fun q => B ≤ q) ws) (t : Nat) (ht : t < 400) (hq : f 1 t = nI (qx f t)) (hq2 : qx f t < 4) (tr : Nat) (htr : f 5 t = nI tr) (htr1 : 1 ≤ tr) (htr2 : tr < 2 ^ 30) : Met l y_M_again (Cond.code y_M_again b_M_again 5 none :: TT) ({ frames := 1, cells := 0, slots := 0, locals := 60 }) (zPc [.ref (ad 0), .int (nI t)] H D vwCl (TY kk)) (zR D vwCl B none (fun ws' => PM kk ad thr time n tok (mAgain f time t) ky ws' ∧ zfrM ws ws')) 0 0 (fun q => B ≤ q) := by
  refine z_body (by decide) (Nat.le_of_ble_eq_true rfl) ?_
  intro p e s m below meth c ls C0 hH hKN hl
  obtain ⟨hx, hb, hr, hts, hown, hlocks, hml⟩ := C0
  subst hH
  have hK := hKN.1
  have hN := hKN.2
  have hS : va_S (fun q => B ≤ q) s.heap s.heap [] := va_S.rf
  have hF : zfrM ws ws := zfrM_rf
  have hl : lv_has ls 5 [(0, .ref (ad 0)), (1, .int (nI t))] := hl
  refine lv_bipush (v := 6) hx hb d_M_again_0 (by decide) ?_
  refine lv_aload_n hx hb d_M_again_2 rfl (zl hl rfl) ?_
  refine z_get (C := R_M) (T := F_M) (N := 15) (v := .ref (ad 1)) hx hb hts inT_M hown hK hP (PM_o hM) rfl 4 (by decide) tw_577 (fun _ h => h) rfl d_M_again_3 ?_
  refine lv_iload_n hx hb d_M_again_6 rfl (zl hl rfl) ?_
  refine z_iald hx hb hK hP 0 (PM_1 hM) rfl t rfl (by omega) (by decide) d_M_again_7 ?_
  refine lv_imul hx hb d_M_again_8 ?_
  refine z_top (y := nI (6 * qx f t)) (by rw [hq]; exact z_idx0 (qx f t)) ?_
  refine lv_istore_n (lv' := [(2, .int (nI (6 * qx f t))), (0, .ref (ad 0)), (1, .int (nI t))]) hx hb d_M_again_9 rfl hl (by decide) rfl (fun ls hl => ?_)
  refine lv_aload_n hx hb d_M_again_10 rfl (zl hl rfl) ?_
  refine z_get (C := R_M) (T := F_M) (N := 15) (v := .ref (ad 5)) hx hb hts inT_M hown hK hP (PM_o hM) rfl 8 (by decide) tw_581 (fun _ h => h) rfl d_M_again_11 ?_
  refine lv_iload_n hx hb d_M_again_14 rfl (zl hl rfl) ?_
  refine z_iald hx hb hK hP 0 (PM_5 hM) rfl t rfl (by omega) (by decide) d_M_again_15 ?_
  refine lv_aload_n hx hb d_M_again_16 rfl (zl hl rfl) ?_
  refine z_get (C := R_M) (T := F_M) (N := 15) (v := .ref (ad 10)) hx hb hts inT_M hown hK hP (PM_o hM) rfl 13 (by decide) tw_586 (fun _ h => h) rfl d_M_again_17 ?_
  refine lv_iload_n hx hb d_M_again_20 rfl (zl hl rfl) ?_
  refine lv_iconst (v := 1) hx hb d_M_again_21 (by decide) ?_
  refine lv_iadd hx hb d_M_again_22 ?_
  refine z_iald hx hb hK hP 0 (PM_10 hM) rfl (6 * qx f t + 1) (nI_add (6 * qx f t) 1) (by omega) (by decide) d_M_again_23 ?_
  refine lv_icmp_lt (tgt := 35) hx hb d_M_again_24 (by decide) (fun c_1 => ?_) (fun c_1 => ?_)
  · have hlt9 := c_1
    refine lv_aload_n hx hb d_M_again_35 rfl (zl hl rfl) ?_
    refine z_get (C := R_M) (T := F_M) (N := 15) (v := .ref (ad 10)) hx hb hts inT_M hown hK hP (PM_o hM) rfl 13 (by decide) tw_586 (fun _ h => h) rfl d_M_again_36 ?_
    refine lv_iload_n hx hb d_M_again_39 rfl (zl hl rfl) ?_
    refine lv_iconst (v := 2) hx hb d_M_again_40 (by decide) ?_
    refine lv_iadd hx hb d_M_again_41 ?_
    refine z_iald hx hb hK hP 0 (PM_10 hM) rfl (6 * qx f t + 2) (nI_add (6 * qx f t) 2) (by omega) (by decide) d_M_again_42 ?_
    refine lv_istore_n (lv' := [(3, .int (f 10 (6 * qx f t + 2))), (2, .int (nI (6 * qx f t))), (0, .ref (ad 0)), (1, .int (nI t))]) hx hb d_M_again_43 rfl hl (by decide) rfl (fun ls hl => ?_)
    refine lv_iconst (v := 1) hx hb d_M_again_44 (by decide) ?_
    refine lv_istore (lv' := [(4, .int 1), (3, .int (f 10 (6 * qx f t + 2))), (2, .int (nI (6 * qx f t))), (0, .ref (ad 0)), (1, .int (nI t))]) hx hb d_M_again_45 hl (by decide) rfl (fun ls hl => ?_)
    have key : ∀ (x j : Nat) (w : Int32) (ls : Array Slot), j + x = tr → mWait f t = dwl (f 10 (6 * qx f t + 3)) x w → lv_has ls 5 [(0, .ref (ad 0)), (1, .int (nI t)), (2, .int (nI (6 * qx f t))), (3, .int w), (4, .int (nI j))] → W p l e ({ frames := 1, cells := 0, slots := 0, locals := 60 }) s m ([.ref (ad 0), .int (nI t)] : List Value).toArray below meth c s.heap [] 0 0 (MQ below (zR D vwCl B none (fun ws' => PM kk ad thr time n tok (mAgain f time t) ky ws' ∧ zfrM ws ws')) ([.ref (ad 0), .int (nI t)] : List Value).toArray s 0 0 (fun q => B ≤ q)) (F0 m 47 ls []) := by
      intro x
      induction x with
      | zero =>
        intro j w ls hj hw hl
        have hw : mWait f t = w := hw
        refine lv_iload hx hb d_M_again_47 (zl hl rfl) ?_
        refine lv_aload_n hx hb d_M_again_49 rfl (zl hl rfl) ?_
        refine z_get (C := R_M) (T := F_M) (N := 15) (v := .ref (ad 5)) hx hb hts inT_M hown hK hP (PM_o hM) rfl 8 (by decide) tw_581 (fun _ h => h) rfl d_M_again_50 ?_
        refine lv_iload_n hx hb d_M_again_53 rfl (zl hl rfl) ?_
        refine z_iald hx hb hK hP 0 (PM_5 hM) rfl t rfl (by omega) (by decide) d_M_again_54 ?_
        refine lv_icmp_ge (tgt := 80) hx hb d_M_again_55 (by decide) (fun c_1 => ?_) (fun c_1 => ?_)
        · have hwe : mWait f t = w := hw
          refine lv_aload_n hx hb d_M_again_80 rfl (zl hl rfl) ?_
          refine z_get (C := R_M) (T := F_M) (N := 15) (v := .ref (ad 6)) hx hb hts inT_M hown hK hP (PM_o hM) rfl 9 (by decide) tw_582 (fun _ h => h) rfl d_M_again_81 ?_
          refine lv_iload_n hx hb d_M_again_84 rfl (zl hl rfl) ?_
          refine lv_iconst (v := 0) hx hb d_M_again_85 (by decide) ?_
          have hD0 := hD
          refine z_iast hx hb hK hP hD hS 0 (PM_6 hM) rfl t rfl (by omega) (by decide) d_M_again_86 (fun ws H locs hP hD hS u_2 => ?_)
          have hF := zfrM_tr hF (zfrM_up hD0 (PM_6 hM) rfl u_2)
          have hM := PM_wa hM 6 (by decide) (by decide) (by decide) rfl u_2
          refine lv_aload_n hx hb d_M_again_87 rfl (zl hl rfl) ?_
          refine z_get (C := R_M) (T := F_M) (N := 15) (v := .ref (ad 7)) hx hb hts inT_M hown hK hP (PM_o hM) rfl 10 (by decide) tw_583 (fun _ h => h) rfl d_M_again_88 ?_
          refine lv_iload_n hx hb d_M_again_91 rfl (zl hl rfl) ?_
          refine lv_aload_n hx hb d_M_again_92 rfl (zl hl rfl) ?_
          refine z_get (C := R_M) (T := F_M) (N := 15) (v := .int time) hx hb hts inT_M hown hK hP (PM_o hM) rfl 1 (by decide) tw_574 (fun _ h => h) rfl d_M_again_93 ?_
          refine lv_iload_n hx hb d_M_again_96 rfl (zl hl rfl) ?_
          refine lv_aload_n hx hb d_M_again_97 rfl (zl hl rfl) ?_
          refine z_get (C := R_M) (T := F_M) (N := 15) (v := .ref (ad 10)) hx hb hts inT_M hown hK hP (PM_o hM) rfl 13 (by decide) tw_586 (fun _ h => h) rfl d_M_again_98 ?_
          refine lv_iload_n hx hb d_M_again_101 rfl (zl hl rfl) ?_
          refine lv_iconst (v := 3) hx hb d_M_again_102 (by decide) ?_
          refine lv_iadd hx hb d_M_again_103 ?_
          refine z_iald hx hb hK hP 0 (PM_10 hM) rfl (6 * qx f t + 3) (nI_add (6 * qx f t) 3) (by omega) (by decide) d_M_again_104 ?_
          refine lv_icmp_ge (tgt := 112) hx hb d_M_again_105 (by decide) (fun c_3 => ?_) (fun c_3 => ?_)
          · have b8 := zle_nlt c_3
            refine lv_aload_n hx hb d_M_again_112 rfl (zl hl rfl) ?_
            refine z_get (C := R_M) (T := F_M) (N := 15) (v := .ref (ad 10)) hx hb hts inT_M hown hK hP (PM_o hM) rfl 13 (by decide) tw_586 (fun _ h => h) rfl d_M_again_113 ?_
            refine lv_iload_n hx hb d_M_again_116 rfl (zl hl rfl) ?_
            refine lv_iconst (v := 3) hx hb d_M_again_117 (by decide) ?_
            refine lv_iadd hx hb d_M_again_118 ?_
            refine z_iald hx hb hK hP 0 (PM_10 hM) rfl (6 * qx f t + 3) (nI_add (6 * qx f t) 3) (by omega) (by decide) d_M_again_119 ?_
            refine lv_iadd hx hb d_M_again_120 ?_
            have hD0 := hD
            refine z_iast hx hb hK hP hD hS 0 (PM_7 hM) rfl t rfl (by omega) (by decide) d_M_again_121 (fun ws H locs hP hD hS u_4 => ?_)
            have hF := zfrM_tr hF (zfrM_up hD0 (PM_7 hM) rfl u_4)
            have hM := PM_wa hM 7 (by decide) (by decide) (by decide) rfl u_4
            exact z_vretR hx hb hr hlocks hP hD hS (⟨by first | (rw [mAgain_1 hlt9 hwe b8]; exact hM) | (rw [mAgain_2 hlt9 hwe b8]; exact hM), hF⟩) d_M_again_122
          · have b8 := znle_lt c_3
            refine lv_iload_n hx hb d_M_again_108 rfl (zl hl rfl) ?_
            refine lv_goto (tgt := 120) hx hb d_M_again_109 (by decide) ?_
            refine lv_iadd hx hb d_M_again_120 ?_
            have hD0 := hD
            refine z_iast hx hb hK hP hD hS 0 (PM_7 hM) rfl t rfl (by omega) (by decide) d_M_again_121 (fun ws H locs hP hD hS u_5 => ?_)
            have hF := zfrM_tr hF (zfrM_up hD0 (PM_7 hM) rfl u_5)
            have hM := PM_wa hM 7 (by decide) (by decide) (by decide) rfl u_5
            exact z_vretR hx hb hr hlocks hP hD hS (⟨by first | (rw [mAgain_1 hlt9 hwe b8]; exact hM) | (rw [mAgain_2 hlt9 hwe b8]; exact hM), hF⟩) d_M_again_122
        · exact absurd (by rw [htr, show j = tr by omega]; exact Int32.le_refl _) c_1
      | succ x ih =>
        intro j w ls hj hw hl
        refine lv_iload hx hb d_M_again_47 (zl hl rfl) ?_
        refine lv_aload_n hx hb d_M_again_49 rfl (zl hl rfl) ?_
        refine z_get (C := R_M) (T := F_M) (N := 15) (v := .ref (ad 5)) hx hb hts inT_M hown hK hP (PM_o hM) rfl 8 (by decide) tw_581 (fun _ h => h) rfl d_M_again_50 ?_
        refine lv_iload_n hx hb d_M_again_53 rfl (zl hl rfl) ?_
        refine z_iald hx hb hK hP 0 (PM_5 hM) rfl t rfl (by omega) (by decide) d_M_again_54 ?_
        refine lv_icmp_ge (tgt := 80) hx hb d_M_again_55 (by decide) (fun c_1 => ?_) (fun c_1 => ?_)
        · exact absurd (by rw [htr] at c_1; exact c_1) (nI_ge (by omega) (by omega))
        · refine lv_iload_n hx hb d_M_again_58 rfl (zl hl rfl) ?_
          refine lv_aload_n hx hb d_M_again_59 rfl (zl hl rfl) ?_
          refine z_get (C := R_M) (T := F_M) (N := 15) (v := .ref (ad 10)) hx hb hts inT_M hown hK hP (PM_o hM) rfl 13 (by decide) tw_586 (fun _ h => h) rfl d_M_again_60 ?_
          refine lv_iload_n hx hb d_M_again_63 rfl (zl hl rfl) ?_
          refine lv_iconst (v := 3) hx hb d_M_again_64 (by decide) ?_
          refine lv_iadd hx hb d_M_again_65 ?_
          refine z_iald hx hb hK hP 0 (PM_10 hM) rfl (6 * qx f t + 3) (nI_add (6 * qx f t) 3) (by omega) (by decide) d_M_again_66 ?_
          refine lv_icmp_ge (tgt := 80) hx hb d_M_again_67 (by decide) (fun c_2 => ?_) (fun c_2 => ?_)
          · have b3 := zle_nlt c_2
            have hwe : mWait f t = w := by
              rw [hw]
              show (if w < f 10 (6 * qx f t + 3) then _ else _) = _
              rw [if_neg b3]
            refine lv_aload_n hx hb d_M_again_80 rfl (zl hl rfl) ?_
            refine z_get (C := R_M) (T := F_M) (N := 15) (v := .ref (ad 6)) hx hb hts inT_M hown hK hP (PM_o hM) rfl 9 (by decide) tw_582 (fun _ h => h) rfl d_M_again_81 ?_
            refine lv_iload_n hx hb d_M_again_84 rfl (zl hl rfl) ?_
            refine lv_iconst (v := 0) hx hb d_M_again_85 (by decide) ?_
            have hD0 := hD
            refine z_iast hx hb hK hP hD hS 0 (PM_6 hM) rfl t rfl (by omega) (by decide) d_M_again_86 (fun ws H locs hP hD hS u_3 => ?_)
            have hF := zfrM_tr hF (zfrM_up hD0 (PM_6 hM) rfl u_3)
            have hM := PM_wa hM 6 (by decide) (by decide) (by decide) rfl u_3
            refine lv_aload_n hx hb d_M_again_87 rfl (zl hl rfl) ?_
            refine z_get (C := R_M) (T := F_M) (N := 15) (v := .ref (ad 7)) hx hb hts inT_M hown hK hP (PM_o hM) rfl 10 (by decide) tw_583 (fun _ h => h) rfl d_M_again_88 ?_
            refine lv_iload_n hx hb d_M_again_91 rfl (zl hl rfl) ?_
            refine lv_aload_n hx hb d_M_again_92 rfl (zl hl rfl) ?_
            refine z_get (C := R_M) (T := F_M) (N := 15) (v := .int time) hx hb hts inT_M hown hK hP (PM_o hM) rfl 1 (by decide) tw_574 (fun _ h => h) rfl d_M_again_93 ?_
            refine lv_iload_n hx hb d_M_again_96 rfl (zl hl rfl) ?_
            refine lv_aload_n hx hb d_M_again_97 rfl (zl hl rfl) ?_
            refine z_get (C := R_M) (T := F_M) (N := 15) (v := .ref (ad 10)) hx hb hts inT_M hown hK hP (PM_o hM) rfl 13 (by decide) tw_586 (fun _ h => h) rfl d_M_again_98 ?_
            refine lv_iload_n hx hb d_M_again_101 rfl (zl hl rfl) ?_
            refine lv_iconst (v := 3) hx hb d_M_again_102 (by decide) ?_
            refine lv_iadd hx hb d_M_again_103 ?_
            refine z_iald hx hb hK hP 0 (PM_10 hM) rfl (6 * qx f t + 3) (nI_add (6 * qx f t) 3) (by omega) (by decide) d_M_again_104 ?_
            refine lv_icmp_ge (tgt := 112) hx hb d_M_again_105 (by decide) (fun c_4 => ?_) (fun c_4 => ?_)
            · have b8 := zle_nlt c_4
              refine lv_aload_n hx hb d_M_again_112 rfl (zl hl rfl) ?_
              refine z_get (C := R_M) (T := F_M) (N := 15) (v := .ref (ad 10)) hx hb hts inT_M hown hK hP (PM_o hM) rfl 13 (by decide) tw_586 (fun _ h => h) rfl d_M_again_113 ?_
              refine lv_iload_n hx hb d_M_again_116 rfl (zl hl rfl) ?_
              refine lv_iconst (v := 3) hx hb d_M_again_117 (by decide) ?_
              refine lv_iadd hx hb d_M_again_118 ?_
              refine z_iald hx hb hK hP 0 (PM_10 hM) rfl (6 * qx f t + 3) (nI_add (6 * qx f t) 3) (by omega) (by decide) d_M_again_119 ?_
              refine lv_iadd hx hb d_M_again_120 ?_
              have hD0 := hD
              refine z_iast hx hb hK hP hD hS 0 (PM_7 hM) rfl t rfl (by omega) (by decide) d_M_again_121 (fun ws H locs hP hD hS u_5 => ?_)
              have hF := zfrM_tr hF (zfrM_up hD0 (PM_7 hM) rfl u_5)
              have hM := PM_wa hM 7 (by decide) (by decide) (by decide) rfl u_5
              exact z_vretR hx hb hr hlocks hP hD hS (⟨by first | (rw [mAgain_1 hlt9 hwe b8]; exact hM) | (rw [mAgain_2 hlt9 hwe b8]; exact hM), hF⟩) d_M_again_122
            · have b8 := znle_lt c_4
              refine lv_iload_n hx hb d_M_again_108 rfl (zl hl rfl) ?_
              refine lv_goto (tgt := 120) hx hb d_M_again_109 (by decide) ?_
              refine lv_iadd hx hb d_M_again_120 ?_
              have hD0 := hD
              refine z_iast hx hb hK hP hD hS 0 (PM_7 hM) rfl t rfl (by omega) (by decide) d_M_again_121 (fun ws H locs hP hD hS u_6 => ?_)
              have hF := zfrM_tr hF (zfrM_up hD0 (PM_7 hM) rfl u_6)
              have hM := PM_wa hM 7 (by decide) (by decide) (by decide) rfl u_6
              exact z_vretR hx hb hr hlocks hP hD hS (⟨by first | (rw [mAgain_1 hlt9 hwe b8]; exact hM) | (rw [mAgain_2 hlt9 hwe b8]; exact hM), hF⟩) d_M_again_122
          · have b3 := znle_lt c_2
            refine lv_iload_n hx hb d_M_again_70 rfl (zl hl rfl) ?_
            refine lv_iconst (v := 2) hx hb d_M_again_71 (by decide) ?_
            refine lv_imul hx hb d_M_again_72 ?_
            refine lv_istore_n (lv' := [(3, .int (w * 2)), (0, .ref (ad 0)), (1, .int (nI t)), (2, .int (nI (6 * qx f t))), (4, .int (nI j))]) hx hb d_M_again_73 rfl hl (by decide) rfl (fun ls hl => ?_)
            refine lv_iinc (v := (nI (j + 1))) (lv' := [(4, .int (nI (j + 1))), (3, .int (w * 2)), (0, .ref (ad 0)), (1, .int (nI t)), (2, .int (nI (6 * qx f t)))]) hx hb d_M_again_74 hl (k := 4) rfl (nI_1 j) (by decide) rfl (fun ls hl => ?_)
            refine lv_goto (tgt := 47) hx hb d_M_again_77 (by decide) ?_
            exact ih (j + 1) (w * 2) ls (by omega) (by rw [hw]; show (if w < f 10 (6 * qx f t + 3) then _ else _) = _; rw [if_pos b3]) (lv_sub hl [2, 3, 4, 1, 0] rfl)
    exact key (tr - 1) 1 (f 10 (6 * qx f t + 2)) ls (by omega) (by unfold mWait; rw [htr, tx_nI (by omega)]) (lv_sub hl [3, 4, 2, 1, 0] rfl)
  · refine lv_aload_n hx hb d_M_again_27 rfl (zl hl rfl) ?_
    refine z_get (C := R_M) (T := F_M) (N := 15) (v := .ref (ad 6)) hx hb hts inT_M hown hK hP (PM_o hM) rfl 9 (by decide) tw_582 (fun _ h => h) rfl d_M_again_28 ?_
    refine lv_iload_n hx hb d_M_again_31 rfl (zl hl rfl) ?_
    refine lv_iconst (v := 3) hx hb d_M_again_32 (by decide) ?_
    have hD0 := hD
    refine z_iast hx hb hK hP hD hS 0 (PM_6 hM) rfl t rfl (by omega) (by decide) d_M_again_33 (fun ws H locs hP hD hS u_2 => ?_)
    have hF := zfrM_tr hF (zfrM_up hD0 (PM_6 hM) rfl u_2)
    have hM := PM_wa hM 6 (by decide) (by decide) (by decide) rfl u_2
    exact z_vretR hx hb hr hlocks hP hD hS (⟨by unfold mAgain; rw [if_neg (by assumption)]; exact hM, hF⟩) d_M_again_34
set_option maxHeartbeats 4000000 in
set_option maxRecDepth 100000 in
theorem c_M_end (l : Launch) {D : va_G} {ws : va_W} {H : Heap} (hP : va_P D vwCl ws H) {kk : Nat → ClassId} {ad : Nat → Nat} {thr time tok : Int32} {n : Nat} {f : Nat → Nat → Int32} {ky : Nat → Int64} (hM : PM kk ad thr time n tok f ky ws)  {B : Nat} (hD : va_D (fun q => B ≤ q) ws) (v how : Int32) (hn : n ≤ 400) (hq : okq f n) (htr : ∀ t, t < n → f 6 t = 1 → ∃ tr, 1 ≤ tr ∧ tr < 2 ^ 30 ∧ f 5 t = nI tr) : Met l y_M_end (Cond.code y_M_end b_M_end 4 (some .int) :: TT) ({ frames := 2, cells := 0, slots := 0, locals := 120 }) (zPc [.ref (ad 0), .int v, .int how] H D vwCl (TY kk)) (zR D vwCl B (some (.int (rEnd f n v how))) (fun ws' => PM kk ad (xEnd f n v how) time n tok (mEnd f time n v how) ky ws' ∧ zfrM ws ws')) 0 0 (fun q => B ≤ q) := by
  refine z_body (by decide) (Nat.le_of_ble_eq_true rfl) ?_
  intro p e s m below meth c ls C0 hH hKN hl
  obtain ⟨hx, hb, hr, hts, hown, hlocks, hml⟩ := C0
  subst hH
  have hK := hKN.1
  have hN := hKN.2
  have hS : va_S (fun q => B ≤ q) s.heap s.heap [] := va_S.rf
  have hF : zfrM ws ws := zfrM_rf
  have hl : lv_has ls 4 [(0, .ref (ad 0)), (1, .int v), (2, .int how)] := hl
  refine lv_aload_n hx hb d_M_end_0 rfl (zl hl rfl) ?_
  refine lv_iload_n hx hb d_M_end_1 rfl (zl hl rfl) ?_
  refine z_calli (va_runV (As := [.int v]) (rest := []) ⟨hx, hb, hml, hown, hts⟩ (c_M_lentWith l hP hM v hn) (cwV 1 hts (tt_V tw_679 tw_676 tw_678 tw_24 tw_36) rfl rfl rfl (by decide +kernel) ⟨Nat.le_of_ble_eq_true rfl, Nat.le_of_ble_eq_true rfl⟩) (zPc_V hKN hP (ci := 4) (q := (R_M, F_M, 15)) rfl (PM_o hM)) rfl rfl hl.1 rfl (lv_room (Nat.le_of_ble_eq_true rfl)) d_M_end_2 ⟨Nat.zero_le _, Nat.zero_le _⟩) hS (fun locs hS => ?_)
  rcases ho : fnd (pTok f v) 0 n with _ | t
  · have hm1 : True := trivial
    refine lv_istore_n (lv' := [(3, .int (-1)), (0, .ref (ad 0)), (1, .int v), (2, .int how)]) hx hb d_M_end_5 rfl hl (by decide) rfl (fun ls hl => ?_)
    refine lv_aload_n hx hb d_M_end_6 rfl (zl hl rfl) ?_
    refine lv_iload_n hx hb d_M_end_7 rfl (zl hl rfl) ?_
    refine lv_iconst (v := (-1)) hx hb d_M_end_8 (by decide) ?_
    refine lv_icmp_ne (tgt := 16) hx hb d_M_end_9 (by decide) (fun c_1 => ?_) (fun c_1 => ?_)
    · exact absurd rfl c_1
    · refine lv_iconst (v := 1) hx hb d_M_end_12 (by decide) ?_
      refine lv_goto (tgt := 30) hx hb d_M_end_13 (by decide) ?_
      have hD0 := hD
      refine z_put (C := R_M) (T := F_M) (N := 15) (v := .int 1) hx hb hts inT_M ft_M ft_M_ok fn_M hown hK hP hD hS (PM_o hM) rfl 0 (by decide) tw_573 (fun _ h => h) rfl rfl rfl (by simp) d_M_end_30 (fun ws H locs hP hD hS u_2 => ?_)
      have hF := zfrM_tr hF (zfrM_up hD0 (PM_o hM) rfl u_2)
      have hM := PM_wo (thr' := 1) (time' := time) (n' := n) (tok' := tok) hM u_2
      refine lv_aload_n hx hb d_M_end_33 rfl (zl hl rfl) ?_
      refine z_get (C := R_M) (T := F_M) (N := 15) (v := .int 1) hx hb hts inT_M hown hK hP (PM_o hM) rfl 0 (by decide) tw_573 (fun _ h => h) rfl d_M_end_34 ?_
      refine lv_if_le (tgt := 42) hx hb d_M_end_37 (by decide) (fun c_3 => ?_) (fun c_3 => ?_)
      · exact absurd c_3 (by decide)
      · refine lv_iconst (v := 0) hx hb d_M_end_40 (by decide) ?_
        exact z_iretR hx hb hr hlocks hP hD hS (by first | (simp only [rEnd, ho, b2, reduceIte]; done) | (simp [rEnd, *]; done)) (⟨by unfold xEnd mEnd mEnd1; first | (simp only [*, reduceIte]; done) | (simp only [*, reduceIte]; exact hM), hF⟩) d_M_end_41
  · have hto := fnd_some ho
    refine lv_istore_n (lv' := [(3, .int (nI t)), (0, .ref (ad 0)), (1, .int v), (2, .int how)]) hx hb d_M_end_5 rfl hl (by decide) rfl (fun ls hl => ?_)
    refine lv_aload_n hx hb d_M_end_6 rfl (zl hl rfl) ?_
    refine lv_iload_n hx hb d_M_end_7 rfl (zl hl rfl) ?_
    refine lv_iconst (v := (-1)) hx hb d_M_end_8 (by decide) ?_
    refine lv_icmp_ne (tgt := 16) hx hb d_M_end_9 (by decide) (fun c_4 => ?_) (fun c_4 => ?_)
    · refine lv_iload_n hx hb d_M_end_16 rfl (zl hl rfl) ?_
      refine lv_iconst (v := 0) hx hb d_M_end_17 (by decide) ?_
      refine lv_iconst (v := 2) hx hb d_M_end_18 (by decide) ?_
      refine z_calli (va_runS (As := [.int how, .int 0, .int 2]) (rest := [.ref (ad 0)]) ⟨hx, hb, hml, hown, hts⟩ (c_M_within l hP how 0 2) (va_cwS 3 hts (tt_S tw_631 tw_629 tw_630 tw_36) rfl rfl rfl (by decide +kernel) ⟨Nat.le_of_ble_eq_true rfl, Nat.le_of_ble_eq_true rfl⟩) (zPc_S hKN) rfl rfl hl.1 rfl (lv_room (Nat.le_of_ble_eq_true rfl)) d_M_end_19 ⟨Nat.zero_le _, Nat.zero_le _⟩) hS (fun locs hS => ?_)
      refine lv_if_ne (tgt := 29) hx hb d_M_end_22 (by decide) (fun c_5 => ?_) (fun c_5 => ?_)
      · have b2 := zb_t c_5
        refine lv_iconst (v := 0) hx hb d_M_end_29 (by decide) ?_
        have hD0 := hD
        refine z_put (C := R_M) (T := F_M) (N := 15) (v := .int 0) hx hb hts inT_M ft_M ft_M_ok fn_M hown hK hP hD hS (PM_o hM) rfl 0 (by decide) tw_573 (fun _ h => h) rfl rfl rfl (by simp) d_M_end_30 (fun ws H locs hP hD hS u_6 => ?_)
        have hF := zfrM_tr hF (zfrM_up hD0 (PM_o hM) rfl u_6)
        have hM := PM_wo (thr' := 0) (time' := time) (n' := n) (tok' := tok) hM u_6
        refine lv_aload_n hx hb d_M_end_33 rfl (zl hl rfl) ?_
        refine z_get (C := R_M) (T := F_M) (N := 15) (v := .int 0) hx hb hts inT_M hown hK hP (PM_o hM) rfl 0 (by decide) tw_573 (fun _ h => h) rfl d_M_end_34 ?_
        refine lv_if_le (tgt := 42) hx hb d_M_end_37 (by decide) (fun c_7 => ?_) (fun c_7 => ?_)
        · refine lv_iload_n hx hb d_M_end_42 rfl (zl hl rfl) ?_
          refine lv_iconst (v := 1) hx hb d_M_end_43 (by decide) ?_
          refine lv_icmp_ne (tgt := 54) hx hb d_M_end_44 (by decide) (fun c_8 => ?_) (fun c_8 => ?_)
          · refine lv_aload_n hx hb d_M_end_54 rfl (zl hl rfl) ?_
            refine z_get (C := R_M) (T := F_M) (N := 15) (v := .ref (ad 6)) hx hb hts inT_M hown hK hP (PM_o hM) rfl 9 (by decide) tw_582 (fun _ h => h) rfl d_M_end_55 ?_
            refine lv_iload_n hx hb d_M_end_58 rfl (zl hl rfl) ?_
            refine lv_iload_n hx hb d_M_end_59 rfl (zl hl rfl) ?_
            refine lv_if_ne (tgt := 67) hx hb d_M_end_60 (by decide) (fun c_9 => ?_) (fun c_9 => ?_)
            · refine lv_iconst (v := 0) hx hb d_M_end_67 (by decide) ?_
              have hD0 := hD
              refine z_iast hx hb hK hP hD hS 0 (PM_6 hM) rfl t rfl (by omega) (by decide) d_M_end_68 (fun ws H locs hP hD hS u_10 => ?_)
              have hF := zfrM_tr hF (zfrM_up hD0 (PM_6 hM) rfl u_10)
              have hM := PM_wa hM 6 (by decide) (by decide) (by decide) rfl u_10
              refine lv_aload_n hx hb d_M_end_69 rfl (zl hl rfl) ?_
              refine z_get (C := R_M) (T := F_M) (N := 15) (v := .ref (ad 7)) hx hb hts inT_M hown hK hP (PM_o hM) rfl 10 (by decide) tw_583 (fun _ h => h) rfl d_M_end_70 ?_
              refine lv_iload_n hx hb d_M_end_73 rfl (zl hl rfl) ?_
              refine lv_aload_n hx hb d_M_end_74 rfl (zl hl rfl) ?_
              refine z_get (C := R_M) (T := F_M) (N := 15) (v := .int time) hx hb hts inT_M hown hK hP (PM_o hM) rfl 1 (by decide) tw_574 (fun _ h => h) rfl d_M_end_75 ?_
              have hD0 := hD
              refine z_iast hx hb hK hP hD hS 0 (PM_7 hM) rfl t rfl (by omega) (by decide) d_M_end_78 (fun ws H locs hP hD hS u_11 => ?_)
              have hF := zfrM_tr hF (zfrM_up hD0 (PM_7 hM) rfl u_11)
              have hM := PM_wa hM 7 (by decide) (by decide) (by decide) rfl u_11
              refine lv_aload_n hx hb d_M_end_79 rfl (zl hl rfl) ?_
              refine z_get (C := R_M) (T := F_M) (N := 15) (v := .ref (ad 5)) hx hb hts inT_M hown hK hP (PM_o hM) rfl 8 (by decide) tw_581 (fun _ h => h) rfl d_M_end_80 ?_
              refine lv_iload_n hx hb d_M_end_83 rfl (zl hl rfl) ?_
              refine lv_dup2_11 hx hb d_M_end_84 rfl rfl ?_
              refine z_iald hx hb hK hP 0 (PM_5 hM) rfl t rfl (by omega) (by decide) d_M_end_85 ?_
              refine lv_iload_n hx hb d_M_end_86 rfl (zl hl rfl) ?_
              refine lv_iconst (v := 2) hx hb d_M_end_87 (by decide) ?_
              refine lv_icmp_ne (tgt := 95) hx hb d_M_end_88 (by decide) (fun c_12 => ?_) (fun c_12 => ?_)
              · refine lv_iconst (v := 0) hx hb d_M_end_95 (by decide) ?_
                refine lv_isub hx hb d_M_end_96 ?_
                have hD0 := hD
                refine z_iast hx hb hK hP hD hS 0 (PM_5 hM) rfl t rfl (by omega) (by decide) d_M_end_97 (fun ws H locs hP hD hS u_13 => ?_)
                have hF := zfrM_tr hF (zfrM_up hD0 (PM_5 hM) rfl u_13)
                have hM := PM_wa hM 5 (by decide) (by decide) (by decide) rfl u_13
                refine lv_iload_n hx hb d_M_end_98 rfl (zl hl rfl) ?_
                exact z_iretR hx hb hr hlocks hP hD hS (by first | (simp only [rEnd, ho, b2, reduceIte]; done) | (simp [rEnd, *]; done)) (⟨by unfold xEnd mEnd mEnd1; first | (simp only [*, reduceIte]; done) | (simp only [*, reduceIte]; exact hM), hF⟩) d_M_end_99
              · refine lv_iconst (v := 1) hx hb d_M_end_91 (by decide) ?_
                refine lv_goto (tgt := 96) hx hb d_M_end_92 (by decide) ?_
                refine lv_isub hx hb d_M_end_96 ?_
                have hD0 := hD
                refine z_iast hx hb hK hP hD hS 0 (PM_5 hM) rfl t rfl (by omega) (by decide) d_M_end_97 (fun ws H locs hP hD hS u_14 => ?_)
                have hF := zfrM_tr hF (zfrM_up hD0 (PM_5 hM) rfl u_14)
                have hM := PM_wa hM 5 (by decide) (by decide) (by decide) rfl u_14
                refine lv_iload_n hx hb d_M_end_98 rfl (zl hl rfl) ?_
                exact z_iretR hx hb hr hlocks hP hD hS (by first | (simp only [rEnd, ho, b2, reduceIte]; done) | (simp [rEnd, *]; done)) (⟨by unfold xEnd mEnd mEnd1; first | (simp only [*, reduceIte]; done) | (simp only [*, reduceIte]; exact hM), hF⟩) d_M_end_99
            · refine lv_iconst (v := 2) hx hb d_M_end_63 (by decide) ?_
              refine lv_goto (tgt := 68) hx hb d_M_end_64 (by decide) ?_
              have hD0 := hD
              refine z_iast hx hb hK hP hD hS 0 (PM_6 hM) rfl t rfl (by omega) (by decide) d_M_end_68 (fun ws H locs hP hD hS u_15 => ?_)
              have hF := zfrM_tr hF (zfrM_up hD0 (PM_6 hM) rfl u_15)
              have hM := PM_wa hM 6 (by decide) (by decide) (by decide) rfl u_15
              refine lv_aload_n hx hb d_M_end_69 rfl (zl hl rfl) ?_
              refine z_get (C := R_M) (T := F_M) (N := 15) (v := .ref (ad 7)) hx hb hts inT_M hown hK hP (PM_o hM) rfl 10 (by decide) tw_583 (fun _ h => h) rfl d_M_end_70 ?_
              refine lv_iload_n hx hb d_M_end_73 rfl (zl hl rfl) ?_
              refine lv_aload_n hx hb d_M_end_74 rfl (zl hl rfl) ?_
              refine z_get (C := R_M) (T := F_M) (N := 15) (v := .int time) hx hb hts inT_M hown hK hP (PM_o hM) rfl 1 (by decide) tw_574 (fun _ h => h) rfl d_M_end_75 ?_
              have hD0 := hD
              refine z_iast hx hb hK hP hD hS 0 (PM_7 hM) rfl t rfl (by omega) (by decide) d_M_end_78 (fun ws H locs hP hD hS u_16 => ?_)
              have hF := zfrM_tr hF (zfrM_up hD0 (PM_7 hM) rfl u_16)
              have hM := PM_wa hM 7 (by decide) (by decide) (by decide) rfl u_16
              refine lv_aload_n hx hb d_M_end_79 rfl (zl hl rfl) ?_
              refine z_get (C := R_M) (T := F_M) (N := 15) (v := .ref (ad 5)) hx hb hts inT_M hown hK hP (PM_o hM) rfl 8 (by decide) tw_581 (fun _ h => h) rfl d_M_end_80 ?_
              refine lv_iload_n hx hb d_M_end_83 rfl (zl hl rfl) ?_
              refine lv_dup2_11 hx hb d_M_end_84 rfl rfl ?_
              refine z_iald hx hb hK hP 0 (PM_5 hM) rfl t rfl (by omega) (by decide) d_M_end_85 ?_
              refine lv_iload_n hx hb d_M_end_86 rfl (zl hl rfl) ?_
              refine lv_iconst (v := 2) hx hb d_M_end_87 (by decide) ?_
              refine lv_icmp_ne (tgt := 95) hx hb d_M_end_88 (by decide) (fun c_17 => ?_) (fun c_17 => ?_)
              · refine lv_iconst (v := 0) hx hb d_M_end_95 (by decide) ?_
                refine lv_isub hx hb d_M_end_96 ?_
                have hD0 := hD
                refine z_iast hx hb hK hP hD hS 0 (PM_5 hM) rfl t rfl (by omega) (by decide) d_M_end_97 (fun ws H locs hP hD hS u_18 => ?_)
                have hF := zfrM_tr hF (zfrM_up hD0 (PM_5 hM) rfl u_18)
                have hM := PM_wa hM 5 (by decide) (by decide) (by decide) rfl u_18
                refine lv_iload_n hx hb d_M_end_98 rfl (zl hl rfl) ?_
                exact z_iretR hx hb hr hlocks hP hD hS (by first | (simp only [rEnd, ho, b2, reduceIte]; done) | (simp [rEnd, *]; done)) (⟨by unfold xEnd mEnd mEnd1; first | (simp only [*, reduceIte]; done) | (simp only [*, reduceIte]; exact hM), hF⟩) d_M_end_99
              · exact absurd (c_9.symm.trans c_17) (by decide)
          · refine lv_aload_n hx hb d_M_end_47 rfl (zl hl rfl) ?_
            refine lv_iload_n hx hb d_M_end_48 rfl (zl hl rfl) ?_
            obtain ⟨tr, q1, q2, q3⟩ := htr t (by omega) (by have := hto.2.2; simp only [pTok, Bool.and_eq_true, decide_eq_true_eq] at this; exact this.1)
            refine z_call (va_runV (As := [.int (nI t)]) (rest := []) ⟨hx, hb, hml, hown, hts⟩ (c_M_again l hP hM hD t (by omega) (hq t (by omega)).1 (hq t (by omega)).2 tr q3 q1 q2) (cwV 1 hts (tt_V tw_687 tw_684 tw_686 tw_25 tw_36) rfl rfl rfl (by decide +kernel) ⟨Nat.le_of_ble_eq_true rfl, Nat.le_of_ble_eq_true rfl⟩) (zPc_V hKN hP (ci := 4) (q := (R_M, F_M, 15)) rfl (PM_o hM)) rfl rfl hl.1 rfl (lv_room (Nat.le_of_ble_eq_true rfl)) d_M_end_49 ⟨Nat.le_of_ble_eq_true rfl, Nat.le_of_ble_eq_true rfl⟩) hS (fun ws H locs hR hP hD hz hS => ?_)
            have hF := zfrM_tr hF hR.2
            have hM := hR.1
            clear hR
            refine lv_iload_n hx hb d_M_end_52 rfl (zl hl rfl) ?_
            exact z_iretR hx hb hr hlocks hP hD hS (by first | (simp only [rEnd, ho, b2, reduceIte]; done) | (simp [rEnd, *]; done)) (⟨by unfold xEnd mEnd mEnd1; first | (simp only [*, reduceIte]; done) | (simp only [*, reduceIte]; exact hM), hF⟩) d_M_end_53
        · exact absurd (by decide) c_7
      · have b2 := zb_f c_5
        refine lv_iconst (v := 2) hx hb d_M_end_25 (by decide) ?_
        refine lv_goto (tgt := 30) hx hb d_M_end_26 (by decide) ?_
        have hD0 := hD
        refine z_put (C := R_M) (T := F_M) (N := 15) (v := .int 2) hx hb hts inT_M ft_M ft_M_ok fn_M hown hK hP hD hS (PM_o hM) rfl 0 (by decide) tw_573 (fun _ h => h) rfl rfl rfl (by simp) d_M_end_30 (fun ws H locs hP hD hS u_19 => ?_)
        have hF := zfrM_tr hF (zfrM_up hD0 (PM_o hM) rfl u_19)
        have hM := PM_wo (thr' := 2) (time' := time) (n' := n) (tok' := tok) hM u_19
        refine lv_aload_n hx hb d_M_end_33 rfl (zl hl rfl) ?_
        refine z_get (C := R_M) (T := F_M) (N := 15) (v := .int 2) hx hb hts inT_M hown hK hP (PM_o hM) rfl 0 (by decide) tw_573 (fun _ h => h) rfl d_M_end_34 ?_
        refine lv_if_le (tgt := 42) hx hb d_M_end_37 (by decide) (fun c_20 => ?_) (fun c_20 => ?_)
        · exact absurd c_20 (by decide)
        · refine lv_iconst (v := 0) hx hb d_M_end_40 (by decide) ?_
          exact z_iretR hx hb hr hlocks hP hD hS (by first | (simp only [rEnd, ho, b2, reduceIte]; done) | (simp [rEnd, *]; done)) (⟨by unfold xEnd mEnd mEnd1; first | (simp only [*, reduceIte]; done) | (simp only [*, reduceIte]; exact hM), hF⟩) d_M_end_41
    · exact absurd c_4 (nI_m1 (by omega))
end
section
def aC (f : FF) (time : Int32) (t : Nat) : Bool := decide (f 6 t = 1) && decide (f 7 t ≤ time)
def aStep (f : FF) (time : Int32) (t : Nat) : FF := if aC f time t = true then mAgain f time t else f
def inn (f : FF) (time : Int32) : Nat → FF
  | 0 => f
  | k + 1 => aStep (inn f time k) time k
def innC (f : FF) (time : Int32) : Nat → Nat
  | 0 => 0
  | k + 1 => innC f time k + (if aC (inn f time k) time k = true then 1 else 0)
def outF (f : FF) (time : Int32) (n : Nat) : Nat → FF
  | 0 => f
  | j + 1 => inn (outF f time n j) (time + nI (j + 1)) n
def outC (f : FF) (time : Int32) (n : Nat) : Nat → Nat
  | 0 => 0
  | j + 1 => outC f time n j + innC (outF f time n j) (time + nI (j + 1)) n
def okA (f : FF) (n : Nat) : Prop := okq f n ∧ ∀ t, t < n → f 6 t = 1 → ∃ tr, 1 ≤ tr ∧ tr < 2 ^ 30 ∧ f 5 t = nI tr
theorem mAgain_j {f : FF} {time : Int32} {t : Nat} (j : Nat) (h6 : j ≠ 6) (h7 : j ≠ 7) : (mAgain f time t) j = f j := by
  unfold mAgain w1
  split
  · rw [va_up_ne _ _ h7, va_up_ne _ _ h6]
  · rw [va_up_ne _ _ h6]
theorem mAgain_6 {f : FF} {time : Int32} {t k : Nat} : (mAgain f time t) 6 k = if k = t then (if f 5 t < f 10 (6 * qx f t + 1) then 0 else 3) else f 6 k := by
  unfold mAgain
  by_cases h : f 5 t < f 10 (6 * qx f t + 1)
  · rw [if_pos h, if_pos h]
    rfl
  · rw [if_neg h, if_neg h]
    rfl
theorem okA_again {f : FF} {n : Nat} (h : okA f n) (time : Int32) (t : Nat) : okA (mAgain f time t) n := by
  have e1 : (mAgain f time t) 1 = f 1 := mAgain_j 1 (by decide) (by decide)
  have e5 : (mAgain f time t) 5 = f 5 := mAgain_j 5 (by decide) (by decide)
  refine ⟨fun k hk => ?_, fun k hk h6 => ?_⟩
  · have e2 : qx (mAgain f time t) k = qx f k := by unfold qx; rw [e1]
    rw [e1, e2]
    exact h.1 k hk
  · rw [e5]
    refine h.2 k hk ?_
    rw [mAgain_6] at h6
    by_cases hkt : k = t
    · rw [if_pos hkt] at h6
      split at h6
      · exact absurd h6 (by decide)
      · exact absurd h6 (by decide)
    · rw [if_neg hkt] at h6
      exact h6
theorem okA_step {f : FF} {n : Nat} (h : okA f n) (time : Int32) (t : Nat) : okA (aStep f time t) n := by
  unfold aStep
  split
  · exact okA_again h time t
  · exact h
theorem okA_inn {f : FF} {n : Nat} (h : okA f n) (time : Int32) : ∀ k, okA (inn f time k) n
  | 0 => h
  | k + 1 => okA_step (okA_inn h time k) time k
theorem inn_t {f : FF} {time : Int32} {k : Nat} (h : aC (inn f time k) time k = true) : inn f time (k + 1) = mAgain (inn f time k) time k := by
  show aStep _ _ _ = _
  unfold aStep
  rw [if_pos h]
theorem inn_f {f : FF} {time : Int32} {k : Nat} (h : aC (inn f time k) time k = false) : inn f time (k + 1) = inn f time k := by
  show aStep _ _ _ = _
  unfold aStep
  rw [if_neg (by rw [h]; decide)]
theorem innC_t {f : FF} {time : Int32} {k : Nat} (h : aC (inn f time k) time k = true) : innC f time (k + 1) = innC f time k + 1 := by
  show _ + (if _ then _ else _) = _
  rw [if_pos h]
theorem innC_f {f : FF} {time : Int32} {k : Nat} (h : aC (inn f time k) time k = false) : innC f time (k + 1) = innC f time k := by
  show _ + (if _ then _ else _) = _
  rw [if_neg (by rw [h]; decide), Nat.add_zero]
theorem z_tm (time : Int32) (j : Nat) : time + nI j + 1 = time + nI (j + 1) := by rw [Int32.add_assoc, nI_1]
set_option maxHeartbeats 4000000 in
set_option maxRecDepth 100000 in
theorem c_M_tick (l : Launch) {D : va_G} {ws : va_W} {H : Heap} (hP : va_P D vwCl ws H) {kk : Nat → ClassId} {ad : Nat → Nat} {thr time tok : Int32} {n : Nat} {f : Nat → Nat → Int32} {ky : Nat → Int64} (hM : PM kk ad thr time n tok f ky ws)  {B : Nat} (hD : va_D (fun q => B ≤ q) ws) (v : Int32) (hn : n ≤ 400) (hA : okA f n) : Met l y_M_tick (Cond.code y_M_tick b_M_tick 5 (some .int) :: TT) ({ frames := 2, cells := 0, slots := 0, locals := 120 }) (zPc [.ref (ad 0), .int v] H D vwCl (TY kk)) (zR D vwCl B (some (.int (if sWithin v 1 1000 = true then nI (outC f time n (tx v)) else 0))) (fun ws' => PM kk ad (if sWithin v 1 1000 = true then 0 else 1) (if sWithin v 1 1000 = true then time + v else time) n tok (if sWithin v 1 1000 = true then outF f time n (tx v) else f) ky ws' ∧ zfrM ws ws')) 0 0 (fun q => B ≤ q) := by
  refine z_body (by decide) (Nat.le_of_ble_eq_true rfl) ?_
  intro p e s m below meth c ls C0 hH hKN hl
  obtain ⟨hx, hb, hr, hts, hown, hlocks, hml⟩ := C0
  subst hH
  have hK := hKN.1
  have hN := hKN.2
  have hS : va_S (fun q => B ≤ q) s.heap s.heap [] := va_S.rf
  have hF : zfrM ws ws := zfrM_rf
  obtain ⟨ws0, hws0⟩ : ∃ z, z = ws := ⟨_, rfl⟩
  have hF : zfrM ws0 ws := by rw [hws0]; exact zfrM_rf
  rw [show (fun ws' => PM kk ad (if sWithin v 1 1000 = true then 0 else 1) (if sWithin v 1 1000 = true then time + v else time) n tok (if sWithin v 1 1000 = true then outF f time n (tx v) else f) ky ws' ∧ zfrM ws ws') = (fun ws' => PM kk ad (if sWithin v 1 1000 = true then 0 else 1) (if sWithin v 1 1000 = true then time + v else time) n tok (if sWithin v 1 1000 = true then outF f time n (tx v) else f) ky ws' ∧ zfrM ws0 ws') by rw [hws0]]
  have hl : lv_has ls 5 [(0, .ref (ad 0)), (1, .int v)] := hl
  refine lv_iload_n hx hb d_M_tick_0 rfl (zl hl rfl) ?_
  refine lv_iconst (v := 1) hx hb d_M_tick_1 (by decide) ?_
  refine lv_sipush (v := 1000) hx hb d_M_tick_2 (by decide) ?_
  refine z_calli (va_runS (As := [.int v, .int 1, .int 1000]) (rest := []) ⟨hx, hb, hml, hown, hts⟩ (c_M_within l hP v 1 1000) (va_cwS 3 hts (tt_S tw_631 tw_629 tw_630 tw_36) rfl rfl rfl (by decide +kernel) ⟨Nat.le_of_ble_eq_true rfl, Nat.le_of_ble_eq_true rfl⟩) (zPc_S hKN) rfl rfl hl.1 rfl (lv_room (Nat.le_of_ble_eq_true rfl)) d_M_tick_5 ⟨Nat.zero_le _, Nat.zero_le _⟩) hS (fun locs hS => ?_)
  refine lv_if_ne (tgt := 17) hx hb d_M_tick_8 (by decide) (fun c_1 => ?_) (fun c_1 => ?_)
  · have b1 := zb_t c_1
    obtain ⟨N, hN1, hN2, rfl⟩ := sWithin_2 (a := 1) (b := 1000) (by decide) (by decide) b1
    have htN : tx (nI N) = N := tx_nI (by omega)
    refine lv_aload_n hx hb d_M_tick_17 rfl (zl hl rfl) ?_
    refine lv_iconst (v := 0) hx hb d_M_tick_18 (by decide) ?_
    have hD0 := hD
    refine z_put (C := R_M) (T := F_M) (N := 15) (v := .int 0) hx hb hts inT_M ft_M ft_M_ok fn_M hown hK hP hD hS (PM_o hM) rfl 0 (by decide) tw_573 (fun _ h => h) rfl rfl rfl (by simp) d_M_tick_19 (fun ws H locs hP hD hS u_2 => ?_)
    have hF := zfrM_tr hF (zfrM_up hD0 (PM_o hM) rfl u_2)
    have hM := PM_wo (thr' := 0) (time' := time) (n' := n) (tok' := tok) hM u_2
    refine lv_iconst (v := 0) hx hb d_M_tick_22 (by decide) ?_
    refine lv_istore_n (lv' := [(2, .int 0), (0, .ref (ad 0)), (1, .int (nI N))]) hx hb d_M_tick_23 rfl hl (by decide) rfl (fun ls hl => ?_)
    refine lv_iconst (v := 0) hx hb d_M_tick_24 (by decide) ?_
    refine lv_istore_n (lv' := [(3, .int 0), (2, .int 0), (0, .ref (ad 0)), (1, .int (nI N))]) hx hb d_M_tick_25 rfl hl (by decide) rfl (fun ls hl => ?_)
    have key : ∀ (r j : Nat) (ws : va_W) (H : Heap) (ls : Array Slot) (locs : List Loc), j ≤ N → N + 1 ≤ j + r → okA (outF f time n j) n → PM kk ad 0 (time + nI j) n tok (outF f time n j) ky ws → zfrM ws0 ws → va_P D vwCl ws H → va_D (fun q => B ≤ q) ws → va_S (fun q => B ≤ q) s.heap H locs → lv_has ls 5 [(0, .ref (ad 0)), (1, .int (nI N)), (2, .int (nI (outC f time n j))), (3, .int (nI j))] → W p l e ({ frames := 2, cells := 0, slots := 0, locals := 120 }) s m ([.ref (ad 0), .int (nI N)] : List Value).toArray below meth c H locs 0 0 (MQ below (zR D vwCl B (some (.int (if sWithin (nI N) 1 1000 = true then nI (outC f time n (tx (nI N))) else 0))) (fun ws' => PM kk ad (if sWithin (nI N) 1 1000 = true then 0 else 1) (if sWithin (nI N) 1 1000 = true then time + (nI N) else time) n tok (if sWithin (nI N) 1 1000 = true then outF f time n (tx (nI N)) else f) ky ws' ∧ zfrM ws0 ws')) ([.ref (ad 0), .int (nI N)] : List Value).toArray s 0 0 (fun q => B ≤ q)) (F0 m 26 ls []) := by
      intro r
      induction r with
      | zero => intro j ws H ls locs h1 h2; omega
      | succ r ih =>
        intro j ws H ls locs hj hjr hA hM hF hP hD hS hl
        refine lv_iload_n hx hb d_M_tick_26 rfl (zl hl rfl) ?_
        refine lv_iload_n hx hb d_M_tick_27 rfl (zl hl rfl) ?_
        refine lv_icmp_ge (tgt := 102) hx hb d_M_tick_28 (by decide) (fun c_1 => ?_) (fun c_1 => ?_)
        · have hin := z_ge hj (by omega) c_1
          refine lv_iload_n hx hb d_M_tick_102 rfl (zl hl rfl) ?_
          exact z_iretR hx hb hr hlocks hP hD hS (by rw [if_pos b1, htN, hin]) (⟨by rw [if_pos b1, if_pos b1, if_pos b1, htN, ← hin]; exact hM, hF⟩) d_M_tick_103
        · have hlt := z_lt hj (by omega) c_1
          refine lv_aload_n hx hb d_M_tick_31 rfl (zl hl rfl) ?_
          refine lv_dup hx hb d_M_tick_32 rfl ?_
          refine z_get (C := R_M) (T := F_M) (N := 15) (v := .int (time + nI j)) hx hb hts inT_M hown hK hP (PM_o hM) rfl 1 (by decide) tw_574 (fun _ h => h) rfl d_M_tick_33 ?_
          refine lv_iconst (v := 1) hx hb d_M_tick_36 (by decide) ?_
          refine lv_iadd hx hb d_M_tick_37 ?_
          refine z_top (y := time + nI (j + 1)) (z_tm time j) ?_
          have hD0 := hD
          refine z_put (C := R_M) (T := F_M) (N := 15) (v := .int (time + nI (j + 1))) hx hb hts inT_M ft_M ft_M_ok fn_M hown hK hP hD hS (PM_o hM) rfl 1 (by decide) tw_574 (fun _ h => h) rfl rfl rfl (by simp) d_M_tick_38 (fun ws H locs hP hD hS u_2 => ?_)
          have hF := zfrM_tr hF (zfrM_up hD0 (PM_o hM) rfl u_2)
          have hM := PM_wo (thr' := 0) (time' := time + nI (j + 1)) (n' := n) (tok' := tok) hM u_2
          refine lv_iconst (v := 0) hx hb d_M_tick_41 (by decide) ?_
          refine lv_istore (lv' := [(4, .int 0), (0, .ref (ad 0)), (1, .int (nI N)), (2, .int (nI (outC f time n j))), (3, .int (nI j))]) hx hb d_M_tick_42 hl (by decide) rfl (fun ls hl => ?_)
          have key2 : ∀ (r2 i : Nat) (ws : va_W) (H : Heap) (ls : Array Slot) (locs : List Loc), i ≤ n → n + 1 ≤ i + r2 → PM kk ad 0 (time + nI (j + 1)) n tok (inn (outF f time n j) (time + nI (j + 1)) i) ky ws → zfrM ws0 ws → va_P D vwCl ws H → va_D (fun q => B ≤ q) ws → va_S (fun q => B ≤ q) s.heap H locs → lv_has ls 5 [(0, .ref (ad 0)), (1, .int (nI N)), (2, .int (nI (outC f time n j + innC (outF f time n j) (time + nI (j + 1)) i))), (3, .int (nI j)), (4, .int (nI i))] → W p l e ({ frames := 2, cells := 0, slots := 0, locals := 120 }) s m ([.ref (ad 0), .int (nI N)] : List Value).toArray below meth c H locs 0 0 (MQ below (zR D vwCl B (some (.int (if sWithin (nI N) 1 1000 = true then nI (outC f time n (tx (nI N))) else 0))) (fun ws' => PM kk ad (if sWithin (nI N) 1 1000 = true then 0 else 1) (if sWithin (nI N) 1 1000 = true then time + (nI N) else time) n tok (if sWithin (nI N) 1 1000 = true then outF f time n (tx (nI N)) else f) ky ws' ∧ zfrM ws0 ws')) ([.ref (ad 0), .int (nI N)] : List Value).toArray s 0 0 (fun q => B ≤ q)) (F0 m 44 ls []) := by
            intro r2
            induction r2 with
            | zero => intro i ws H ls locs h1 h2; omega
            | succ r2 ih2 =>
              intro i ws H ls locs hi hir hM hF hP hD hS hl
              have hAi := okA_inn hA (time + nI (j + 1)) i
              refine lv_iload hx hb d_M_tick_44 (zl hl rfl) ?_
              refine lv_aload_n hx hb d_M_tick_46 rfl (zl hl rfl) ?_
              refine z_get (C := R_M) (T := F_M) (N := 15) (v := .int (nI n)) hx hb hts inT_M hown hK hP (PM_o hM) rfl 2 (by decide) tw_575 (fun _ h => h) rfl d_M_tick_47 ?_
              refine lv_icmp_ge (tgt := 96) hx hb d_M_tick_50 (by decide) (fun c_1 => ?_) (fun c_1 => ?_)
              · have hin2 := z_ge hi (by omega) c_1
                refine lv_iinc (v := (nI (j + 1))) (lv' := [(3, .int (nI (j + 1))), (0, .ref (ad 0)), (1, .int (nI N)), (2, .int (nI (outC f time n j + innC (outF f time n j) (time + nI (j + 1)) i))), (4, .int (nI i))]) hx hb d_M_tick_96 hl (k := 3) rfl (nI_1 j) (by decide) rfl (fun ls hl => ?_)
                refine lv_goto (tgt := 26) hx hb d_M_tick_99 (by decide) ?_
                subst hin2
                exact ih (j + 1) ws H ls locs (by omega) (by omega) (okA_inn hA _ i) hM hF hP hD hS (lv_sub hl [1, 2, 3, 0] rfl)
              · have hlt2 := z_lt hi (by omega) c_1
                refine lv_aload_n hx hb d_M_tick_53 rfl (zl hl rfl) ?_
                refine z_get (C := R_M) (T := F_M) (N := 15) (v := .ref (ad 6)) hx hb hts inT_M hown hK hP (PM_o hM) rfl 9 (by decide) tw_582 (fun _ h => h) rfl d_M_tick_54 ?_
                refine lv_iload hx hb d_M_tick_57 (zl hl rfl) ?_
                refine z_iald hx hb hK hP 0 (PM_6 hM) rfl i rfl (by omega) (by decide) d_M_tick_59 ?_
                refine lv_iconst (v := 1) hx hb d_M_tick_60 (by decide) ?_
                refine lv_icmp_ne (tgt := 90) hx hb d_M_tick_61 (by decide) (fun c_2 => ?_) (fun c_2 => ?_)
                · refine lv_iinc (v := (nI (i + 1))) (lv' := [(4, .int (nI (i + 1))), (0, .ref (ad 0)), (1, .int (nI N)), (2, .int (nI (outC f time n j + innC (outF f time n j) (time + nI (j + 1)) i))), (3, .int (nI j))]) hx hb d_M_tick_90 hl (k := 4) rfl (nI_1 i) (by decide) rfl (fun ls hl => ?_)
                  refine lv_goto (tgt := 44) hx hb d_M_tick_93 (by decide) ?_
                  have hc9 : aC (inn (outF f time n j) (time + nI (j + 1)) i) (time + nI (j + 1)) i = false := by simp [aC, *]
                  have hM : PM kk ad 0 (time + nI (j + 1)) n tok (inn (outF f time n j) (time + nI (j + 1)) (i + 1)) ky ws := by rw [inn_f hc9]; exact hM
                  rw [show nI (outC f time n j + innC (outF f time n j) (time + nI (j + 1)) i) = nI (outC f time n j + innC (outF f time n j) (time + nI (j + 1)) (i + 1)) by rw [innC_f hc9]] at hl
                  exact ih2 (i + 1) ws H ls locs (by omega) (by omega) hM hF hP hD hS (lv_sub hl [1, 2, 3, 4, 0] rfl)
                · have b2 := c_2
                  refine lv_aload_n hx hb d_M_tick_64 rfl (zl hl rfl) ?_
                  refine z_get (C := R_M) (T := F_M) (N := 15) (v := .ref (ad 7)) hx hb hts inT_M hown hK hP (PM_o hM) rfl 10 (by decide) tw_583 (fun _ h => h) rfl d_M_tick_65 ?_
                  refine lv_iload hx hb d_M_tick_68 (zl hl rfl) ?_
                  refine z_iald hx hb hK hP 0 (PM_7 hM) rfl i rfl (by omega) (by decide) d_M_tick_70 ?_
                  refine lv_aload_n hx hb d_M_tick_71 rfl (zl hl rfl) ?_
                  refine z_get (C := R_M) (T := F_M) (N := 15) (v := .int (time + nI (j + 1))) hx hb hts inT_M hown hK hP (PM_o hM) rfl 1 (by decide) tw_574 (fun _ h => h) rfl d_M_tick_72 ?_
                  refine lv_icmp_le (tgt := 81) hx hb d_M_tick_75 (by decide) (fun c_3 => ?_) (fun c_3 => ?_)
                  · have b3 := c_3
                    refine lv_aload_n hx hb d_M_tick_81 rfl (zl hl rfl) ?_
                    refine lv_iload hx hb d_M_tick_82 (zl hl rfl) ?_
                    obtain ⟨tr, q1, q2, q3⟩ := hAi.2 i (by omega) b2
                    refine z_call (va_runV (As := [.int (nI i)]) (rest := []) ⟨hx, hb, hml, hown, hts⟩ (c_M_again l hP hM hD i (by omega) (hAi.1 i (by omega)).1 (hAi.1 i (by omega)).2 tr q3 q1 q2) (cwV 1 hts (tt_V tw_687 tw_684 tw_686 tw_25 tw_36) rfl rfl rfl (by decide +kernel) ⟨Nat.le_of_ble_eq_true rfl, Nat.le_of_ble_eq_true rfl⟩) (zPc_V hKN hP (ci := 4) (q := (R_M, F_M, 15)) rfl (PM_o hM)) rfl rfl hl.1 rfl (lv_room (Nat.le_of_ble_eq_true rfl)) d_M_tick_84 ⟨Nat.le_of_ble_eq_true rfl, Nat.le_of_ble_eq_true rfl⟩) hS (fun ws H locs hR hP hD hz hS => ?_)
                    have hF := zfrM_tr hF hR.2
                    have hM := hR.1
                    clear hR
                    refine lv_iinc (v := ((nI (outC f time n j + innC (outF f time n j) (time + nI (j + 1)) i)) + 1)) (lv' := [(2, .int ((nI (outC f time n j + innC (outF f time n j) (time + nI (j + 1)) i)) + 1)), (0, .ref (ad 0)), (1, .int (nI N)), (3, .int (nI j)), (4, .int (nI i))]) hx hb d_M_tick_87 hl (k := 2) rfl (rfl) (by decide) rfl (fun ls hl => ?_)
                    refine lv_iinc (v := (nI (i + 1))) (lv' := [(4, .int (nI (i + 1))), (2, .int ((nI (outC f time n j + innC (outF f time n j) (time + nI (j + 1)) i)) + 1)), (0, .ref (ad 0)), (1, .int (nI N)), (3, .int (nI j))]) hx hb d_M_tick_90 hl (k := 4) rfl (nI_1 i) (by decide) rfl (fun ls hl => ?_)
                    refine lv_goto (tgt := 44) hx hb d_M_tick_93 (by decide) ?_
                    have hc9 : aC (inn (outF f time n j) (time + nI (j + 1)) i) (time + nI (j + 1)) i = true := by simp [aC, *]
                    have hM : PM kk ad 0 (time + nI (j + 1)) n tok (inn (outF f time n j) (time + nI (j + 1)) (i + 1)) ky ws := by rw [inn_t hc9]; exact hM
                    rw [show (nI (outC f time n j + innC (outF f time n j) (time + nI (j + 1)) i)) + 1 = nI (outC f time n j + innC (outF f time n j) (time + nI (j + 1)) (i + 1)) by rw [innC_t hc9, nI_1]; rfl] at hl
                    exact ih2 (i + 1) ws H ls locs (by omega) (by omega) hM hF hP hD hS (lv_sub hl [2, 3, 1, 4, 0] rfl)
                  · have b3 : ¬ _ := c_3
                    refine lv_goto (tgt := 90) hx hb d_M_tick_78 (by decide) ?_
                    refine lv_iinc (v := (nI (i + 1))) (lv' := [(4, .int (nI (i + 1))), (0, .ref (ad 0)), (1, .int (nI N)), (2, .int (nI (outC f time n j + innC (outF f time n j) (time + nI (j + 1)) i))), (3, .int (nI j))]) hx hb d_M_tick_90 hl (k := 4) rfl (nI_1 i) (by decide) rfl (fun ls hl => ?_)
                    refine lv_goto (tgt := 44) hx hb d_M_tick_93 (by decide) ?_
                    have hc9 : aC (inn (outF f time n j) (time + nI (j + 1)) i) (time + nI (j + 1)) i = false := by simp [aC, *]
                    have hM : PM kk ad 0 (time + nI (j + 1)) n tok (inn (outF f time n j) (time + nI (j + 1)) (i + 1)) ky ws := by rw [inn_f hc9]; exact hM
                    rw [show nI (outC f time n j + innC (outF f time n j) (time + nI (j + 1)) i) = nI (outC f time n j + innC (outF f time n j) (time + nI (j + 1)) (i + 1)) by rw [innC_f hc9]] at hl
                    exact ih2 (i + 1) ws H ls locs (by omega) (by omega) hM hF hP hD hS (lv_sub hl [1, 2, 3, 4, 0] rfl)
          exact key2 (n + 1) 0 ws H ls locs (Nat.zero_le _) (by omega) hM hF hP hD hS (lv_sub hl [1, 2, 3, 4, 0] rfl)
    have hM : PM kk ad 0 (time + nI 0) n tok (outF f time n 0) ky ws := by rw [show time + nI 0 = time from Int32.add_zero time]; exact hM
    exact key (N + 1) 0 ws H ls locs (Nat.zero_le _) (by omega) hA hM hF hP hD hS (lv_sub hl [2, 3, 1, 0] rfl)
  · have b1 := zb_f c_1
    refine lv_aload_n hx hb d_M_tick_11 rfl (zl hl rfl) ?_
    refine lv_iconst (v := 1) hx hb d_M_tick_12 (by decide) ?_
    refine z_call (va_runV (As := [.int 1]) (rest := []) ⟨hx, hb, hml, hown, hts⟩ (c_M_raise l hP hM hD 1) (cwV 1 hts (tt_V tw_635 tw_632 tw_634 tw_15 tw_36) rfl rfl rfl (by decide +kernel) ⟨Nat.le_of_ble_eq_true rfl, Nat.le_of_ble_eq_true rfl⟩) (zPc_V hKN hP (ci := 4) (q := (R_M, F_M, 15)) rfl (PM_o hM)) rfl rfl hl.1 rfl (lv_room (Nat.le_of_ble_eq_true rfl)) d_M_tick_13 ⟨Nat.le_of_ble_eq_true rfl, Nat.le_of_ble_eq_true rfl⟩) hS (fun ws H locs hR hP hD hz hS => ?_)
    have hF := zfrM_tr hF hR.2
    have hM := hR.1
    clear hR
    exact z_iretR hx hb hr hlocks hP hD hS (by simp [*]) (⟨by first | (simp only [*, reduceIte, Bool.false_eq_true]; done) | (simp only [*, reduceIte, Bool.false_eq_true]; exact hM), hF⟩) d_M_tick_16
end
section
-- a task's methods that write: the task at a, its group ga
def gNew (st new lent : Int32) : Int32 := if new = 1 then (if st = 1 then lent - 1 else lent) + 1 else (if st = 1 then lent - 1 else lent)
def zfrT (a : Nat) (ga : Option Nat) (ws ws' : va_W) : Prop := ∀ (b : Nat) (e : va_E), b ≠ a → ga ≠ some b → zin ws b e → zin ws' b e
theorem zfrT_rf {a : Nat} {ga : Option Nat} {ws : va_W} : zfrT a ga ws ws := fun _ _ _ _ h => h
theorem zfrT_tr {a : Nat} {ga : Option Nat} {ws w1 w2 : va_W} (h1 : zfrT a ga ws w1) (h2 : zfrT a ga w1 w2) : zfrT a ga ws w2 := fun b e n1 n2 hz => h2 b e n1 n2 (h1 b e n1 n2 hz)
theorem zfrT_a {a : Nat} {ga : Option Nat} {ws w1 w2 : va_W} {e0 : va_E} (h : zfrT a ga ws w1) (u : zupd w1 a e0 w2) : zfrT a ga ws w2 := fun b e n1 n2 hz => u.2 b e n1 (h b e n1 n2 hz)
theorem zfrT_g {a g : Nat} {ws w1 w2 : va_W} {e0 : va_E} (h : zfrT a (some g) ws w1) (u : zupd w1 g e0 w2) : zfrT a (some g) ws w2 := fun b e n1 n2 hz => u.2 b e (fun z => n2 (by rw [z])) (h b e n1 n2 hz)
/-- a cell of another class than a task or a group stays -/
theorem zfrT_q {A : Nat → Prop} {a : Nat} {ga : Option Nat} {ws w1 : va_W} (hD : va_D A ws) (h : zfrT a ga ws w1) {b : Nat} {e ea : va_E} (ha : zin ws a ea) (hg : ∀ g, ga = some g → ∃ x, zin ws g (.inr (0, x))) (hb : zin ws b e) (h1 : e ≠ ea) (h2 : ∀ x, e ≠ .inr (0, x)) : zin w1 b e :=
  h b e (zin_ne hD hb ha h1) (fun z => by obtain ⟨x, hx⟩ := hg b z; exact h2 x (zin_fn hD hb hx)) hb
def sHold (st memory dn now : Int32) : Bool := sLive st || (decide (st = 2) && decide (now - dn ≤ memory))
def sHad (st due now : Int32) (ga : Option Nat) (limit lent : Int32) : Bool := sDue st due now && (ga.isNone || decide (lent < limit))
def sBefore (m i due due2 num num2 : Int32) : Bool := if m = i then (if due = due2 then decide (num < num2) else decide (due < due2)) else decide (i < m)
def sComes (st due en : Int32) : Int32 := if st = 0 then due else if st = 1 then en else -1
def sPause (base top tries : Int32) : Int32 := if top < base <<< ((tries - 1) &&& 31) then top else base <<< ((tries - 1) &&& 31)
def sMay (what v : Int32) : Bool := if what = 0 then sWithin v 1 200 else if what = 1 then sWithin v 1 20 else if what = 2 then sWithin v 1 100 else if what = 3 then sWithin v 1 1000 else if what = 4 then sWithin v 0 100 else if what = 5 then sWithin v 0 1000 else false
set_option maxHeartbeats 4000000 in
set_option maxRecDepth 100000 in
theorem c_T_mayBeHad (l : Launch) {D : va_G} {tys : List (ClassId × FieldType)} {ws : va_W} {H : Heap} (hP : va_P D vwCl ws H) {a qa : Nat} {ga : Option Nat} {num rank st tries due en wk tk dn : Int32} {key : Int64} (hz : zin ws a (.inr (2, [.int num, .ref qa, .int rank, va_rf ga, .long key, .int st, .int tries, .int due, .int en, .int wk, .int tk, .int dn]))) {limit lent : Int32} (hg : ∀ g, ga = some g → zin ws g (.inr (0, [.int limit, .int lent]))) (now : Int32) : Met l y_T_mayBeHad (Cond.code y_T_mayBeHad b_T_mayBeHad 2 (some .boolean) :: TT) ({ frames := 2, cells := 0, slots := 0, locals := 120 }) (zPc [.ref a, .int now] H D vwCl tys) (zQi (zb (sHad st due now ga limit lent)) H) 0 0 (fun _ => False) := by
  refine z_body (by decide) (Nat.le_of_ble_eq_true rfl) ?_
  intro p e s m below meth c ls C0 hH hKN hl
  obtain ⟨hx, hb, hr, hts, hown, hlocks, hml⟩ := C0
  subst hH
  have hK := hKN.1
  have hN := hKN.2
  have hS : va_S (fun _ => False) s.heap s.heap [] := va_S.rf
  cases ga with
  | none =>
    have hl : lv_has ls 2 [(0, .ref a), (1, .int now)] := hl
    refine lv_aload_n hx hb d_T_mayBeHad_0 rfl (zl hl rfl) ?_
    refine lv_iload_n hx hb d_T_mayBeHad_1 rfl (zl hl rfl) ?_
    refine z_calli (va_runV (As := [.int now]) (rest := []) ⟨hx, hb, hml, hown, hts⟩ (c_T_isDue l hP hz now) (cwV 1 hts (tt_V tw_250 tw_247 tw_248 tw_249 tw_44) rfl rfl rfl (by decide +kernel) ⟨Nat.le_of_ble_eq_true rfl, Nat.le_of_ble_eq_true rfl⟩) (zPc_V hKN hP (ci := 2) (q := (R_T, F_T, 12)) rfl hz) rfl rfl hl.1 rfl (lv_room (Nat.le_of_ble_eq_true rfl)) d_T_mayBeHad_2 ⟨Nat.zero_le _, Nat.zero_le _⟩) hS (fun locs hS => ?_)
    refine lv_if_eq (tgt := 36) hx hb d_T_mayBeHad_5 (by decide) (fun c_1 => ?_) (fun c_1 => ?_)
    · have b1 := zb_f c_1
      refine lv_iconst (v := 0) hx hb d_T_mayBeHad_36 (by decide) ?_
      exact z_zret hx hb hr hlocks hS (by simp [sHad, zb, *]) d_T_mayBeHad_37
    · have b1 := zb_t c_1
      refine lv_aload_n hx hb d_T_mayBeHad_8 rfl (zl hl rfl) ?_
      refine z_get (C := R_T) (T := F_T) (N := 12) (v := .null) hx hb hts inT_T hown hK hP hz rfl 3 (by decide) tw_402 (fun _ h => h) rfl d_T_mayBeHad_9 ?_
      refine lv_ifnullN (tgt := 32) hx hb d_T_mayBeHad_12 (by decide) ?_
      refine lv_iconst (v := 1) hx hb d_T_mayBeHad_32 (by decide) ?_
      refine lv_goto (tgt := 37) hx hb d_T_mayBeHad_33 (by decide) ?_
      exact z_zret hx hb hr hlocks hS (by simp [sHad, zb, *]) d_T_mayBeHad_37
  | some g =>
    have hg1 := hg g rfl
    have hl : lv_has ls 2 [(0, .ref a), (1, .int now)] := hl
    refine lv_aload_n hx hb d_T_mayBeHad_0 rfl (zl hl rfl) ?_
    refine lv_iload_n hx hb d_T_mayBeHad_1 rfl (zl hl rfl) ?_
    refine z_calli (va_runV (As := [.int now]) (rest := []) ⟨hx, hb, hml, hown, hts⟩ (c_T_isDue l hP hz now) (cwV 1 hts (tt_V tw_250 tw_247 tw_248 tw_249 tw_44) rfl rfl rfl (by decide +kernel) ⟨Nat.le_of_ble_eq_true rfl, Nat.le_of_ble_eq_true rfl⟩) (zPc_V hKN hP (ci := 2) (q := (R_T, F_T, 12)) rfl hz) rfl rfl hl.1 rfl (lv_room (Nat.le_of_ble_eq_true rfl)) d_T_mayBeHad_2 ⟨Nat.zero_le _, Nat.zero_le _⟩) hS (fun locs hS => ?_)
    refine lv_if_eq (tgt := 36) hx hb d_T_mayBeHad_5 (by decide) (fun c_1 => ?_) (fun c_1 => ?_)
    · have b1 := zb_f c_1
      refine lv_iconst (v := 0) hx hb d_T_mayBeHad_36 (by decide) ?_
      exact z_zret hx hb hr hlocks hS (by simp [sHad, zb, *]) d_T_mayBeHad_37
    · have b1 := zb_t c_1
      refine lv_aload_n hx hb d_T_mayBeHad_8 rfl (zl hl rfl) ?_
      refine z_get (C := R_T) (T := F_T) (N := 12) (v := .ref g) hx hb hts inT_T hown hK hP hz rfl 3 (by decide) tw_402 (fun _ h => h) rfl d_T_mayBeHad_9 ?_
      refine lv_ifnull hx hb d_T_mayBeHad_12 ?_
      refine lv_aload_n hx hb d_T_mayBeHad_15 rfl (zl hl rfl) ?_
      refine z_get (C := R_T) (T := F_T) (N := 12) (v := .ref g) hx hb hts inT_T hown hK hP hz rfl 3 (by decide) tw_402 (fun _ h => h) rfl d_T_mayBeHad_16 ?_
      refine z_get (C := R_G) (T := F_G) (N := 2) (v := .int lent) hx hb hts inT_G hown hK hP hg1 rfl 1 (by decide) tw_126 (fun _ h => h) rfl d_T_mayBeHad_19 ?_
      refine lv_aload_n hx hb d_T_mayBeHad_22 rfl (zl hl rfl) ?_
      refine z_get (C := R_T) (T := F_T) (N := 12) (v := .ref g) hx hb hts inT_T hown hK hP hz rfl 3 (by decide) tw_402 (fun _ h => h) rfl d_T_mayBeHad_23 ?_
      refine z_get (C := R_G) (T := F_G) (N := 2) (v := .int limit) hx hb hts inT_G hown hK hP hg1 rfl 0 (by decide) tw_123 (fun _ h => h) rfl d_T_mayBeHad_26 ?_
      refine lv_icmp_ge (tgt := 36) hx hb d_T_mayBeHad_29 (by decide) (fun c_2 => ?_) (fun c_2 => ?_)
      · have b2 := zle_nlt c_2
        refine lv_iconst (v := 0) hx hb d_T_mayBeHad_36 (by decide) ?_
        exact z_zret hx hb hr hlocks hS (by simp [sHad, zb, *]) d_T_mayBeHad_37
      · have b2 := znle_lt c_2
        refine lv_iconst (v := 1) hx hb d_T_mayBeHad_32 (by decide) ?_
        refine lv_goto (tgt := 37) hx hb d_T_mayBeHad_33 (by decide) ?_
        exact z_zret hx hb hr hlocks hS (by simp [sHad, zb, *]) d_T_mayBeHad_37
set_option maxHeartbeats 4000000 in
set_option maxRecDepth 100000 in
theorem c_T_holdsKey (l : Launch) {D : va_G} {tys : List (ClassId × FieldType)} {ws : va_W} {H : Heap} (hP : va_P D vwCl ws H) {a qa : Nat} {ga : Option Nat} {num rank st tries due en wk tk dn : Int32} {key : Int64} (hz : zin ws a (.inr (2, [.int num, .ref qa, .int rank, va_rf ga, .long key, .int st, .int tries, .int due, .int en, .int wk, .int tk, .int dn]))) {loan most base top growth memory : Int32} (hq : zin ws qa (.inr (1, [.int loan, .int most, .int base, .int top, .int growth, .int memory]))) (now : Int32) : Met l y_T_holdsKey (Cond.code y_T_holdsKey b_T_holdsKey 2 (some .boolean) :: TT) ({ frames := 2, cells := 0, slots := 0, locals := 120 }) (zPc [.ref a, .int now] H D vwCl tys) (zQi (zb (sHold st memory dn now)) H) 0 0 (fun _ => False) := by
  refine z_body (by decide) (Nat.le_of_ble_eq_true rfl) ?_
  intro p e s m below meth c ls C0 hH hKN hl
  obtain ⟨hx, hb, hr, hts, hown, hlocks, hml⟩ := C0
  subst hH
  have hK := hKN.1
  have hN := hKN.2
  have hS : va_S (fun _ => False) s.heap s.heap [] := va_S.rf
  have hl : lv_has ls 2 [(0, .ref a), (1, .int now)] := hl
  refine lv_aload_n hx hb d_T_holdsKey_0 rfl (zl hl rfl) ?_
  refine z_calli (va_runV (As := []) (rest := []) ⟨hx, hb, hml, hown, hts⟩ (c_T_isLive l hP hz) (cwV 0 hts (tt_V tw_190 tw_375 tw_188 tw_189 tw_44) rfl rfl rfl (by decide +kernel) ⟨Nat.le_of_ble_eq_true rfl, Nat.le_of_ble_eq_true rfl⟩) (zPc_V hKN hP (ci := 2) (q := (R_T, F_T, 12)) rfl hz) rfl rfl hl.1 rfl (lv_room (Nat.le_of_ble_eq_true rfl)) d_T_holdsKey_1 ⟨Nat.zero_le _, Nat.zero_le _⟩) hS (fun locs hS => ?_)
  refine lv_if_ne (tgt := 31) hx hb d_T_holdsKey_4 (by decide) (fun c_1 => ?_) (fun c_1 => ?_)
  · have b1 := zb_t c_1
    refine lv_iconst (v := 1) hx hb d_T_holdsKey_31 (by decide) ?_
    refine lv_goto (tgt := 36) hx hb d_T_holdsKey_32 (by decide) ?_
    exact z_zret hx hb hr hlocks hS (by first | (simp [sHold, zb, *]; done) | (simp [sHold, sLive, zb, *]; done)) d_T_holdsKey_36
  · have b1 := zb_f c_1
    refine lv_aload_n hx hb d_T_holdsKey_7 rfl (zl hl rfl) ?_
    refine z_get (C := R_T) (T := F_T) (N := 12) (v := .int st) hx hb hts inT_T hown hK hP hz rfl 5 (by decide) tw_405 (fun _ h => h) rfl d_T_holdsKey_8 ?_
    refine lv_iconst (v := 2) hx hb d_T_holdsKey_11 (by decide) ?_
    refine lv_icmp_ne (tgt := 35) hx hb d_T_holdsKey_12 (by decide) (fun c_2 => ?_) (fun c_2 => ?_)
    · refine lv_iconst (v := 0) hx hb d_T_holdsKey_35 (by decide) ?_
      exact z_zret hx hb hr hlocks hS (by first | (simp [sHold, zb, *]; done) | (simp [sHold, sLive, zb, *]; done)) d_T_holdsKey_36
    · refine lv_iload_n hx hb d_T_holdsKey_15 rfl (zl hl rfl) ?_
      refine lv_aload_n hx hb d_T_holdsKey_16 rfl (zl hl rfl) ?_
      refine z_get (C := R_T) (T := F_T) (N := 12) (v := .int dn) hx hb hts inT_T hown hK hP hz rfl 11 (by decide) tw_417 (fun _ h => h) rfl d_T_holdsKey_17 ?_
      refine lv_isub hx hb d_T_holdsKey_20 ?_
      refine lv_aload_n hx hb d_T_holdsKey_21 rfl (zl hl rfl) ?_
      refine z_get (C := R_T) (T := F_T) (N := 12) (v := .ref qa) hx hb hts inT_T hown hK hP hz rfl 1 (by decide) tw_399 (fun _ h => h) rfl d_T_holdsKey_22 ?_
      refine z_get (C := R_Q) (T := F_Q) (N := 6) (v := .int memory) hx hb hts inT_Q hown hK hP hq rfl 5 (by decide) tw_103 (fun _ h => h) rfl d_T_holdsKey_25 ?_
      refine lv_icmp_gt (tgt := 35) hx hb d_T_holdsKey_28 (by decide) (fun c_3 => ?_) (fun c_3 => ?_)
      · have b3 := zlt_nle c_3
        refine lv_iconst (v := 0) hx hb d_T_holdsKey_35 (by decide) ?_
        exact z_zret hx hb hr hlocks hS (by first | (simp [sHold, zb, *]; done) | (simp [sHold, sLive, zb, *]; done)) d_T_holdsKey_36
      · have b3 := znlt_le c_3
        refine lv_iconst (v := 1) hx hb d_T_holdsKey_31 (by decide) ?_
        refine lv_goto (tgt := 36) hx hb d_T_holdsKey_32 (by decide) ?_
        exact z_zret hx hb hr hlocks hS (by first | (simp [sHold, zb, *]; done) | (simp [sHold, sLive, zb, *]; done)) d_T_holdsKey_36
set_option maxHeartbeats 4000000 in
set_option maxRecDepth 100000 in
theorem c_T_comesAt (l : Launch) {D : va_G} {tys : List (ClassId × FieldType)} {ws : va_W} {H : Heap} (hP : va_P D vwCl ws H) {a qa : Nat} {ga : Option Nat} {num rank st tries due en wk tk dn : Int32} {key : Int64} (hz : zin ws a (.inr (2, [.int num, .ref qa, .int rank, va_rf ga, .long key, .int st, .int tries, .int due, .int en, .int wk, .int tk, .int dn]))) : Met l y_T_comesAt (Cond.code y_T_comesAt b_T_comesAt 1 (some .int) :: TT) ({ frames := 1, cells := 0, slots := 0, locals := 60 }) (zPc [.ref a] H D vwCl tys) (zQi (sComes st due en) H) 0 0 (fun _ => False) := by
  refine z_body (by decide) (Nat.le_of_ble_eq_true rfl) ?_
  intro p e s m below meth c ls C0 hH hKN hl
  obtain ⟨hx, hb, hr, hts, hown, hlocks, hml⟩ := C0
  subst hH
  have hK := hKN.1
  have hN := hKN.2
  have hS : va_S (fun _ => False) s.heap s.heap [] := va_S.rf
  have hl : lv_has ls 1 [(0, .ref a)] := hl
  refine lv_aload_n hx hb d_T_comesAt_0 rfl (zl hl rfl) ?_
  refine z_get (C := R_T) (T := F_T) (N := 12) (v := .int st) hx hb hts inT_T hown hK hP hz rfl 5 (by decide) tw_405 (fun _ h => h) rfl d_T_comesAt_1 ?_
  refine lv_if_ne (tgt := 12) hx hb d_T_comesAt_4 (by decide) (fun c_1 => ?_) (fun c_1 => ?_)
  · refine lv_aload_n hx hb d_T_comesAt_12 rfl (zl hl rfl) ?_
    refine z_get (C := R_T) (T := F_T) (N := 12) (v := .int st) hx hb hts inT_T hown hK hP hz rfl 5 (by decide) tw_405 (fun _ h => h) rfl d_T_comesAt_13 ?_
    refine lv_iconst (v := 1) hx hb d_T_comesAt_16 (by decide) ?_
    refine lv_icmp_ne (tgt := 27) hx hb d_T_comesAt_17 (by decide) (fun c_2 => ?_) (fun c_2 => ?_)
    · refine lv_iconst (v := (-1)) hx hb d_T_comesAt_27 (by decide) ?_
      exact z_iret hx hb hr hlocks hS (by simp [sComes, *]) d_T_comesAt_28
    · refine lv_aload_n hx hb d_T_comesAt_20 rfl (zl hl rfl) ?_
      refine z_get (C := R_T) (T := F_T) (N := 12) (v := .int en) hx hb hts inT_T hown hK hP hz rfl 8 (by decide) tw_411 (fun _ h => h) rfl d_T_comesAt_21 ?_
      refine lv_goto (tgt := 28) hx hb d_T_comesAt_24 (by decide) ?_
      exact z_iret hx hb hr hlocks hS (by simp [sComes, *]) d_T_comesAt_28
  · refine lv_aload_n hx hb d_T_comesAt_7 rfl (zl hl rfl) ?_
    refine z_get (C := R_T) (T := F_T) (N := 12) (v := .int due) hx hb hts inT_T hown hK hP hz rfl 7 (by decide) tw_409 (fun _ h => h) rfl d_T_comesAt_8 ?_
    exact z_iret hx hb hr hlocks hS (by simp [sComes, *]) d_T_comesAt_11
set_option maxHeartbeats 4000000 in
set_option maxRecDepth 100000 in
theorem c_T_goesBefore (l : Launch) {D : va_G} {tys : List (ClassId × FieldType)} {ws : va_W} {H : Heap} (hP : va_P D vwCl ws H) {a qa : Nat} {ga : Option Nat} {num rank st tries due en wk tk dn : Int32} {key : Int64} (hz : zin ws a (.inr (2, [.int num, .ref qa, .int rank, va_rf ga, .long key, .int st, .int tries, .int due, .int en, .int wk, .int tk, .int dn]))) {loan most base top growth memory : Int32} (hq : zin ws qa (.inr (1, [.int loan, .int most, .int base, .int top, .int growth, .int memory]))) {a2 : Nat} {ga2 : Option Nat} {num2 rank2 st2 tries2 due2 en2 wk2 tk2 dn2 : Int32} {key2 : Int64} (hz2 : zin ws a2 (.inr (2, [.int num2, .ref qa, .int rank2, va_rf ga2, .long key2, .int st2, .int tries2, .int due2, .int en2, .int wk2, .int tk2, .int dn2]))) (now : Int32) : Met l y_T_goesBefore (Cond.code y_T_goesBefore b_T_goesBefore 5 (some .boolean) :: TT) ({ frames := 3, cells := 0, slots := 0, locals := 180 }) (zPc [.ref a, .ref a2, .int now] H D vwCl tys) (zQi (zb (sBefore (sWeight rank growth due now) (sWeight rank2 growth due2 now) due due2 num num2)) H) 0 0 (fun _ => False) := by
  refine z_body (by decide) (Nat.le_of_ble_eq_true rfl) ?_
  intro p e s m below meth c ls C0 hH hKN hl
  obtain ⟨hx, hb, hr, hts, hown, hlocks, hml⟩ := C0
  subst hH
  have hK := hKN.1
  have hN := hKN.2
  have hS : va_S (fun _ => False) s.heap s.heap [] := va_S.rf
  have hl : lv_has ls 5 [(0, .ref a), (1, .ref a2), (2, .int now)] := hl
  refine lv_aload_n hx hb d_T_goesBefore_0 rfl (zl hl rfl) ?_
  refine lv_iload_n hx hb d_T_goesBefore_1 rfl (zl hl rfl) ?_
  refine z_calli (va_runV (As := [.int now]) (rest := []) ⟨hx, hb, hml, hown, hts⟩ (c_T_weight l hP hz hq now) (cwV 1 hts (tt_V tw_258 tw_255 tw_256 tw_257 tw_44) rfl rfl rfl (by decide +kernel) ⟨Nat.le_of_ble_eq_true rfl, Nat.le_of_ble_eq_true rfl⟩) (zPc_V hKN hP (ci := 2) (q := (R_T, F_T, 12)) rfl hz) rfl rfl hl.1 rfl (lv_room (Nat.le_of_ble_eq_true rfl)) d_T_goesBefore_2 ⟨Nat.zero_le _, Nat.zero_le _⟩) hS (fun locs hS => ?_)
  refine lv_istore_n (lv' := [(3, .int (sWeight rank growth due now)), (0, .ref a), (1, .ref a2), (2, .int now)]) hx hb d_T_goesBefore_5 rfl hl (by decide) rfl (fun ls hl => ?_)
  refine lv_aload_n hx hb d_T_goesBefore_6 rfl (zl hl rfl) ?_
  refine lv_iload_n hx hb d_T_goesBefore_7 rfl (zl hl rfl) ?_
  refine z_calli (va_runV (As := [.int now]) (rest := []) ⟨hx, hb, hml, hown, hts⟩ (c_T_weight l hP hz2 hq now) (cwV 1 hts (tt_V tw_258 tw_255 tw_256 tw_257 tw_44) rfl rfl rfl (by decide +kernel) ⟨Nat.le_of_ble_eq_true rfl, Nat.le_of_ble_eq_true rfl⟩) (zPc_V hKN hP (ci := 2) (q := (R_T, F_T, 12)) rfl hz2) rfl rfl hl.1 rfl (lv_room (Nat.le_of_ble_eq_true rfl)) d_T_goesBefore_8 ⟨Nat.zero_le _, Nat.zero_le _⟩) hS (fun locs hS => ?_)
  refine lv_istore (lv' := [(4, .int (sWeight rank2 growth due2 now)), (3, .int (sWeight rank growth due now)), (0, .ref a), (1, .ref a2), (2, .int now)]) hx hb d_T_goesBefore_11 hl (by decide) rfl (fun ls hl => ?_)
  refine lv_iload_n hx hb d_T_goesBefore_13 rfl (zl hl rfl) ?_
  refine lv_iload hx hb d_T_goesBefore_14 (zl hl rfl) ?_
  refine lv_icmp_eq (tgt := 31) hx hb d_T_goesBefore_16 (by decide) (fun c_1 => ?_) (fun c_1 => ?_)
  · have b1 := c_1
    refine lv_aload_n hx hb d_T_goesBefore_31 rfl (zl hl rfl) ?_
    refine z_get (C := R_T) (T := F_T) (N := 12) (v := .int due) hx hb hts inT_T hown hK hP hz rfl 7 (by decide) tw_409 (fun _ h => h) rfl d_T_goesBefore_32 ?_
    refine lv_aload_n hx hb d_T_goesBefore_35 rfl (zl hl rfl) ?_
    refine z_get (C := R_T) (T := F_T) (N := 12) (v := .int due2) hx hb hts inT_T hown hK hP hz2 rfl 7 (by decide) tw_409 (fun _ h => h) rfl d_T_goesBefore_36 ?_
    refine lv_icmp_eq (tgt := 61) hx hb d_T_goesBefore_39 (by decide) (fun c_2 => ?_) (fun c_2 => ?_)
    · have b5 := c_2
      refine lv_aload_n hx hb d_T_goesBefore_61 rfl (zl hl rfl) ?_
      refine z_get (C := R_T) (T := F_T) (N := 12) (v := .int num) hx hb hts inT_T hown hK hP hz rfl 0 (by decide) tw_397 (fun _ h => h) rfl d_T_goesBefore_62 ?_
      refine lv_aload_n hx hb d_T_goesBefore_65 rfl (zl hl rfl) ?_
      refine z_get (C := R_T) (T := F_T) (N := 12) (v := .int num2) hx hb hts inT_T hown hK hP hz2 rfl 0 (by decide) tw_397 (fun _ h => h) rfl d_T_goesBefore_66 ?_
      refine lv_icmp_ge (tgt := 76) hx hb d_T_goesBefore_69 (by decide) (fun c_3 => ?_) (fun c_3 => ?_)
      · have b4 := zle_nlt c_3
        refine lv_iconst (v := 0) hx hb d_T_goesBefore_76 (by decide) ?_
        exact z_zret hx hb hr hlocks hS (by unfold sBefore; first | (rw [if_pos b1, if_pos b5]; simp [zb, b4]; done) | (rw [if_pos b1, if_neg b5]; simp [zb, b3]; done) | (rw [if_neg b1]; simp [zb, b2]; done)) d_T_goesBefore_77
      · have b4 := znle_lt c_3
        refine lv_iconst (v := 1) hx hb d_T_goesBefore_72 (by decide) ?_
        refine lv_goto (tgt := 77) hx hb d_T_goesBefore_73 (by decide) ?_
        exact z_zret hx hb hr hlocks hS (by unfold sBefore; first | (rw [if_pos b1, if_pos b5]; simp [zb, b4]; done) | (rw [if_pos b1, if_neg b5]; simp [zb, b3]; done) | (rw [if_neg b1]; simp [zb, b2]; done)) d_T_goesBefore_77
    · have b5 : ¬ _ := c_2
      refine lv_aload_n hx hb d_T_goesBefore_42 rfl (zl hl rfl) ?_
      refine z_get (C := R_T) (T := F_T) (N := 12) (v := .int due) hx hb hts inT_T hown hK hP hz rfl 7 (by decide) tw_409 (fun _ h => h) rfl d_T_goesBefore_43 ?_
      refine lv_aload_n hx hb d_T_goesBefore_46 rfl (zl hl rfl) ?_
      refine z_get (C := R_T) (T := F_T) (N := 12) (v := .int due2) hx hb hts inT_T hown hK hP hz2 rfl 7 (by decide) tw_409 (fun _ h => h) rfl d_T_goesBefore_47 ?_
      refine lv_icmp_ge (tgt := 57) hx hb d_T_goesBefore_50 (by decide) (fun c_4 => ?_) (fun c_4 => ?_)
      · have b3 := zle_nlt c_4
        refine lv_iconst (v := 0) hx hb d_T_goesBefore_57 (by decide) ?_
        refine lv_goto (tgt := 77) hx hb d_T_goesBefore_58 (by decide) ?_
        exact z_zret hx hb hr hlocks hS (by unfold sBefore; first | (rw [if_pos b1, if_pos b5]; simp [zb, b4]; done) | (rw [if_pos b1, if_neg b5]; simp [zb, b3]; done) | (rw [if_neg b1]; simp [zb, b2]; done)) d_T_goesBefore_77
      · have b3 := znle_lt c_4
        refine lv_iconst (v := 1) hx hb d_T_goesBefore_53 (by decide) ?_
        refine lv_goto (tgt := 77) hx hb d_T_goesBefore_54 (by decide) ?_
        exact z_zret hx hb hr hlocks hS (by unfold sBefore; first | (rw [if_pos b1, if_pos b5]; simp [zb, b4]; done) | (rw [if_pos b1, if_neg b5]; simp [zb, b3]; done) | (rw [if_neg b1]; simp [zb, b2]; done)) d_T_goesBefore_77
  · have b1 : ¬ _ := c_1
    refine lv_iload_n hx hb d_T_goesBefore_19 rfl (zl hl rfl) ?_
    refine lv_iload hx hb d_T_goesBefore_20 (zl hl rfl) ?_
    refine lv_icmp_le (tgt := 29) hx hb d_T_goesBefore_22 (by decide) (fun c_5 => ?_) (fun c_5 => ?_)
    · have b2 := zle_nlt c_5
      refine lv_iconst (v := 0) hx hb d_T_goesBefore_29 (by decide) ?_
      exact z_zret hx hb hr hlocks hS (by unfold sBefore; first | (rw [if_pos b1, if_pos b5]; simp [zb, b4]; done) | (rw [if_pos b1, if_neg b5]; simp [zb, b3]; done) | (rw [if_neg b1]; simp [zb, b2]; done)) d_T_goesBefore_30
    · have b2 := znle_lt c_5
      refine lv_iconst (v := 1) hx hb d_T_goesBefore_25 (by decide) ?_
      refine lv_goto (tgt := 30) hx hb d_T_goesBefore_26 (by decide) ?_
      exact z_zret hx hb hr hlocks hS (by unfold sBefore; first | (rw [if_pos b1, if_pos b5]; simp [zb, b4]; done) | (rw [if_pos b1, if_neg b5]; simp [zb, b3]; done) | (rw [if_neg b1]; simp [zb, b2]; done)) d_T_goesBefore_30
set_option maxHeartbeats 4000000 in
set_option maxRecDepth 100000 in
theorem c_Q_pauseAfter (l : Launch) {D : va_G} {tys : List (ClassId × FieldType)} {ws : va_W} {H : Heap} (hP : va_P D vwCl ws H) {qa : Nat} {loan most base top growth memory : Int32} (hq : zin ws qa (.inr (1, [.int loan, .int most, .int base, .int top, .int growth, .int memory]))) (tries : Int32) : Met l y_Q_pauseAfter (Cond.code y_Q_pauseAfter b_Q_pauseAfter 2 (some .int) :: TT) ({ frames := 2, cells := 0, slots := 0, locals := 120 }) (zPc [.ref qa, .int tries] H D vwCl tys) (zQi (sPause base top tries) H) 0 0 (fun _ => False) := by
  refine z_body (by decide) (Nat.le_of_ble_eq_true rfl) ?_
  intro p e s m below meth c ls C0 hH hKN hl
  obtain ⟨hx, hb, hr, hts, hown, hlocks, hml⟩ := C0
  subst hH
  have hK := hKN.1
  have hN := hKN.2
  have hS : va_S (fun _ => False) s.heap s.heap [] := va_S.rf
  have hl : lv_has ls 2 [(0, .ref qa), (1, .int tries)] := hl
  refine lv_aload_n hx hb d_Q_pauseAfter_0 rfl (zl hl rfl) ?_
  refine z_get (C := R_Q) (T := F_Q) (N := 6) (v := .int base) hx hb hts inT_Q hown hK hP hq rfl 2 (by decide) tw_98 (fun _ h => h) rfl d_Q_pauseAfter_1 ?_
  refine lv_iload_n hx hb d_Q_pauseAfter_4 rfl (zl hl rfl) ?_
  refine lv_iconst (v := 1) hx hb d_Q_pauseAfter_5 (by decide) ?_
  refine lv_isub hx hb d_Q_pauseAfter_6 ?_
  refine lv_ishl hx hb d_Q_pauseAfter_7 ?_
  refine lv_aload_n hx hb d_Q_pauseAfter_8 rfl (zl hl rfl) ?_
  refine z_get (C := R_Q) (T := F_Q) (N := 6) (v := .int top) hx hb hts inT_Q hown hK hP hq rfl 3 (by decide) tw_99 (fun _ h => h) rfl d_Q_pauseAfter_9 ?_
  refine va_mmin hx hb (hml.trans hl.1.symm) hown (hts _ tw_545) (hts _ tw_260) (hts _ tw_46) (hts _ tw_261) (Nat.le_of_ble_eq_true rfl) (Nat.le_of_ble_eq_true rfl) (Nat.zero_le _) (Nat.zero_le _) d_Q_pauseAfter_12 ?_
  exact z_iret hx hb hr hlocks hS (rfl) d_Q_pauseAfter_15
set_option maxHeartbeats 4000000 in
set_option maxRecDepth 100000 in
theorem c_T_become (l : Launch) {D : va_G} {tys : List (ClassId × FieldType)} {ws : va_W} {H : Heap} (hP : va_P D vwCl ws H) {a qa : Nat} {ga : Option Nat} {num rank st tries due en wk tk dn : Int32} {key : Int64} (hz : zin ws a (.inr (2, [.int num, .ref qa, .int rank, va_rf ga, .long key, .int st, .int tries, .int due, .int en, .int wk, .int tk, .int dn]))) {limit lent : Int32} (hg : ∀ g, ga = some g → zin ws g (.inr (0, [.int limit, .int lent]))) {B : Nat} (hD : va_D (fun q => B ≤ q) ws) (new : Int32) : Met l y_T_become (Cond.code y_T_become b_T_become 2 none :: TT) ({ frames := 1, cells := 0, slots := 0, locals := 60 }) (zPc [.ref a, .int new] H D vwCl tys) (zR D vwCl B none (fun ws' => zin ws' a (.inr (2, [.int num, .ref qa, .int rank, va_rf ga, .long key, .int new, .int tries, .int due, .int en, .int wk, .int tk, .int dn])) ∧ (∀ g, ga = some g → zin ws' g (.inr (0, [.int limit, .int (gNew st new lent)]))) ∧ zfrT a ga ws ws')) 0 0 (fun q => B ≤ q) := by
  refine z_body (by decide) (Nat.le_of_ble_eq_true rfl) ?_
  intro p e s m below meth c ls C0 hH hKN hl
  obtain ⟨hx, hb, hr, hts, hown, hlocks, hml⟩ := C0
  subst hH
  have hK := hKN.1
  have hN := hKN.2
  have hS : va_S (fun q => B ≤ q) s.heap s.heap [] := va_S.rf
  have hFr : zfrT a ga ws ws := zfrT_rf
  cases ga with
  | none =>
    have hl : lv_has ls 2 [(0, .ref a), (1, .int new)] := hl
    refine lv_aload_n hx hb d_T_become_0 rfl (zl hl rfl) ?_
    refine z_get (C := R_T) (T := F_T) (N := 12) (v := .null) hx hb hts inT_T hown hK hP hz rfl 3 (by decide) tw_402 (fun _ h => h) rfl d_T_become_1 ?_
    refine lv_ifnullN (tgt := 28) hx hb d_T_become_4 (by decide) ?_
    refine lv_aload_n hx hb d_T_become_28 rfl (zl hl rfl) ?_
    refine z_get (C := R_T) (T := F_T) (N := 12) (v := .null) hx hb hts inT_T hown hK hP hz rfl 3 (by decide) tw_402 (fun _ h => h) rfl d_T_become_29 ?_
    refine lv_ifnullN (tgt := 53) hx hb d_T_become_32 (by decide) ?_
    refine lv_aload_n hx hb d_T_become_53 rfl (zl hl rfl) ?_
    refine lv_iload_n hx hb d_T_become_54 rfl (zl hl rfl) ?_
    have hD0 := hD
    refine z_put (C := R_T) (T := F_T) (N := 12) (v := .int new) hx hb hts inT_T ft_T ft_T_ok fn_T hown hK hP hD hS hz rfl 5 (by decide) tw_405 (fun _ h => h) rfl rfl rfl (by simp) d_T_become_55 (fun ws H locs hP hD hS u_1 => ?_)
    have z_2 : zin ws a (.inr (2, [.int num, .ref qa, .int rank, .null, .long key, .int new, .int tries, .int due, .int en, .int wk, .int tk, .int dn])) := u_1.1
    have hFr := zfrT_a hFr u_1
    exact z_vretR hx hb hr hlocks hP hD hS (⟨z_2, (fun g9 e9 => by cases e9), hFr⟩) d_T_become_58
  | some g =>
    have hg1 := hg g rfl
    have hl : lv_has ls 2 [(0, .ref a), (1, .int new)] := hl
    refine lv_aload_n hx hb d_T_become_0 rfl (zl hl rfl) ?_
    refine z_get (C := R_T) (T := F_T) (N := 12) (v := .ref g) hx hb hts inT_T hown hK hP hz rfl 3 (by decide) tw_402 (fun _ h => h) rfl d_T_become_1 ?_
    refine lv_ifnull hx hb d_T_become_4 ?_
    refine lv_aload_n hx hb d_T_become_7 rfl (zl hl rfl) ?_
    refine z_get (C := R_T) (T := F_T) (N := 12) (v := .int st) hx hb hts inT_T hown hK hP hz rfl 5 (by decide) tw_405 (fun _ h => h) rfl d_T_become_8 ?_
    refine lv_iconst (v := 1) hx hb d_T_become_11 (by decide) ?_
    refine lv_icmp_ne (tgt := 28) hx hb d_T_become_12 (by decide) (fun c_1 => ?_) (fun c_1 => ?_)
    · refine lv_aload_n hx hb d_T_become_28 rfl (zl hl rfl) ?_
      refine z_get (C := R_T) (T := F_T) (N := 12) (v := .ref g) hx hb hts inT_T hown hK hP hz rfl 3 (by decide) tw_402 (fun _ h => h) rfl d_T_become_29 ?_
      refine lv_ifnull hx hb d_T_become_32 ?_
      refine lv_iload_n hx hb d_T_become_35 rfl (zl hl rfl) ?_
      refine lv_iconst (v := 1) hx hb d_T_become_36 (by decide) ?_
      refine lv_icmp_ne (tgt := 53) hx hb d_T_become_37 (by decide) (fun c_2 => ?_) (fun c_2 => ?_)
      · refine lv_aload_n hx hb d_T_become_53 rfl (zl hl rfl) ?_
        refine lv_iload_n hx hb d_T_become_54 rfl (zl hl rfl) ?_
        have hD0 := hD
        refine z_put (C := R_T) (T := F_T) (N := 12) (v := .int new) hx hb hts inT_T ft_T ft_T_ok fn_T hown hK hP hD hS hz rfl 5 (by decide) tw_405 (fun _ h => h) rfl rfl rfl (by simp) d_T_become_55 (fun ws H locs hP hD hS u_3 => ?_)
        have z_4 : zin ws a (.inr (2, [.int num, .ref qa, .int rank, .ref g, .long key, .int new, .int tries, .int due, .int en, .int wk, .int tk, .int dn])) := u_3.1
        have z_5 := u_3.2 _ _ (zin_ne hD0 hg1 hz (by intro h; cases h)) hg1
        have hFr := zfrT_a hFr u_3
        exact z_vretR hx hb hr hlocks hP hD hS (⟨z_4, (fun g9 e9 => by cases e9; first | (simp only [gNew, *, reduceIte]; done) | (simp only [gNew, *, reduceIte]; exact z_5)), hFr⟩) d_T_become_58
      · refine lv_aload_n hx hb d_T_become_40 rfl (zl hl rfl) ?_
        refine z_get (C := R_T) (T := F_T) (N := 12) (v := .ref g) hx hb hts inT_T hown hK hP hz rfl 3 (by decide) tw_402 (fun _ h => h) rfl d_T_become_41 ?_
        refine lv_dup hx hb d_T_become_44 rfl ?_
        refine z_get (C := R_G) (T := F_G) (N := 2) (v := .int lent) hx hb hts inT_G hown hK hP hg1 rfl 1 (by decide) tw_126 (fun _ h => h) rfl d_T_become_45 ?_
        refine lv_iconst (v := 1) hx hb d_T_become_48 (by decide) ?_
        refine lv_iadd hx hb d_T_become_49 ?_
        have hD0 := hD
        refine z_put (C := R_G) (T := F_G) (N := 2) (v := .int (lent + 1)) hx hb hts inT_G ft_G ft_G_ok fn_G hown hK hP hD hS hg1 rfl 1 (by decide) tw_126 (fun _ h => h) rfl rfl rfl (by simp) d_T_become_50 (fun ws H locs hP hD hS u_6 => ?_)
        have z_7 : zin ws g (.inr (0, [.int limit, .int (lent + 1)])) := u_6.1
        have z_8 := u_6.2 _ _ (zin_ne hD0 hz hg1 (by intro h; cases h)) hz
        have hFr := zfrT_g hFr u_6
        refine lv_aload_n hx hb d_T_become_53 rfl (zl hl rfl) ?_
        refine lv_iload_n hx hb d_T_become_54 rfl (zl hl rfl) ?_
        have hD0 := hD
        refine z_put (C := R_T) (T := F_T) (N := 12) (v := .int new) hx hb hts inT_T ft_T ft_T_ok fn_T hown hK hP hD hS z_8 rfl 5 (by decide) tw_405 (fun _ h => h) rfl rfl rfl (by simp) d_T_become_55 (fun ws H locs hP hD hS u_9 => ?_)
        have z_10 : zin ws a (.inr (2, [.int num, .ref qa, .int rank, .ref g, .long key, .int new, .int tries, .int due, .int en, .int wk, .int tk, .int dn])) := u_9.1
        have z_11 := u_9.2 _ _ (zin_ne hD0 z_7 z_8 (by intro h; cases h)) z_7
        have hFr := zfrT_a hFr u_9
        exact z_vretR hx hb hr hlocks hP hD hS (⟨z_10, (fun g9 e9 => by cases e9; first | (simp only [gNew, *, reduceIte]; done) | (simp only [gNew, *, reduceIte]; exact z_11)), hFr⟩) d_T_become_58
    · refine lv_aload_n hx hb d_T_become_15 rfl (zl hl rfl) ?_
      refine z_get (C := R_T) (T := F_T) (N := 12) (v := .ref g) hx hb hts inT_T hown hK hP hz rfl 3 (by decide) tw_402 (fun _ h => h) rfl d_T_become_16 ?_
      refine lv_dup hx hb d_T_become_19 rfl ?_
      refine z_get (C := R_G) (T := F_G) (N := 2) (v := .int lent) hx hb hts inT_G hown hK hP hg1 rfl 1 (by decide) tw_126 (fun _ h => h) rfl d_T_become_20 ?_
      refine lv_iconst (v := 1) hx hb d_T_become_23 (by decide) ?_
      refine lv_isub hx hb d_T_become_24 ?_
      have hD0 := hD
      refine z_put (C := R_G) (T := F_G) (N := 2) (v := .int (lent - 1)) hx hb hts inT_G ft_G ft_G_ok fn_G hown hK hP hD hS hg1 rfl 1 (by decide) tw_126 (fun _ h => h) rfl rfl rfl (by simp) d_T_become_25 (fun ws H locs hP hD hS u_12 => ?_)
      have z_13 : zin ws g (.inr (0, [.int limit, .int (lent - 1)])) := u_12.1
      have z_14 := u_12.2 _ _ (zin_ne hD0 hz hg1 (by intro h; cases h)) hz
      have hFr := zfrT_g hFr u_12
      refine lv_aload_n hx hb d_T_become_28 rfl (zl hl rfl) ?_
      refine z_get (C := R_T) (T := F_T) (N := 12) (v := .ref g) hx hb hts inT_T hown hK hP z_14 rfl 3 (by decide) tw_402 (fun _ h => h) rfl d_T_become_29 ?_
      refine lv_ifnull hx hb d_T_become_32 ?_
      refine lv_iload_n hx hb d_T_become_35 rfl (zl hl rfl) ?_
      refine lv_iconst (v := 1) hx hb d_T_become_36 (by decide) ?_
      refine lv_icmp_ne (tgt := 53) hx hb d_T_become_37 (by decide) (fun c_15 => ?_) (fun c_15 => ?_)
      · refine lv_aload_n hx hb d_T_become_53 rfl (zl hl rfl) ?_
        refine lv_iload_n hx hb d_T_become_54 rfl (zl hl rfl) ?_
        have hD0 := hD
        refine z_put (C := R_T) (T := F_T) (N := 12) (v := .int new) hx hb hts inT_T ft_T ft_T_ok fn_T hown hK hP hD hS z_14 rfl 5 (by decide) tw_405 (fun _ h => h) rfl rfl rfl (by simp) d_T_become_55 (fun ws H locs hP hD hS u_16 => ?_)
        have z_17 : zin ws a (.inr (2, [.int num, .ref qa, .int rank, .ref g, .long key, .int new, .int tries, .int due, .int en, .int wk, .int tk, .int dn])) := u_16.1
        have z_18 := u_16.2 _ _ (zin_ne hD0 z_13 z_14 (by intro h; cases h)) z_13
        have hFr := zfrT_a hFr u_16
        exact z_vretR hx hb hr hlocks hP hD hS (⟨z_17, (fun g9 e9 => by cases e9; first | (simp only [gNew, *, reduceIte]; done) | (simp only [gNew, *, reduceIte]; exact z_18)), hFr⟩) d_T_become_58
      · refine lv_aload_n hx hb d_T_become_40 rfl (zl hl rfl) ?_
        refine z_get (C := R_T) (T := F_T) (N := 12) (v := .ref g) hx hb hts inT_T hown hK hP z_14 rfl 3 (by decide) tw_402 (fun _ h => h) rfl d_T_become_41 ?_
        refine lv_dup hx hb d_T_become_44 rfl ?_
        refine z_get (C := R_G) (T := F_G) (N := 2) (v := .int (lent - 1)) hx hb hts inT_G hown hK hP z_13 rfl 1 (by decide) tw_126 (fun _ h => h) rfl d_T_become_45 ?_
        refine lv_iconst (v := 1) hx hb d_T_become_48 (by decide) ?_
        refine lv_iadd hx hb d_T_become_49 ?_
        have hD0 := hD
        refine z_put (C := R_G) (T := F_G) (N := 2) (v := .int ((lent - 1) + 1)) hx hb hts inT_G ft_G ft_G_ok fn_G hown hK hP hD hS z_13 rfl 1 (by decide) tw_126 (fun _ h => h) rfl rfl rfl (by simp) d_T_become_50 (fun ws H locs hP hD hS u_19 => ?_)
        have z_20 : zin ws g (.inr (0, [.int limit, .int ((lent - 1) + 1)])) := u_19.1
        have z_21 := u_19.2 _ _ (zin_ne hD0 z_14 z_13 (by intro h; cases h)) z_14
        have hFr := zfrT_g hFr u_19
        refine lv_aload_n hx hb d_T_become_53 rfl (zl hl rfl) ?_
        refine lv_iload_n hx hb d_T_become_54 rfl (zl hl rfl) ?_
        have hD0 := hD
        refine z_put (C := R_T) (T := F_T) (N := 12) (v := .int new) hx hb hts inT_T ft_T ft_T_ok fn_T hown hK hP hD hS z_21 rfl 5 (by decide) tw_405 (fun _ h => h) rfl rfl rfl (by simp) d_T_become_55 (fun ws H locs hP hD hS u_22 => ?_)
        have z_23 : zin ws a (.inr (2, [.int num, .ref qa, .int rank, .ref g, .long key, .int new, .int tries, .int due, .int en, .int wk, .int tk, .int dn])) := u_22.1
        have z_24 := u_22.2 _ _ (zin_ne hD0 z_20 z_21 (by intro h; cases h)) z_20
        have hFr := zfrT_a hFr u_22
        exact z_vretR hx hb hr hlocks hP hD hS (⟨z_23, (fun g9 e9 => by cases e9; first | (simp only [gNew, *, reduceIte]; done) | (simp only [gNew, *, reduceIte]; exact z_24)), hFr⟩) d_T_become_58
set_option maxHeartbeats 4000000 in
set_option maxRecDepth 100000 in
theorem c_T_becomeWaiting (l : Launch) {D : va_G} {tys : List (ClassId × FieldType)} {ws : va_W} {H : Heap} (hP : va_P D vwCl ws H) {a qa : Nat} {ga : Option Nat} {num rank st tries due en wk tk dn : Int32} {key : Int64} (hz : zin ws a (.inr (2, [.int num, .ref qa, .int rank, va_rf ga, .long key, .int st, .int tries, .int due, .int en, .int wk, .int tk, .int dn]))) {limit lent : Int32} (hg : ∀ g, ga = some g → zin ws g (.inr (0, [.int limit, .int lent]))) {B : Nat} (hD : va_D (fun q => B ≤ q) ws) (v : Int32) : Met l y_T_becomeWaiting (Cond.code y_T_becomeWaiting b_T_becomeWaiting 2 none :: TT) ({ frames := 2, cells := 0, slots := 0, locals := 120 }) (zPc [.ref a, .int v] H D vwCl tys) (zR D vwCl B none (fun ws' => zin ws' a (.inr (2, [.int num, .ref qa, .int rank, va_rf ga, .long key, .int 0, .int tries, .int v, .int en, .int wk, .int tk, .int dn])) ∧ (∀ g, ga = some g → zin ws' g (.inr (0, [.int limit, .int (gNew st 0 lent)]))) ∧ zfrT a ga ws ws')) 0 0 (fun q => B ≤ q) := by
  refine z_body (by decide) (Nat.le_of_ble_eq_true rfl) ?_
  intro p e s m below meth c ls C0 hH hKN hl
  obtain ⟨hx, hb, hr, hts, hown, hlocks, hml⟩ := C0
  subst hH
  have hK := hKN.1
  have hN := hKN.2
  have hS : va_S (fun q => B ≤ q) s.heap s.heap [] := va_S.rf
  have hFr : zfrT a ga ws ws := zfrT_rf
  have hl : lv_has ls 2 [(0, .ref a), (1, .int v)] := hl
  refine lv_aload_n hx hb d_T_becomeWaiting_0 rfl (zl hl rfl) ?_
  refine lv_iconst (v := 0) hx hb d_T_becomeWaiting_1 (by decide) ?_
  have hD0 := hD
  refine z_call (va_runV (As := [.int 0]) (rest := []) ⟨hx, hb, hml, hown, hts⟩ (c_T_become l hP hz hg hD 0) (cwV 1 hts (tt_V tw_194 tw_211 tw_192 tw_193 tw_44) rfl rfl rfl (by decide +kernel) ⟨Nat.le_of_ble_eq_true rfl, Nat.le_of_ble_eq_true rfl⟩) (zPc_V hKN hP (ci := 2) (q := (R_T, F_T, 12)) rfl hz) rfl rfl hl.1 rfl (lv_room (Nat.le_of_ble_eq_true rfl)) d_T_becomeWaiting_2 ⟨Nat.le_of_ble_eq_true rfl, Nat.le_of_ble_eq_true rfl⟩) hS (fun ws H locs hR hP hD hz9 hS => ?_)
  obtain ⟨hz1, hg1, hFr⟩ := hR
  refine lv_aload_n hx hb d_T_becomeWaiting_5 rfl (zl hl rfl) ?_
  refine lv_iload_n hx hb d_T_becomeWaiting_6 rfl (zl hl rfl) ?_
  have hD0 := hD
  refine z_put (C := R_T) (T := F_T) (N := 12) (v := .int v) hx hb hts inT_T ft_T ft_T_ok fn_T hown hK hP hD hS hz1 rfl 7 (by decide) tw_409 (fun _ h => h) rfl rfl rfl (by simp) d_T_becomeWaiting_7 (fun ws H locs hP hD hS u_1 => ?_)
  have z_2 : zin ws a (.inr (2, [.int num, .ref qa, .int rank, va_rf ga, .long key, .int 0, .int tries, .int v, .int en, .int wk, .int tk, .int dn])) := u_1.1
  have hg1 := fun g (h : ga = some g) => u_1.2 _ _ (zin_ne hD0 (hg1 g h) hz1 (by intro h; cases h)) (hg1 g h)
  have hFr := zfrT_a hFr u_1
  exact z_vretR hx hb hr hlocks hP hD hS (⟨z_2, hg1, hFr⟩) d_T_becomeWaiting_10
set_option maxHeartbeats 4000000 in
set_option maxRecDepth 100000 in
theorem c_T_becomeDone (l : Launch) {D : va_G} {tys : List (ClassId × FieldType)} {ws : va_W} {H : Heap} (hP : va_P D vwCl ws H) {a qa : Nat} {ga : Option Nat} {num rank st tries due en wk tk dn : Int32} {key : Int64} (hz : zin ws a (.inr (2, [.int num, .ref qa, .int rank, va_rf ga, .long key, .int st, .int tries, .int due, .int en, .int wk, .int tk, .int dn]))) {limit lent : Int32} (hg : ∀ g, ga = some g → zin ws g (.inr (0, [.int limit, .int lent]))) {B : Nat} (hD : va_D (fun q => B ≤ q) ws) (v : Int32) : Met l y_T_becomeDone (Cond.code y_T_becomeDone b_T_becomeDone 2 none :: TT) ({ frames := 2, cells := 0, slots := 0, locals := 120 }) (zPc [.ref a, .int v] H D vwCl tys) (zR D vwCl B none (fun ws' => zin ws' a (.inr (2, [.int num, .ref qa, .int rank, va_rf ga, .long key, .int 2, .int tries, .int due, .int en, .int wk, .int tk, .int v])) ∧ (∀ g, ga = some g → zin ws' g (.inr (0, [.int limit, .int (gNew st 2 lent)]))) ∧ zfrT a ga ws ws')) 0 0 (fun q => B ≤ q) := by
  refine z_body (by decide) (Nat.le_of_ble_eq_true rfl) ?_
  intro p e s m below meth c ls C0 hH hKN hl
  obtain ⟨hx, hb, hr, hts, hown, hlocks, hml⟩ := C0
  subst hH
  have hK := hKN.1
  have hN := hKN.2
  have hS : va_S (fun q => B ≤ q) s.heap s.heap [] := va_S.rf
  have hFr : zfrT a ga ws ws := zfrT_rf
  have hl : lv_has ls 2 [(0, .ref a), (1, .int v)] := hl
  refine lv_aload_n hx hb d_T_becomeDone_0 rfl (zl hl rfl) ?_
  refine lv_iconst (v := 2) hx hb d_T_becomeDone_1 (by decide) ?_
  have hD0 := hD
  refine z_call (va_runV (As := [.int 2]) (rest := []) ⟨hx, hb, hml, hown, hts⟩ (c_T_become l hP hz hg hD 2) (cwV 1 hts (tt_V tw_194 tw_211 tw_192 tw_193 tw_44) rfl rfl rfl (by decide +kernel) ⟨Nat.le_of_ble_eq_true rfl, Nat.le_of_ble_eq_true rfl⟩) (zPc_V hKN hP (ci := 2) (q := (R_T, F_T, 12)) rfl hz) rfl rfl hl.1 rfl (lv_room (Nat.le_of_ble_eq_true rfl)) d_T_becomeDone_2 ⟨Nat.le_of_ble_eq_true rfl, Nat.le_of_ble_eq_true rfl⟩) hS (fun ws H locs hR hP hD hz9 hS => ?_)
  obtain ⟨hz1, hg1, hFr⟩ := hR
  refine lv_aload_n hx hb d_T_becomeDone_5 rfl (zl hl rfl) ?_
  refine lv_iload_n hx hb d_T_becomeDone_6 rfl (zl hl rfl) ?_
  have hD0 := hD
  refine z_put (C := R_T) (T := F_T) (N := 12) (v := .int v) hx hb hts inT_T ft_T ft_T_ok fn_T hown hK hP hD hS hz1 rfl 11 (by decide) tw_417 (fun _ h => h) rfl rfl rfl (by simp) d_T_becomeDone_7 (fun ws H locs hP hD hS u_1 => ?_)
  have z_2 : zin ws a (.inr (2, [.int num, .ref qa, .int rank, va_rf ga, .long key, .int 2, .int tries, .int due, .int en, .int wk, .int tk, .int v])) := u_1.1
  have hg1 := fun g (h : ga = some g) => u_1.2 _ _ (zin_ne hD0 (hg1 g h) hz1 (by intro h; cases h)) (hg1 g h)
  have hFr := zfrT_a hFr u_1
  exact z_vretR hx hb hr hlocks hP hD hS (⟨z_2, hg1, hFr⟩) d_T_becomeDone_10
set_option maxHeartbeats 4000000 in
set_option maxRecDepth 100000 in
theorem c_T_becomeLent (l : Launch) {D : va_G} {tys : List (ClassId × FieldType)} {ws : va_W} {H : Heap} (hP : va_P D vwCl ws H) {a qa : Nat} {ga : Option Nat} {num rank st tries due en wk tk dn : Int32} {key : Int64} (hz : zin ws a (.inr (2, [.int num, .ref qa, .int rank, va_rf ga, .long key, .int st, .int tries, .int due, .int en, .int wk, .int tk, .int dn]))) {limit lent : Int32} (hg : ∀ g, ga = some g → zin ws g (.inr (0, [.int limit, .int lent]))) {B : Nat} (hD : va_D (fun q => B ≤ q) ws) {loan most base top growth memory : Int32} (hq : zin ws qa (.inr (1, [.int loan, .int most, .int base, .int top, .int growth, .int memory]))) (v w now : Int32) : Met l y_T_becomeLent (Cond.code y_T_becomeLent b_T_becomeLent 4 none :: TT) ({ frames := 2, cells := 0, slots := 0, locals := 120 }) (zPc [.ref a, .int v, .int w, .int now] H D vwCl tys) (zR D vwCl B none (fun ws' => zin ws' a (.inr (2, [.int num, .ref qa, .int rank, va_rf ga, .long key, .int 1, .int (tries + 1), .int due, .int (now + loan), .int v, .int w, .int dn])) ∧ (∀ g, ga = some g → zin ws' g (.inr (0, [.int limit, .int (gNew st 1 lent)]))) ∧ zfrT a ga ws ws')) 0 0 (fun q => B ≤ q) := by
  refine z_body (by decide) (Nat.le_of_ble_eq_true rfl) ?_
  intro p e s m below meth c ls C0 hH hKN hl
  obtain ⟨hx, hb, hr, hts, hown, hlocks, hml⟩ := C0
  subst hH
  have hK := hKN.1
  have hN := hKN.2
  have hS : va_S (fun q => B ≤ q) s.heap s.heap [] := va_S.rf
  have hFr : zfrT a ga ws ws := zfrT_rf
  have hl : lv_has ls 4 [(0, .ref a), (1, .int v), (2, .int w), (3, .int now)] := hl
  refine lv_aload_n hx hb d_T_becomeLent_0 rfl (zl hl rfl) ?_
  refine lv_iconst (v := 1) hx hb d_T_becomeLent_1 (by decide) ?_
  have hD0 := hD
  refine z_call (va_runV (As := [.int 1]) (rest := []) ⟨hx, hb, hml, hown, hts⟩ (c_T_become l hP hz hg hD 1) (cwV 1 hts (tt_V tw_194 tw_211 tw_192 tw_193 tw_44) rfl rfl rfl (by decide +kernel) ⟨Nat.le_of_ble_eq_true rfl, Nat.le_of_ble_eq_true rfl⟩) (zPc_V hKN hP (ci := 2) (q := (R_T, F_T, 12)) rfl hz) rfl rfl hl.1 rfl (lv_room (Nat.le_of_ble_eq_true rfl)) d_T_becomeLent_2 ⟨Nat.le_of_ble_eq_true rfl, Nat.le_of_ble_eq_true rfl⟩) hS (fun ws H locs hR hP hD hz9 hS => ?_)
  obtain ⟨hz1, hg1, hFr⟩ := hR
  have hq1 := zfrT_q hD0 hFr hz (fun g h => ⟨_, hg g h⟩) hq (by intro h; cases h) (by intro x h; cases h)
  refine lv_aload_n hx hb d_T_becomeLent_5 rfl (zl hl rfl) ?_
  refine lv_dup hx hb d_T_becomeLent_6 rfl ?_
  refine z_get (C := R_T) (T := F_T) (N := 12) (v := .int tries) hx hb hts inT_T hown hK hP hz1 rfl 6 (by decide) tw_407 (fun _ h => h) rfl d_T_becomeLent_7 ?_
  refine lv_iconst (v := 1) hx hb d_T_becomeLent_10 (by decide) ?_
  refine lv_iadd hx hb d_T_becomeLent_11 ?_
  have hD0 := hD
  refine z_put (C := R_T) (T := F_T) (N := 12) (v := .int (tries + 1)) hx hb hts inT_T ft_T ft_T_ok fn_T hown hK hP hD hS hz1 rfl 6 (by decide) tw_407 (fun _ h => h) rfl rfl rfl (by simp) d_T_becomeLent_12 (fun ws H locs hP hD hS u_1 => ?_)
  have z_2 : zin ws a (.inr (2, [.int num, .ref qa, .int rank, va_rf ga, .long key, .int 1, .int (tries + 1), .int due, .int en, .int wk, .int tk, .int dn])) := u_1.1
  have z_3 := u_1.2 _ _ (zin_ne hD0 hq1 hz1 (by intro h; cases h)) hq1
  have hg1 := fun g (h : ga = some g) => u_1.2 _ _ (zin_ne hD0 (hg1 g h) hz1 (by intro h; cases h)) (hg1 g h)
  have hFr := zfrT_a hFr u_1
  refine lv_aload_n hx hb d_T_becomeLent_15 rfl (zl hl rfl) ?_
  refine lv_iload_n hx hb d_T_becomeLent_16 rfl (zl hl rfl) ?_
  have hD0 := hD
  refine z_put (C := R_T) (T := F_T) (N := 12) (v := .int v) hx hb hts inT_T ft_T ft_T_ok fn_T hown hK hP hD hS z_2 rfl 9 (by decide) tw_413 (fun _ h => h) rfl rfl rfl (by simp) d_T_becomeLent_17 (fun ws H locs hP hD hS u_4 => ?_)
  have z_5 : zin ws a (.inr (2, [.int num, .ref qa, .int rank, va_rf ga, .long key, .int 1, .int (tries + 1), .int due, .int en, .int v, .int tk, .int dn])) := u_4.1
  have z_6 := u_4.2 _ _ (zin_ne hD0 z_3 z_2 (by intro h; cases h)) z_3
  have hg1 := fun g (h : ga = some g) => u_4.2 _ _ (zin_ne hD0 (hg1 g h) z_2 (by intro h; cases h)) (hg1 g h)
  have hFr := zfrT_a hFr u_4
  refine lv_aload_n hx hb d_T_becomeLent_20 rfl (zl hl rfl) ?_
  refine lv_iload_n hx hb d_T_becomeLent_21 rfl (zl hl rfl) ?_
  have hD0 := hD
  refine z_put (C := R_T) (T := F_T) (N := 12) (v := .int w) hx hb hts inT_T ft_T ft_T_ok fn_T hown hK hP hD hS z_5 rfl 10 (by decide) tw_415 (fun _ h => h) rfl rfl rfl (by simp) d_T_becomeLent_22 (fun ws H locs hP hD hS u_7 => ?_)
  have z_8 : zin ws a (.inr (2, [.int num, .ref qa, .int rank, va_rf ga, .long key, .int 1, .int (tries + 1), .int due, .int en, .int v, .int w, .int dn])) := u_7.1
  have z_9 := u_7.2 _ _ (zin_ne hD0 z_6 z_5 (by intro h; cases h)) z_6
  have hg1 := fun g (h : ga = some g) => u_7.2 _ _ (zin_ne hD0 (hg1 g h) z_5 (by intro h; cases h)) (hg1 g h)
  have hFr := zfrT_a hFr u_7
  refine lv_aload_n hx hb d_T_becomeLent_25 rfl (zl hl rfl) ?_
  refine lv_iload_n hx hb d_T_becomeLent_26 rfl (zl hl rfl) ?_
  refine lv_aload_n hx hb d_T_becomeLent_27 rfl (zl hl rfl) ?_
  refine z_get (C := R_T) (T := F_T) (N := 12) (v := .ref qa) hx hb hts inT_T hown hK hP z_8 rfl 1 (by decide) tw_399 (fun _ h => h) rfl d_T_becomeLent_28 ?_
  refine z_get (C := R_Q) (T := F_Q) (N := 6) (v := .int loan) hx hb hts inT_Q hown hK hP z_9 rfl 0 (by decide) tw_95 (fun _ h => h) rfl d_T_becomeLent_31 ?_
  refine lv_iadd hx hb d_T_becomeLent_34 ?_
  have hD0 := hD
  refine z_put (C := R_T) (T := F_T) (N := 12) (v := .int (now + loan)) hx hb hts inT_T ft_T ft_T_ok fn_T hown hK hP hD hS z_8 rfl 8 (by decide) tw_411 (fun _ h => h) rfl rfl rfl (by simp) d_T_becomeLent_35 (fun ws H locs hP hD hS u_10 => ?_)
  have z_11 : zin ws a (.inr (2, [.int num, .ref qa, .int rank, va_rf ga, .long key, .int 1, .int (tries + 1), .int due, .int (now + loan), .int v, .int w, .int dn])) := u_10.1
  have z_12 := u_10.2 _ _ (zin_ne hD0 z_9 z_8 (by intro h; cases h)) z_9
  have hg1 := fun g (h : ga = some g) => u_10.2 _ _ (zin_ne hD0 (hg1 g h) z_8 (by intro h; cases h)) (hg1 g h)
  have hFr := zfrT_a hFr u_10
  exact z_vretR hx hb hr hlocks hP hD hS (⟨z_11, hg1, hFr⟩) d_T_becomeLent_38
set_option maxHeartbeats 4000000 in
set_option maxRecDepth 100000 in
theorem c_T_tryAgain (l : Launch) {D : va_G} {tys : List (ClassId × FieldType)} {ws : va_W} {H : Heap} (hP : va_P D vwCl ws H) {a qa : Nat} {ga : Option Nat} {num rank st tries due en wk tk dn : Int32} {key : Int64} (hz : zin ws a (.inr (2, [.int num, .ref qa, .int rank, va_rf ga, .long key, .int st, .int tries, .int due, .int en, .int wk, .int tk, .int dn]))) {limit lent : Int32} (hg : ∀ g, ga = some g → zin ws g (.inr (0, [.int limit, .int lent]))) {B : Nat} (hD : va_D (fun q => B ≤ q) ws) {loan most base top growth memory : Int32} (hq : zin ws qa (.inr (1, [.int loan, .int most, .int base, .int top, .int growth, .int memory]))) (now : Int32) : Met l y_T_tryAgain (Cond.code y_T_tryAgain b_T_tryAgain 2 none :: TT) ({ frames := 3, cells := 0, slots := 0, locals := 180 }) (zPc [.ref a, .int now] H D vwCl tys) (zR D vwCl B none (fun ws' => zin ws' a (.inr (2, [.int num, .ref qa, .int rank, va_rf ga, .long key, .int (if tries < most then 0 else 3), .int tries, .int (if tries < most then now + sPause base top tries else due), .int en, .int wk, .int tk, .int dn])) ∧ (∀ g, ga = some g → zin ws' g (.inr (0, [.int limit, .int (gNew st (if tries < most then 0 else 3) lent)]))) ∧ zfrT a ga ws ws')) 0 0 (fun q => B ≤ q) := by
  refine z_body (by decide) (Nat.le_of_ble_eq_true rfl) ?_
  intro p e s m below meth c ls C0 hH hKN hl
  obtain ⟨hx, hb, hr, hts, hown, hlocks, hml⟩ := C0
  subst hH
  have hK := hKN.1
  have hN := hKN.2
  have hS : va_S (fun q => B ≤ q) s.heap s.heap [] := va_S.rf
  have hFr : zfrT a ga ws ws := zfrT_rf
  have hl : lv_has ls 2 [(0, .ref a), (1, .int now)] := hl
  refine lv_aload_n hx hb d_T_tryAgain_0 rfl (zl hl rfl) ?_
  refine z_get (C := R_T) (T := F_T) (N := 12) (v := .int tries) hx hb hts inT_T hown hK hP hz rfl 6 (by decide) tw_407 (fun _ h => h) rfl d_T_tryAgain_1 ?_
  refine lv_aload_n hx hb d_T_tryAgain_4 rfl (zl hl rfl) ?_
  refine z_get (C := R_T) (T := F_T) (N := 12) (v := .ref qa) hx hb hts inT_T hown hK hP hz rfl 1 (by decide) tw_399 (fun _ h => h) rfl d_T_tryAgain_5 ?_
  refine z_get (C := R_Q) (T := F_Q) (N := 6) (v := .int most) hx hb hts inT_Q hown hK hP hq rfl 1 (by decide) tw_97 (fun _ h => h) rfl d_T_tryAgain_8 ?_
  refine lv_icmp_lt (tgt := 22) hx hb d_T_tryAgain_11 (by decide) (fun c_1 => ?_) (fun c_1 => ?_)
  · have b1 := c_1
    refine lv_aload_n hx hb d_T_tryAgain_22 rfl (zl hl rfl) ?_
    refine lv_iload_n hx hb d_T_tryAgain_23 rfl (zl hl rfl) ?_
    refine lv_aload_n hx hb d_T_tryAgain_24 rfl (zl hl rfl) ?_
    refine z_get (C := R_T) (T := F_T) (N := 12) (v := .ref qa) hx hb hts inT_T hown hK hP hz rfl 1 (by decide) tw_399 (fun _ h => h) rfl d_T_tryAgain_25 ?_
    refine lv_aload_n hx hb d_T_tryAgain_28 rfl (zl hl rfl) ?_
    refine z_get (C := R_T) (T := F_T) (N := 12) (v := .int tries) hx hb hts inT_T hown hK hP hz rfl 6 (by decide) tw_407 (fun _ h => h) rfl d_T_tryAgain_29 ?_
    refine z_calli (va_runV (As := [.int tries]) (rest := [.int now, .ref a]) ⟨hx, hb, hml, hown, hts⟩ (c_Q_pauseAfter l hP hq tries) (cwV 1 hts (tt_V tw_544 tw_541 tw_542 tw_543 tw_34) rfl rfl rfl (by decide +kernel) ⟨Nat.le_of_ble_eq_true rfl, Nat.le_of_ble_eq_true rfl⟩) (zPc_V hKN hP (ci := 1) (q := (R_Q, F_Q, 6)) rfl hq) rfl rfl hl.1 rfl (lv_room (Nat.le_of_ble_eq_true rfl)) d_T_tryAgain_32 ⟨Nat.zero_le _, Nat.zero_le _⟩) hS (fun locs hS => ?_)
    refine lv_iadd hx hb d_T_tryAgain_35 ?_
    refine z_call (va_runV (As := [.int (now + (sPause base top tries))]) (rest := []) ⟨hx, hb, hml, hown, hts⟩ (c_T_becomeWaiting l hP hz hg hD (now + (sPause base top tries))) (cwV 1 hts (tt_V tw_210 tw_546 tw_208 tw_209 tw_44) rfl rfl rfl (by decide +kernel) ⟨Nat.le_of_ble_eq_true rfl, Nat.le_of_ble_eq_true rfl⟩) (zPc_V hKN hP (ci := 2) (q := (R_T, F_T, 12)) rfl hz) rfl rfl hl.1 rfl (lv_room (Nat.le_of_ble_eq_true rfl)) d_T_tryAgain_36 ⟨Nat.le_of_ble_eq_true rfl, Nat.le_of_ble_eq_true rfl⟩) hS (fun ws H locs hR hP hD hz9 hS => ?_)
    obtain ⟨hz1, hg1, hFr⟩ := hR
    exact z_vretR hx hb hr hlocks hP hD hS (⟨by first | (simp only [if_pos b1]; exact hz1) | (simp only [if_neg b1]; exact hz1), by first | (simp only [if_pos b1]; exact hg1) | (simp only [if_neg b1]; exact hg1), hFr⟩) d_T_tryAgain_39
  · have b1 : ¬ _ := c_1
    refine lv_aload_n hx hb d_T_tryAgain_14 rfl (zl hl rfl) ?_
    refine lv_iconst (v := 3) hx hb d_T_tryAgain_15 (by decide) ?_
    have hD0 := hD
    refine z_call (va_runV (As := [.int 3]) (rest := []) ⟨hx, hb, hml, hown, hts⟩ (c_T_become l hP hz hg hD 3) (cwV 1 hts (tt_V tw_194 tw_211 tw_192 tw_193 tw_44) rfl rfl rfl (by decide +kernel) ⟨Nat.le_of_ble_eq_true rfl, Nat.le_of_ble_eq_true rfl⟩) (zPc_V hKN hP (ci := 2) (q := (R_T, F_T, 12)) rfl hz) rfl rfl hl.1 rfl (lv_room (Nat.le_of_ble_eq_true rfl)) d_T_tryAgain_16 ⟨Nat.le_of_ble_eq_true rfl, Nat.le_of_ble_eq_true rfl⟩) hS (fun ws H locs hR hP hD hz9 hS => ?_)
    obtain ⟨hz1, hg1, hFr⟩ := hR
    have hq1 := zfrT_q hD0 hFr hz (fun g h => ⟨_, hg g h⟩) hq (by intro h; cases h) (by intro x h; cases h)
    refine lv_goto (tgt := 39) hx hb d_T_tryAgain_19 (by decide) ?_
    exact z_vretR hx hb hr hlocks hP hD hS (⟨by first | (simp only [if_pos b1]; exact hz1) | (simp only [if_neg b1]; exact hz1), by first | (simp only [if_pos b1]; exact hg1) | (simp only [if_neg b1]; exact hg1), hFr⟩) d_T_tryAgain_39
end
section
-- the class's picture
def gref (f : FF) (gad : Nat → Nat) (k : Nat) : Option Nat := if f 3 k = -1 then none else some (gad (gx f k))
def tcl (qad gad : Nat → Nat) (f : FF) (ky : Nat → Int64) (h : FF) (k : Nat) : va_E := .inr (2, [.int (nI k), .ref (qad (qx f k)), .int (f 2 k), va_rf (gref f gad k), .long (ky k), .int (f 6 k), .int (f 5 k), .int (h 0 k), .int (h 1 k), .int (h 2 k), .int (h 3 k), .int (h 4 k)])
def qcl (f : FF) (i : Nat) : va_E := .inr (1, [.int (f 10 (6 * i)), .int (f 10 (6 * i + 1)), .int (f 10 (6 * i + 2)), .int (f 10 (6 * i + 3)), .int (f 10 (6 * i + 4)), .int (f 10 (6 * i + 5))])
def gcl (f : FF) (n i : Nat) : va_E := .inr (0, [.int (f 11 i), .int (nI (cnt (pLent f (nI i)) n))])
def rel (f h : FF) (n : Nat) : Prop := ∀ k, k < n → (f 6 k = 0 → h 0 k = f 7 k) ∧ (f 6 k = 1 → h 1 k = f 7 k ∧ h 2 k = f 8 k ∧ h 3 k = f 9 k) ∧ (f 6 k = 2 → h 4 k = f 7 k)
def PX (kk : Nat → ClassId) (xa qad gad tad : Nat → Nat) (e0 : Nat) (time tok : Int32) (n : Nat) (f : FF) (ky : Nat → Int64) (h : FF) (qar gar arr : Nat → Option Nat) (ea cap : Nat) (md : Int32) (ws : va_W) : Prop :=
  zin ws (xa 0) (.inr (3, [.ref (xa 1), .ref (xa 2), .ref (xa 3), .int time, .int tok])) ∧ zin ws (xa 1) (.inl (kk 2, 4, .inr (.inr (.inr (.inr qar))))) ∧ zin ws (xa 2) (.inl (kk 3, 8, .inr (.inr (.inr (.inr gar))))) ∧ zin ws (xa 3) (.inr (5, [.ref ea, .int (nI n), .int md])) ∧
  ((n = 0 ∧ ea = e0) ∨ (zin ws ea (.inl (kk 4, cap, .inr (.inr (.inr (.inr arr))))) ∧ n ≤ cap ∧ 10 ≤ cap ∧ cap < 1000)) ∧ (∀ i, i < 4 → qar i = some (qad i) ∧ zin ws (qad i) (qcl f i)) ∧ (∀ i, i < 8 → gar i = some (gad i) ∧ zin ws (gad i) (gcl f n i)) ∧
  (∀ k, k < n → arr k = some (tad k) ∧ zin ws (tad k) (tcl qad gad f ky h k)) ∧ okq f n ∧ okg f n ∧ rel f h n ∧ (∀ i j, i < 4 → j < 4 → qad i = qad j → i = j) ∧ (∀ i j, i < 8 → j < 8 → gad i = gad j → i = j) ∧ n ≤ 400
section PXS
variable {kk : Nat → ClassId} {xa qad gad tad : Nat → Nat} {e0 : Nat} {time tok : Int32} {n : Nat} {f : FF} {ky : Nat → Int64} {h : FF} {qar gar arr : Nat → Option Nat} {ea cap : Nat} {md : Int32} {ws : va_W}
theorem PX_x (hX : PX kk xa qad gad tad e0 time tok n f ky h qar gar arr ea cap md ws) : zin ws (xa 0) (.inr (3, [.ref (xa 1), .ref (xa 2), .ref (xa 3), .int time, .int tok])) := hX.1
theorem PX_qa (hX : PX kk xa qad gad tad e0 time tok n f ky h qar gar arr ea cap md ws) : zin ws (xa 1) (.inl (kk 2, 4, .inr (.inr (.inr (.inr qar))))) := hX.2.1
theorem PX_ga (hX : PX kk xa qad gad tad e0 time tok n f ky h qar gar arr ea cap md ws) : zin ws (xa 2) (.inl (kk 3, 8, .inr (.inr (.inr (.inr gar))))) := hX.2.2.1
theorem PX_l (hX : PX kk xa qad gad tad e0 time tok n f ky h qar gar arr ea cap md ws) : zin ws (xa 3) (.inr (5, [.ref ea, .int (nI n), .int md])) := hX.2.2.2.1
theorem PX_e (hX : PX kk xa qad gad tad e0 time tok n f ky h qar gar arr ea cap md ws) {i : Nat} (hi : i < n) : zin ws ea (.inl (kk 4, cap, .inr (.inr (.inr (.inr arr))))) ∧ n ≤ cap ∧ 10 ≤ cap ∧ cap < 1000 := by
  rcases hX.2.2.2.2.1 with z | z
  · omega
  · exact z
theorem PX_q (hX : PX kk xa qad gad tad e0 time tok n f ky h qar gar arr ea cap md ws) {i : Nat} (hi : i < 4) : zin ws (qad i) (.inr (1, [.int (f 10 (6 * i)), .int (f 10 (6 * i + 1)), .int (f 10 (6 * i + 2)), .int (f 10 (6 * i + 3)), .int (f 10 (6 * i + 4)), .int (f 10 (6 * i + 5))])) := (hX.2.2.2.2.2.1 i hi).2
theorem PX_qr (hX : PX kk xa qad gad tad e0 time tok n f ky h qar gar arr ea cap md ws) {i : Nat} (hi : i < 4) : qar i = some (qad i) := (hX.2.2.2.2.2.1 i hi).1
theorem PX_g (hX : PX kk xa qad gad tad e0 time tok n f ky h qar gar arr ea cap md ws) {i : Nat} (hi : i < 8) : zin ws (gad i) (.inr (0, [.int (f 11 i), .int (nI (cnt (pLent f (nI i)) n))])) := (hX.2.2.2.2.2.2.1 i hi).2
theorem PX_gr (hX : PX kk xa qad gad tad e0 time tok n f ky h qar gar arr ea cap md ws) {i : Nat} (hi : i < 8) : gar i = some (gad i) := (hX.2.2.2.2.2.2.1 i hi).1
theorem PX_t (hX : PX kk xa qad gad tad e0 time tok n f ky h qar gar arr ea cap md ws) {k : Nat} (hk : k < n) : zin ws (tad k) (.inr (2, [.int (nI k), .ref (qad (qx f k)), .int (f 2 k), va_rf (gref f gad k), .long (ky k), .int (f 6 k), .int (f 5 k), .int (h 0 k), .int (h 1 k), .int (h 2 k), .int (h 3 k), .int (h 4 k)])) := (hX.2.2.2.2.2.2.2.1 k hk).2
theorem PX_tq (hX : PX kk xa qad gad tad e0 time tok n f ky h qar gar arr ea cap md ws) {k qi : Nat} (hk : k < n) (hq : qx f k = qi) : zin ws (tad k) (.inr (2, [.int (nI k), .ref (qad qi), .int (f 2 k), va_rf (gref f gad k), .long (ky k), .int (f 6 k), .int (f 5 k), .int (h 0 k), .int (h 1 k), .int (h 2 k), .int (h 3 k), .int (h 4 k)])) := by
  subst hq
  exact PX_t hX hk
theorem PX_tr (hX : PX kk xa qad gad tad e0 time tok n f ky h qar gar arr ea cap md ws) {k : Nat} (hk : k < n) : arr k = some (tad k) := (hX.2.2.2.2.2.2.2.1 k hk).1
theorem PX_okq (hX : PX kk xa qad gad tad e0 time tok n f ky h qar gar arr ea cap md ws) : okq f n := hX.2.2.2.2.2.2.2.2.1
theorem PX_okg (hX : PX kk xa qad gad tad e0 time tok n f ky h qar gar arr ea cap md ws) : okg f n := hX.2.2.2.2.2.2.2.2.2.1
theorem PX_rel (hX : PX kk xa qad gad tad e0 time tok n f ky h qar gar arr ea cap md ws) : rel f h n := hX.2.2.2.2.2.2.2.2.2.2.1
theorem PX_qi (hX : PX kk xa qad gad tad e0 time tok n f ky h qar gar arr ea cap md ws) : ∀ i j, i < 4 → j < 4 → qad i = qad j → i = j := hX.2.2.2.2.2.2.2.2.2.2.2.1
theorem PX_gi (hX : PX kk xa qad gad tad e0 time tok n f ky h qar gar arr ea cap md ws) : ∀ i j, i < 8 → j < 8 → gad i = gad j → i = j := hX.2.2.2.2.2.2.2.2.2.2.2.2.1
theorem PX_n (hX : PX kk xa qad gad tad e0 time tok n f ky h qar gar arr ea cap md ws) : n ≤ 400 := hX.2.2.2.2.2.2.2.2.2.2.2.2.2
/-- a task's group, as its methods ask for it -/
theorem PX_tg (hX : PX kk xa qad gad tad e0 time tok n f ky h qar gar arr ea cap md ws) {k : Nat} (hk : k < n) : ∀ g, gref f gad k = some g → zin ws g (.inr (0, [.int (f 11 (gx f k)), .int (nI (cnt (pLent f (f 3 k)) n))])) := by
  intro g hg
  unfold gref at hg
  by_cases h3 : f 3 k = -1
  · rw [if_pos h3] at hg
    cases hg
  · rw [if_neg h3] at hg
    cases hg
    obtain ⟨e1, e2⟩ := (PX_okg hX k hk).resolve_left h3
    rw [e1]
    exact PX_g hX e2
theorem had_eq (hX : PX kk xa qad gad tad e0 time tok n f ky h qar gar arr ea cap md ws) {k : Nat} (hk : k < n) : sHad (f 6 k) (h 0 k) time (gref f gad k) (f 11 (gx f k)) (nI (cnt (pLent f (f 3 k)) n)) = pHad f time n k := by
  unfold sHad pHad sDue gref
  by_cases h0 : f 6 k = 0
  · rw [((PX_rel hX k hk).1 h0)]
    by_cases h3 : f 3 k = -1
    · simp [h3]
    · simp [h3]
  · simp [h0]
theorem key_eq (hX : PX kk xa qad gad tad e0 time tok n f ky h qar gar arr ea cap md ws) {t qi : Nat} (ht : t < n) {k : Int64} (hk0 : ¬ k = 0) (hqi : qi < 4) : pKey f ky time qi k t = (decide (qx f t = qi) && decide (ky t = k) && sHold (f 6 t) (f 10 (6 * qx f t + 5)) (h 4 t) time) := by
  have h1 := PX_okq hX t ht
  unfold pKey sHold
  by_cases hq : qx f t = qi
  · rw [h1.1, hq]
    by_cases h2 : f 6 t = 2
    · rw [(PX_rel hX t ht).2.2 h2]
      simp [hk0]
    · simp [hk0, h2]
  · have : ¬ f 1 t = nI qi := fun z => hq (by rw [h1.1] at z; exact (nI_eq (by omega) (by omega)).mp z)
    simp [hq, this]
theorem better_eq (hX : PX kk xa qad gad tad e0 time tok n f ky h qar gar arr ea cap md ws) {i b qi : Nat} (hi : i < n) (hb : b < i) (qi1 : qx f i = qi) (qb : qx f b = qi) (hi0 : pHad f time n i = true) (hb0 : pHad f time n b = true) :
    sBefore (sWeight (f 2 i) (f 10 (6 * qi + 4)) (h 0 i) time) (sWeight (f 2 b) (f 10 (6 * qi + 4)) (h 0 b) time) (h 0 i) (h 0 b) (nI i) (nI b) = fBetter f time (some b) i := by
  have n1 := PX_n hX
  have e1 : f 6 i = 0 := by simp only [pHad, Bool.and_eq_true, decide_eq_true_eq] at hi0; exact hi0.1.1
  have e2 : f 6 b = 0 := by simp only [pHad, Bool.and_eq_true, decide_eq_true_eq] at hb0; exact hb0.1.1
  rw [(PX_rel hX i hi).1 e1, (PX_rel hX b (by omega)).1 e2]
  have w1 : sWeight (f 2 i) (f 10 (6 * qi + 4)) (f 7 i) time = wgt f time i := by unfold wgt; rw [qi1]
  have w2 : sWeight (f 2 b) (f 10 (6 * qi + 4)) (f 7 b) time = wgt f time b := by unfold wgt; rw [qb]
  rw [w1, w2]
  unfold sBefore fBetter
  have nn : ¬ nI i < nI b := nI_nlt (by omega) (by omega)
  by_cases hw : wgt f time i = wgt f time b
  · rw [if_pos hw, hw]
    have n0 : ¬ wgt f time b < wgt f time b := Int32.lt_irrefl
    by_cases hd : f 7 i = f 7 b
    · rw [if_pos hd, hd]
      have n2 : ¬ f 7 b < f 7 b := Int32.lt_irrefl
      simp [n0, nn, n2]
    · rw [if_neg hd]
      simp [n0]
  · rw [if_neg hw]
    simp [hw]
end PXS
theorem live_eq (f : FF) : ∀ n, nI (cnt (pSt f 0) n) + nI (cnt (pSt f 1) n) = nI (cnt (pLive f) n) := by
  intro n
  rw [nI_add]
  congr 1
  induction n with
  | zero => rfl
  | succ n ih =>
    show (cnt (pSt f 0) n + (if pSt f 0 n = true then 1 else 0)) + (cnt (pSt f 1) n + (if pSt f 1 n = true then 1 else 0)) = cnt (pLive f) n + (if pLive f n = true then 1 else 0)
    rw [← ih]
    unfold pSt pLive sLive
    by_cases h0 : f 6 n = 0
    · simp [h0]
      omega
    · by_cases h1 : f 6 n = 1
      · simp [h1]
        omega
      · simp [h0, h1]
def qRef (qad : Nat → Nat) (q : Int32) : Option Nat := if sWithin q 0 3 = true then some (qad (tx q)) else none
def gRef (gad : Nat → Nat) (g : Int32) : Option Nat := if sWithin g 0 7 = true then some (gad (tx g)) else none
def tRef (tad : Nat → Nat) (n : Nat) (t : Int32) : Option Nat := if sTask t n = true then some (tad (tx t)) else none
theorem task_in (t : Int32) {n : Nat} (hn : n < 2 ^ 31) : sWithin t 0 (nI n - 1) = sTask t n := by
  rw [pr_sub]
  unfold sWithin sTask
  by_cases h0 : 0 ≤ t
  · obtain ⟨j, hj, rfl⟩ := nI_of (x := t) (Int32.not_lt.mpr h0)
    have e : nI j ≤ pr n ↔ nI j < nI n := by
      cases n with
      | zero =>
        have a1 : ¬ nI j ≤ pr 0 := fun z => absurd (Int32.le_trans h0 z) (by decide)
        have a2 : ¬ nI j < nI 0 := fun z => absurd ((nI_ltI hj (by omega)).mp z) (by omega)
        exact ⟨fun z => absurd z a1, fun z => absurd z a2⟩
      | succ k =>
        show nI j ≤ nI k ↔ _
        rw [nI_leI hj (by omega), nI_ltI hj hn]
        omega
    simp [e]
  · simp [h0]
section ZR2
variable {p : Program} {l : Launch} {e : Env} {R : Room} {s : State} {m : MethodId} {args : Array Value} {below : List Frame} {meth : Method} {c : Code} {H : Heap} {locs : List Loc} {cells slots : Nat} {Q : State → Prop}
variable {cc : ByteArray} {pc : Nat} {ls : Array Slot} {rest st0 : List Value} {D : va_G} {cl : List vw_C} {A : Nat → Prop} {a : Nat} {tys : List (ClassId × FieldType)} {ws : va_W} {H0 : Heap}
theorem z_aaldS (hx : p.tables.exec = Jvm.exec) (hb : c.code = cc) (hK : va_K D cl tys s) (hP : va_P D cl ws H) (t0 : Nat) {cA : ClassId} {C : String} {n : Nat} {f : Nat → Option Nat} (hz : zin ws a (.inl (cA, n, .inr (.inr (.inr (.inr f)))))) (ht : tys[t0]? = some (cA, .object C)) {i : Int32} (j : Nat) (hj : i = nI j) (hn : j < n) (hN : n < 2 ^ 31) {y : Nat} (hy : f j = some y) (hdg : decode cc pc = .ok (.aaload, 1))
    (kk : W p l e R s m args below meth c H locs cells slots Q (F0 m (pc + 1) ls (.ref y :: rest))) : W p l e R s m args below meth c H locs cells slots Q (F0 m pc ls (.int i :: .ref a :: rest)) := by
  refine z_aald hx hb hK hP t0 hz ht j hj hn hN hdg ?_
  rw [hy]
  exact kk
theorem z_cast (hx : p.tables.exec = Jvm.exec) (hb : c.code = cc) {own : String} {ci index : Nat} {q : vw_C} {fs : List Value} (hts : ∀ w ∈ TT, w.before args s = true) (hown : s.vm.findClass own = some m.cls) (hlink : Cond.classLink own index q.1 ∈ TT) (hK : va_K D cl tys s) (hP : va_P D cl ws H) (hz : zin ws a (.inr (ci, fs))) (hc : cl[ci]? = some q) (hdg : decode cc pc = .ok (.checkcast index, 3))
    (kk : W p l e R s m args below meth c H locs cells slots Q (F0 m (pc + 3) ls (.ref a :: rest))) : W p l e R s m args below meth c H locs cells slots Q (F0 m pc ls (.ref a :: rest)) :=
  va_castS hx hb hown (hts _ hlink) (hK.1 ci q hc).2 (va_recv hK (z_P hP hz) hc (q0 := 0) rfl) hdg kk
end ZR2
set_option maxHeartbeats 4000000 in
set_option maxRecDepth 100000 in
theorem c_A_size (l : Launch) {D : va_G} {tys : List (ClassId × FieldType)} {ws : va_W} {H : Heap} (hP : va_P D vwCl ws H) {la ea : Nat} {sz md : Int32} (hz : zin ws la (.inr (5, [.ref ea, .int sz, .int md]))) : Met l y_A_size (Cond.code y_A_size b_A_size 1 (some .int) :: TT) ({ frames := 1, cells := 0, slots := 0, locals := 60 }) (zPc [.ref la] H D vwCl tys) (zQi sz H) 0 0 (fun _ => False) := by
  refine z_body (by decide) (Nat.le_of_ble_eq_true rfl) ?_
  intro p e s m below meth c ls C0 hH hKN hl
  obtain ⟨hx, hb, hr, hts, hown, hlocks, hml⟩ := C0
  subst hH
  have hK := hKN.1
  have hN := hKN.2
  have hS : va_S (fun _ => False) s.heap s.heap [] := va_S.rf
  have hl : lv_has ls 1 [(0, .ref la)] := hl
  refine lv_aload_n hx hb d_A_size_0 rfl (zl hl rfl) ?_
  refine z_get (C := R_A) (T := F_A) (N := 3) (v := .int sz) hx hb hts inT_A hown hK hP hz rfl 1 (by decide) tw_77 (fun _ h => h) rfl d_A_size_1 ?_
  exact z_iret hx hb hr hlocks hS (rfl) d_A_size_4
set_option maxHeartbeats 4000000 in
set_option maxRecDepth 100000 in
theorem c_P_checkIndex (l : Launch) {D : va_G} {tys : List (ClassId × FieldType)} {ws : va_W} {H : Heap} (hP : va_P D vwCl ws H) (i n : Nat) (hi : i < n) (hn : n < 2 ^ 31) : Met l y_P_checkIndex (Cond.code y_P_checkIndex b_P_checkIndex 3 (some .int) :: TT) ({ frames := 1, cells := 0, slots := 0, locals := 60 }) (zPc [.int (nI i), .int (nI n), .null] H D vwCl tys) (zQi (nI i) H) 0 0 (fun _ => False) := by
  refine z_body (by decide) (Nat.le_of_ble_eq_true rfl) ?_
  intro p e s m below meth c ls C0 hH hKN hl
  obtain ⟨hx, hb, hr, hts, hown, hlocks, hml⟩ := C0
  subst hH
  have hK := hKN.1
  have hN := hKN.2
  have hS : va_S (fun _ => False) s.heap s.heap [] := va_S.rf
  have hl : lv_has ls 3 [(0, .int (nI i)), (1, .int (nI n)), (2, .null)] := hl
  refine lv_iload_n hx hb d_P_checkIndex_0 rfl (zl hl rfl) ?_
  refine lv_if_lt (tgt := 9) hx hb d_P_checkIndex_1 (by decide) (fun c_1 => ?_) (fun c_1 => ?_)
  · exact absurd c_1 (nI_pos (by omega))
  · refine lv_iload_n hx hb d_P_checkIndex_4 rfl (zl hl rfl) ?_
    refine lv_iload_n hx hb d_P_checkIndex_5 rfl (zl hl rfl) ?_
    refine lv_icmp_lt (tgt := 16) hx hb d_P_checkIndex_6 (by decide) (fun c_2 => ?_) (fun c_2 => ?_)
    · refine lv_iload_n hx hb d_P_checkIndex_16 rfl (zl hl rfl) ?_
      exact z_iret hx hb hr hlocks hS (rfl) d_P_checkIndex_17
    · exact absurd (nI_lt hi hn) c_2
set_option maxHeartbeats 4000000 in
set_option maxRecDepth 100000 in
theorem c_O_checkIndex (l : Launch) {D : va_G} {tys : List (ClassId × FieldType)} {ws : va_W} {H : Heap} (hP : va_P D vwCl ws H) (i n : Nat) (hi : i < n) (hn : n < 2 ^ 31) : Met l y_O_checkIndex (Cond.code y_O_checkIndex b_O_checkIndex 2 (some .int) :: TT) ({ frames := 2, cells := 0, slots := 0, locals := 120 }) (zPc [.int (nI i), .int (nI n)] H D vwCl tys) (zQi (nI i) H) 0 0 (fun _ => False) := by
  refine z_body (by decide) (Nat.le_of_ble_eq_true rfl) ?_
  intro p e s m below meth c ls C0 hH hKN hl
  obtain ⟨hx, hb, hr, hts, hown, hlocks, hml⟩ := C0
  subst hH
  have hK := hKN.1
  have hN := hKN.2
  have hS : va_S (fun _ => False) s.heap s.heap [] := va_S.rf
  have hl : lv_has ls 2 [(0, .int (nI i)), (1, .int (nI n))] := hl
  refine lv_iload_n hx hb d_O_checkIndex_0 rfl (zl hl rfl) ?_
  refine lv_iload_n hx hb d_O_checkIndex_1 rfl (zl hl rfl) ?_
  refine lv_null hx hb d_O_checkIndex_2 ?_
  refine z_calli (va_runS (As := [.int (nI i), .int (nI n), .null]) (rest := []) ⟨hx, hb, hml, hown, hts⟩ (c_P_checkIndex l hP i n hi hn) (va_cwS 3 hts (tt_S tw_170 tw_168 tw_169 tw_42) rfl rfl rfl (by decide +kernel) ⟨Nat.le_of_ble_eq_true rfl, Nat.le_of_ble_eq_true rfl⟩) (zPc_S hKN) rfl rfl hl.1 rfl (lv_room (Nat.le_of_ble_eq_true rfl)) d_O_checkIndex_3 ⟨Nat.zero_le _, Nat.zero_le _⟩) hS (fun locs hS => ?_)
  exact z_iret hx hb hr hlocks hS (rfl) d_O_checkIndex_6
set_option maxHeartbeats 4000000 in
set_option maxRecDepth 100000 in
theorem c_A_elementData (l : Launch) {D : va_G} {ws : va_W} {H : Heap} (hP : va_P D vwCl ws H) {kk : Nat → ClassId} {la ea : Nat} {sz md : Int32} {cap : Nat} {arr : Nat → Option Nat} (hz : zin ws la (.inr (5, [.ref ea, .int sz, .int md]))) (he : zin ws ea (.inl (kk 4, cap, .inr (.inr (.inr (.inr arr)))))) (i : Nat) (hi : i < cap) (hc : cap < 2 ^ 31) {y : Nat} (hy : arr i = some y) : Met l y_A_elementData (Cond.code y_A_elementData b_A_elementData 2 (some (.object "java/lang/Object")) :: TT) ({ frames := 1, cells := 0, slots := 0, locals := 60 }) (zPc [.ref la, .int (nI i)] H D vwCl (TY kk)) (zQq (some y) H) 0 0 (fun _ => False) := by
  refine z_body (by decide) (Nat.le_of_ble_eq_true rfl) ?_
  intro p e s m below meth c ls C0 hH hKN hl
  obtain ⟨hx, hb, hr, hts, hown, hlocks, hml⟩ := C0
  subst hH
  have hK := hKN.1
  have hN := hKN.2
  have hS : va_S (fun _ => False) s.heap s.heap [] := va_S.rf
  have hl : lv_has ls 2 [(0, .ref la), (1, .int (nI i))] := hl
  refine lv_aload_n hx hb d_A_elementData_0 rfl (zl hl rfl) ?_
  refine z_get (C := R_A) (T := F_A) (N := 3) (v := .ref ea) hx hb hts inT_A hown hK hP hz rfl 0 (by decide) tw_76 (fun _ h => h) rfl d_A_elementData_1 ?_
  refine lv_iload_n hx hb d_A_elementData_4 rfl (zl hl rfl) ?_
  refine z_aaldS hx hb hK hP 4 he rfl i rfl hi hc hy d_A_elementData_5 ?_
  exact z_qret (v := some y) hx hb hr (Or.inl ⟨_, rfl⟩) hlocks hS (rfl) d_A_elementData_6
set_option maxHeartbeats 4000000 in
set_option maxRecDepth 100000 in
theorem c_A_get (l : Launch) {D : va_G} {ws : va_W} {H : Heap} (hP : va_P D vwCl ws H) {kk : Nat → ClassId} {la ea : Nat} {md : Int32} {n cap : Nat} {arr : Nat → Option Nat} (hz : zin ws la (.inr (5, [.ref ea, .int (nI n), .int md]))) (he : zin ws ea (.inl (kk 4, cap, .inr (.inr (.inr (.inr arr)))))) (i : Nat) (hi : i < cap) (hc : cap < 2 ^ 31) {y : Nat} (hy : arr i = some y) (hin : i < n) (hn : n < 2 ^ 31) : Met l y_A_get (Cond.code y_A_get b_A_get 2 (some (.object "java/lang/Object")) :: TT) ({ frames := 3, cells := 0, slots := 0, locals := 180 }) (zPc [.ref la, .int (nI i)] H D vwCl (TY kk)) (zQq (some y) H) 0 0 (fun _ => False) := by
  refine z_body (by decide) (Nat.le_of_ble_eq_true rfl) ?_
  intro p e s m below meth c ls C0 hH hKN hl
  obtain ⟨hx, hb, hr, hts, hown, hlocks, hml⟩ := C0
  subst hH
  have hK := hKN.1
  have hN := hKN.2
  have hS : va_S (fun _ => False) s.heap s.heap [] := va_S.rf
  have hl : lv_has ls 2 [(0, .ref la), (1, .int (nI i))] := hl
  refine lv_iload_n hx hb d_A_get_0 rfl (zl hl rfl) ?_
  refine lv_aload_n hx hb d_A_get_1 rfl (zl hl rfl) ?_
  refine z_get (C := R_A) (T := F_A) (N := 3) (v := .int (nI n)) hx hb hts inT_A hown hK hP hz rfl 1 (by decide) tw_77 (fun _ h => h) rfl d_A_get_2 ?_
  refine z_calli (va_runS (As := [.int (nI i), .int (nI n)]) (rest := []) ⟨hx, hb, hml, hown, hts⟩ (c_O_checkIndex l hP i n hin hn) (va_cwS 2 hts (tt_S tw_167 tw_165 tw_166 tw_41) rfl rfl rfl (by decide +kernel) ⟨Nat.le_of_ble_eq_true rfl, Nat.le_of_ble_eq_true rfl⟩) (zPc_S hKN) rfl rfl hl.1 rfl (lv_room (Nat.le_of_ble_eq_true rfl)) d_A_get_5 ⟨Nat.zero_le _, Nat.zero_le _⟩) hS (fun locs hS => ?_)
  refine lv_pop hx hb d_A_get_8 rfl ?_
  refine lv_aload_n hx hb d_A_get_9 rfl (zl hl rfl) ?_
  refine lv_iload_n hx hb d_A_get_10 rfl (zl hl rfl) ?_
  refine z_callq (va_runV (As := [.int (nI i)]) (rest := []) ⟨hx, hb, hml, hown, hts⟩ (c_A_elementData l hP hz he i hi hc hy) (cwV 1 hts (tt_V tw_174 tw_171 tw_172 tw_173 tw_33) rfl rfl rfl (by decide +kernel) ⟨Nat.le_of_ble_eq_true rfl, Nat.le_of_ble_eq_true rfl⟩) (zPc_V hKN hP (ci := 5) (q := (R_A, F_A, 3)) rfl hz) rfl rfl hl.1 rfl (lv_room (Nat.le_of_ble_eq_true rfl)) d_A_get_11 ⟨Nat.zero_le _, Nat.zero_le _⟩) hS (fun locs hS => ?_)
  exact z_qret (v := some y) hx hb hr (Or.inl ⟨_, rfl⟩) hlocks hS (rfl) d_A_get_14
set_option maxHeartbeats 4000000 in
set_option maxRecDepth 100000 in
theorem c_X_queueAt (l : Launch) {D : va_G} {ws : va_W} {H : Heap} (hP : va_P D vwCl ws H) {kk : Nat → ClassId} {xa qad gad tad : Nat → Nat} {e0 : Nat} {time tok : Int32} {n : Nat} {f : FF} {ky : Nat → Int64} {h : FF} {qar gar arr : Nat → Option Nat} {ea cap : Nat} {md : Int32} (hX : PX kk xa qad gad tad e0 time tok n f ky h qar gar arr ea cap md ws) (v : Int32) : Met l y_X_queueAt (Cond.code y_X_queueAt b_X_queueAt 2 (some (.object "LoanRounds$Queue")) :: TT) ({ frames := 2, cells := 0, slots := 0, locals := 120 }) (zPc [.ref (xa 0), .int v] H D vwCl (TY kk)) (zQq (qRef qad v) H) 0 0 (fun _ => False) := by
  refine z_body (by decide) (Nat.le_of_ble_eq_true rfl) ?_
  intro p e s m below meth c ls C0 hH hKN hl
  obtain ⟨hx, hb, hr, hts, hown, hlocks, hml⟩ := C0
  subst hH
  have hK := hKN.1
  have hN := hKN.2
  have hS : va_S (fun _ => False) s.heap s.heap [] := va_S.rf
  have hn := PX_n hX
  have hl : lv_has ls 2 [(0, .ref (xa 0)), (1, .int v)] := hl
  refine lv_iload_n hx hb d_X_queueAt_0 rfl (zl hl rfl) ?_
  refine lv_iconst (v := 0) hx hb d_X_queueAt_1 (by decide) ?_
  refine lv_aload_n hx hb d_X_queueAt_2 rfl (zl hl rfl) ?_
  refine z_get (C := R_X) (T := F_X) (N := 5) (v := .ref (xa 1)) hx hb hts inT_X hown hK hP (PX_x hX) rfl 0 (by decide) tw_133 (fun _ h => h) rfl d_X_queueAt_3 ?_
  refine z_alen hx hb hK hP 2 (PX_qa hX) rfl d_X_queueAt_6 ?_
  refine lv_iconst (v := 1) hx hb d_X_queueAt_7 (by decide) ?_
  refine lv_isub hx hb d_X_queueAt_8 ?_
  refine z_top (y := 3) (by show nI 4 - 1 = 3; decide) ?_
  refine z_calli (va_runS (As := [.int v, .int 0, .int 3]) (rest := []) ⟨hx, hb, hml, hown, hts⟩ (c_X_within l hP v 0 3) (va_cwS 3 hts (tt_S tw_186 tw_184 tw_185 tw_30) rfl rfl rfl (by decide +kernel) ⟨Nat.le_of_ble_eq_true rfl, Nat.le_of_ble_eq_true rfl⟩) (zPc_S hKN) rfl rfl hl.1 rfl (lv_room (Nat.le_of_ble_eq_true rfl)) d_X_queueAt_9 ⟨Nat.zero_le _, Nat.zero_le _⟩) hS (fun locs hS => ?_)
  refine lv_if_eq (tgt := 24) hx hb d_X_queueAt_12 (by decide) (fun c_1 => ?_) (fun c_1 => ?_)
  · have b1 := zb_f c_1
    refine lv_null hx hb d_X_queueAt_24 ?_
    exact z_qret (v := none) hx hb hr (Or.inl ⟨_, rfl⟩) hlocks hS (by simp [qRef, *]) d_X_queueAt_25
  · have b1 := zb_t c_1
    obtain ⟨x1, hx1, rfl⟩ := sWithin_nI (h := 3) (by decide) b1
    have ht1 : tx (nI x1) = x1 := tx_nI (by omega)
    refine lv_aload_n hx hb d_X_queueAt_15 rfl (zl hl rfl) ?_
    refine z_get (C := R_X) (T := F_X) (N := 5) (v := .ref (xa 1)) hx hb hts inT_X hown hK hP (PX_x hX) rfl 0 (by decide) tw_133 (fun _ h => h) rfl d_X_queueAt_16 ?_
    refine lv_iload_n hx hb d_X_queueAt_19 rfl (zl hl rfl) ?_
    refine z_aaldS hx hb hK hP 2 (PX_qa hX) rfl x1 rfl (by omega) (by decide) (PX_qr hX (by omega)) d_X_queueAt_20 ?_
    refine lv_goto (tgt := 25) hx hb d_X_queueAt_21 (by decide) ?_
    exact z_qret (v := some (qad x1)) hx hb hr (Or.inl ⟨_, rfl⟩) hlocks hS (by simp [qRef, *]) d_X_queueAt_25
set_option maxHeartbeats 4000000 in
set_option maxRecDepth 100000 in
theorem c_X_groupAt (l : Launch) {D : va_G} {ws : va_W} {H : Heap} (hP : va_P D vwCl ws H) {kk : Nat → ClassId} {xa qad gad tad : Nat → Nat} {e0 : Nat} {time tok : Int32} {n : Nat} {f : FF} {ky : Nat → Int64} {h : FF} {qar gar arr : Nat → Option Nat} {ea cap : Nat} {md : Int32} (hX : PX kk xa qad gad tad e0 time tok n f ky h qar gar arr ea cap md ws) (v : Int32) : Met l y_X_groupAt (Cond.code y_X_groupAt b_X_groupAt 2 (some (.object "LoanRounds$Group")) :: TT) ({ frames := 2, cells := 0, slots := 0, locals := 120 }) (zPc [.ref (xa 0), .int v] H D vwCl (TY kk)) (zQq (gRef gad v) H) 0 0 (fun _ => False) := by
  refine z_body (by decide) (Nat.le_of_ble_eq_true rfl) ?_
  intro p e s m below meth c ls C0 hH hKN hl
  obtain ⟨hx, hb, hr, hts, hown, hlocks, hml⟩ := C0
  subst hH
  have hK := hKN.1
  have hN := hKN.2
  have hS : va_S (fun _ => False) s.heap s.heap [] := va_S.rf
  have hn := PX_n hX
  have hl : lv_has ls 2 [(0, .ref (xa 0)), (1, .int v)] := hl
  refine lv_iload_n hx hb d_X_groupAt_0 rfl (zl hl rfl) ?_
  refine lv_iconst (v := 0) hx hb d_X_groupAt_1 (by decide) ?_
  refine lv_aload_n hx hb d_X_groupAt_2 rfl (zl hl rfl) ?_
  refine z_get (C := R_X) (T := F_X) (N := 5) (v := .ref (xa 2)) hx hb hts inT_X hown hK hP (PX_x hX) rfl 1 (by decide) tw_134 (fun _ h => h) rfl d_X_groupAt_3 ?_
  refine z_alen hx hb hK hP 3 (PX_ga hX) rfl d_X_groupAt_6 ?_
  refine lv_iconst (v := 1) hx hb d_X_groupAt_7 (by decide) ?_
  refine lv_isub hx hb d_X_groupAt_8 ?_
  refine z_top (y := 7) (by show nI 8 - 1 = 7; decide) ?_
  refine z_calli (va_runS (As := [.int v, .int 0, .int 7]) (rest := []) ⟨hx, hb, hml, hown, hts⟩ (c_X_within l hP v 0 7) (va_cwS 3 hts (tt_S tw_186 tw_184 tw_185 tw_30) rfl rfl rfl (by decide +kernel) ⟨Nat.le_of_ble_eq_true rfl, Nat.le_of_ble_eq_true rfl⟩) (zPc_S hKN) rfl rfl hl.1 rfl (lv_room (Nat.le_of_ble_eq_true rfl)) d_X_groupAt_9 ⟨Nat.zero_le _, Nat.zero_le _⟩) hS (fun locs hS => ?_)
  refine lv_if_eq (tgt := 24) hx hb d_X_groupAt_12 (by decide) (fun c_1 => ?_) (fun c_1 => ?_)
  · have b1 := zb_f c_1
    refine lv_null hx hb d_X_groupAt_24 ?_
    exact z_qret (v := none) hx hb hr (Or.inl ⟨_, rfl⟩) hlocks hS (by simp [gRef, *]) d_X_groupAt_25
  · have b1 := zb_t c_1
    obtain ⟨x1, hx1, rfl⟩ := sWithin_nI (h := 7) (by decide) b1
    have ht1 : tx (nI x1) = x1 := tx_nI (by omega)
    refine lv_aload_n hx hb d_X_groupAt_15 rfl (zl hl rfl) ?_
    refine z_get (C := R_X) (T := F_X) (N := 5) (v := .ref (xa 2)) hx hb hts inT_X hown hK hP (PX_x hX) rfl 1 (by decide) tw_134 (fun _ h => h) rfl d_X_groupAt_16 ?_
    refine lv_iload_n hx hb d_X_groupAt_19 rfl (zl hl rfl) ?_
    refine z_aaldS hx hb hK hP 3 (PX_ga hX) rfl x1 rfl (by omega) (by decide) (PX_gr hX (by omega)) d_X_groupAt_20 ?_
    refine lv_goto (tgt := 25) hx hb d_X_groupAt_21 (by decide) ?_
    exact z_qret (v := some (gad x1)) hx hb hr (Or.inl ⟨_, rfl⟩) hlocks hS (by simp [gRef, *]) d_X_groupAt_25
set_option maxHeartbeats 4000000 in
set_option maxRecDepth 100000 in
theorem c_X_taskAt (l : Launch) {D : va_G} {ws : va_W} {H : Heap} (hP : va_P D vwCl ws H) {kk : Nat → ClassId} {xa qad gad tad : Nat → Nat} {e0 : Nat} {time tok : Int32} {n : Nat} {f : FF} {ky : Nat → Int64} {h : FF} {qar gar arr : Nat → Option Nat} {ea cap : Nat} {md : Int32} (hX : PX kk xa qad gad tad e0 time tok n f ky h qar gar arr ea cap md ws) (v : Int32) : Met l y_X_taskAt (Cond.code y_X_taskAt b_X_taskAt 2 (some (.object "LoanRounds$Task")) :: TT) ({ frames := 4, cells := 0, slots := 0, locals := 240 }) (zPc [.ref (xa 0), .int v] H D vwCl (TY kk)) (zQq (tRef tad n v) H) 0 0 (fun _ => False) := by
  refine z_body (by decide) (Nat.le_of_ble_eq_true rfl) ?_
  intro p e s m below meth c ls C0 hH hKN hl
  obtain ⟨hx, hb, hr, hts, hown, hlocks, hml⟩ := C0
  subst hH
  have hK := hKN.1
  have hN := hKN.2
  have hS : va_S (fun _ => False) s.heap s.heap [] := va_S.rf
  have hn := PX_n hX
  have hl : lv_has ls 2 [(0, .ref (xa 0)), (1, .int v)] := hl
  refine lv_iload_n hx hb d_X_taskAt_0 rfl (zl hl rfl) ?_
  refine lv_iconst (v := 0) hx hb d_X_taskAt_1 (by decide) ?_
  refine lv_aload_n hx hb d_X_taskAt_2 rfl (zl hl rfl) ?_
  refine z_get (C := R_X) (T := F_X) (N := 5) (v := .ref (xa 3)) hx hb hts inT_X hown hK hP (PX_x hX) rfl 2 (by decide) tw_135 (fun _ h => h) rfl d_X_taskAt_3 ?_
  refine z_calli (va_runV (As := []) (rest := [.int 0, .int v]) ⟨hx, hb, hml, hown, hts⟩ (c_A_size l hP (PX_l hX)) (cwV 0 hts (tt_V tw_160 tw_157 tw_158 tw_159 tw_33) rfl rfl rfl (by decide +kernel) ⟨Nat.le_of_ble_eq_true rfl, Nat.le_of_ble_eq_true rfl⟩) (zPc_V hKN hP (ci := 5) (q := (R_A, F_A, 3)) rfl (PX_l hX)) rfl rfl hl.1 rfl (lv_room (Nat.le_of_ble_eq_true rfl)) d_X_taskAt_6 ⟨Nat.zero_le _, Nat.zero_le _⟩) hS (fun locs hS => ?_)
  refine lv_iconst (v := 1) hx hb d_X_taskAt_9 (by decide) ?_
  refine lv_isub hx hb d_X_taskAt_10 ?_
  refine z_calli (va_runS (As := [.int v, .int 0, .int ((nI n) - 1)]) (rest := []) ⟨hx, hb, hml, hown, hts⟩ (c_X_within l hP v 0 ((nI n) - 1)) (va_cwS 3 hts (tt_S tw_186 tw_184 tw_185 tw_30) rfl rfl rfl (by decide +kernel) ⟨Nat.le_of_ble_eq_true rfl, Nat.le_of_ble_eq_true rfl⟩) (zPc_S hKN) rfl rfl hl.1 rfl (lv_room (Nat.le_of_ble_eq_true rfl)) d_X_taskAt_11 ⟨Nat.zero_le _, Nat.zero_le _⟩) hS (fun locs hS => ?_)
  refine lv_if_eq (tgt := 31) hx hb d_X_taskAt_14 (by decide) (fun c_1 => ?_) (fun c_1 => ?_)
  · have b1 : sTask v n = false := by rw [← task_in v (by omega)]; exact zb_f c_1
    refine lv_null hx hb d_X_taskAt_31 ?_
    exact z_qret (v := none) hx hb hr (Or.inl ⟨_, rfl⟩) hlocks hS (by simp [tRef, *]) d_X_taskAt_32
  · have b0 := zb_t c_1
    have b1 : sTask v n = true := by rw [← task_in v (by omega)]; exact b0
    clear b0
    obtain ⟨x1, hx1, rfl⟩ := sTask_t (by omega) b1
    have ht1 : tx (nI x1) = x1 := tx_nI (by omega)
    refine lv_aload_n hx hb d_X_taskAt_17 rfl (zl hl rfl) ?_
    refine z_get (C := R_X) (T := F_X) (N := 5) (v := .ref (xa 3)) hx hb hts inT_X hown hK hP (PX_x hX) rfl 2 (by decide) tw_135 (fun _ h => h) rfl d_X_taskAt_18 ?_
    refine lv_iload_n hx hb d_X_taskAt_21 rfl (zl hl rfl) ?_
    have he := PX_e hX (i := x1) (by omega)
    refine z_callq (va_runV (As := [.int (nI x1)]) (rest := []) ⟨hx, hb, hml, hown, hts⟩ (c_A_get l hP (PX_l hX) he.1 x1 (by omega) (by omega) (PX_tr hX (by omega)) (by omega) (by omega)) (cwV 1 hts (tt_V tw_164 tw_161 tw_162 tw_163 tw_33) rfl rfl rfl (by decide +kernel) ⟨Nat.le_of_ble_eq_true rfl, Nat.le_of_ble_eq_true rfl⟩) (zPc_V hKN hP (ci := 5) (q := (R_A, F_A, 3)) rfl (PX_l hX)) rfl rfl hl.1 rfl (lv_room (Nat.le_of_ble_eq_true rfl)) d_X_taskAt_22 ⟨Nat.zero_le _, Nat.zero_le _⟩) hS (fun locs hS => ?_)
    refine z_cast (ci := 2) (q := (R_T, F_T, 12)) hx hb hts hown tw_175 hK hP (PX_t hX (k := x1) (by omega)) rfl d_X_taskAt_25 ?_
    refine lv_goto (tgt := 32) hx hb d_X_taskAt_28 (by decide) ?_
    exact z_qret (v := some (tad x1)) hx hb hr (Or.inl ⟨_, rfl⟩) hlocks hS (by simp [tRef, *]) d_X_taskAt_32
set_option maxHeartbeats 4000000 in
set_option maxRecDepth 100000 in
theorem c_X_isWorker (l : Launch) {D : va_G} {tys : List (ClassId × FieldType)} {ws : va_W} {H : Heap} (hP : va_P D vwCl ws H) (v : Int32) : Met l y_X_isWorker (Cond.code y_X_isWorker b_X_isWorker 1 (some .boolean) :: TT) ({ frames := 2, cells := 0, slots := 0, locals := 120 }) (zPc [.int v] H D vwCl tys) (zQi (zb (sWithin v 0 7)) H) 0 0 (fun _ => False) := by
  refine z_body (by decide) (Nat.le_of_ble_eq_true rfl) ?_
  intro p e s m below meth c ls C0 hH hKN hl
  obtain ⟨hx, hb, hr, hts, hown, hlocks, hml⟩ := C0
  subst hH
  have hK := hKN.1
  have hN := hKN.2
  have hS : va_S (fun _ => False) s.heap s.heap [] := va_S.rf
  have hl : lv_has ls 1 [(0, .int v)] := hl
  refine lv_iload_n hx hb d_X_isWorker_0 rfl (zl hl rfl) ?_
  refine lv_iconst (v := 0) hx hb d_X_isWorker_1 (by decide) ?_
  refine lv_bipush (v := 7) hx hb d_X_isWorker_2 (by decide) ?_
  refine z_calli (va_runS (As := [.int v, .int 0, .int 7]) (rest := []) ⟨hx, hb, hml, hown, hts⟩ (c_X_within l hP v 0 7) (va_cwS 3 hts (tt_S tw_186 tw_184 tw_185 tw_30) rfl rfl rfl (by decide +kernel) ⟨Nat.le_of_ble_eq_true rfl, Nat.le_of_ble_eq_true rfl⟩) (zPc_S hKN) rfl rfl hl.1 rfl (lv_room (Nat.le_of_ble_eq_true rfl)) d_X_isWorker_4 ⟨Nat.zero_le _, Nat.zero_le _⟩) hS (fun locs hS => ?_)
  exact z_zret hx hb hr hlocks hS (rfl) d_X_isWorker_7
theorem cnt_t2 {P : Nat → Bool} {i : Nat} (h : P i = true) : nI (cnt P i + 1) = nI (cnt P (i + 1)) := by rw [← cnt_t h, nI_1]
set_option maxHeartbeats 4000000 in
set_option maxRecDepth 100000 in
theorem c_X_tasksThatAre (l : Launch) {D : va_G} {ws : va_W} {H : Heap} (hP : va_P D vwCl ws H) {kk : Nat → ClassId} {xa qad gad tad : Nat → Nat} {e0 : Nat} {time tok : Int32} {n : Nat} {f : FF} {ky : Nat → Int64} {h : FF} {qar gar arr : Nat → Option Nat} {ea cap : Nat} {md : Int32} (hX : PX kk xa qad gad tad e0 time tok n f ky h qar gar arr ea cap md ws) (v : Int32) : Met l y_X_tasksThatAre (Cond.code y_X_tasksThatAre b_X_tasksThatAre 4 (some .int) :: TT) ({ frames := 4, cells := 0, slots := 0, locals := 240 }) (zPc [.ref (xa 0), .int v] H D vwCl (TY kk)) (zQi (nI (cnt (pSt f v) n)) H) 0 0 (fun _ => False) := by
  refine z_body (by decide) (Nat.le_of_ble_eq_true rfl) ?_
  intro p e s m below meth c ls C0 hH hKN hl
  obtain ⟨hx, hb, hr, hts, hown, hlocks, hml⟩ := C0
  subst hH
  have hK := hKN.1
  have hN := hKN.2
  have hS : va_S (fun _ => False) s.heap s.heap [] := va_S.rf
  have hn := PX_n hX
  have key : ∀ (r i : Nat) (ls : Array Slot) (locs : List Loc), i ≤ n → n + 1 ≤ i + r → lv_has ls 4 [(0, .ref (xa 0)), (1, .int v), (2, .int (nI (cnt (pSt f v) i))), (3, .int (nI i))] → va_S (fun _ => False) s.heap s.heap locs → W p l e ({ frames := 4, cells := 0, slots := 0, locals := 240 }) s m ([.ref (xa 0), .int v] : List Value).toArray below meth c s.heap locs 0 0 (MQ below (zQi (nI (cnt (pSt f v) n)) s.heap) ([.ref (xa 0), .int v] : List Value).toArray s 0 0 (fun _ => False)) (F0 m 4 ls []) := by
    intro r
    induction r with
    | zero => intro i ls locs h1 h2; omega
    | succ r ih =>
      intro i ls locs hi hir hl hS
      refine lv_iload_n hx hb d_X_tasksThatAre_4 rfl (zl hl rfl) ?_
      refine lv_aload_n hx hb d_X_tasksThatAre_5 rfl (zl hl rfl) ?_
      refine z_get (C := R_X) (T := F_X) (N := 5) (v := .ref (xa 3)) hx hb hts inT_X hown hK hP (PX_x hX) rfl 2 (by decide) tw_135 (fun _ h => h) rfl d_X_tasksThatAre_6 ?_
      refine z_calli (va_runV (As := []) (rest := [.int (nI i)]) ⟨hx, hb, hml, hown, hts⟩ (c_A_size l hP (PX_l hX)) (cwV 0 hts (tt_V tw_160 tw_157 tw_158 tw_159 tw_33) rfl rfl rfl (by decide +kernel) ⟨Nat.le_of_ble_eq_true rfl, Nat.le_of_ble_eq_true rfl⟩) (zPc_V hKN hP (ci := 5) (q := (R_A, F_A, 3)) rfl (PX_l hX)) rfl rfl hl.1 rfl (lv_room (Nat.le_of_ble_eq_true rfl)) d_X_tasksThatAre_9 ⟨Nat.zero_le _, Nat.zero_le _⟩) hS (fun locs hS => ?_)
      refine lv_icmp_ge (tgt := 42) hx hb d_X_tasksThatAre_12 (by decide) (fun c_1 => ?_) (fun c_1 => ?_)
      · have hin := z_ge hi (by omega) c_1
        refine lv_iload_n hx hb d_X_tasksThatAre_42 rfl (zl hl rfl) ?_
        exact z_iret hx hb hr hlocks hS (by rw [hin]) d_X_tasksThatAre_43
      · have hlt := z_lt hi (by omega) c_1
        refine lv_aload_n hx hb d_X_tasksThatAre_15 rfl (zl hl rfl) ?_
        refine z_get (C := R_X) (T := F_X) (N := 5) (v := .ref (xa 3)) hx hb hts inT_X hown hK hP (PX_x hX) rfl 2 (by decide) tw_135 (fun _ h => h) rfl d_X_tasksThatAre_16 ?_
        refine lv_iload_n hx hb d_X_tasksThatAre_19 rfl (zl hl rfl) ?_
        have he := PX_e hX (i := i) (by omega)
        refine z_callq (va_runV (As := [.int (nI i)]) (rest := []) ⟨hx, hb, hml, hown, hts⟩ (c_A_get l hP (PX_l hX) he.1 i (by omega) (by omega) (PX_tr hX (by omega)) (by omega) (by omega)) (cwV 1 hts (tt_V tw_164 tw_161 tw_162 tw_163 tw_33) rfl rfl rfl (by decide +kernel) ⟨Nat.le_of_ble_eq_true rfl, Nat.le_of_ble_eq_true rfl⟩) (zPc_V hKN hP (ci := 5) (q := (R_A, F_A, 3)) rfl (PX_l hX)) rfl rfl hl.1 rfl (lv_room (Nat.le_of_ble_eq_true rfl)) d_X_tasksThatAre_20 ⟨Nat.zero_le _, Nat.zero_le _⟩) hS (fun locs hS => ?_)
        refine z_cast (ci := 2) (q := (R_T, F_T, 12)) hx hb hts hown tw_175 hK hP (PX_t hX (k := i) (by omega)) rfl d_X_tasksThatAre_23 ?_
        refine z_get (C := R_T) (T := F_T) (N := 12) (v := .int (f 6 i)) hx hb hts inT_T hown hK hP (PX_t hX (k := i) (by omega)) rfl 5 (by decide) tw_406 (fun _ h => h) rfl d_X_tasksThatAre_26 ?_
        refine lv_iload_n hx hb d_X_tasksThatAre_29 rfl (zl hl rfl) ?_
        refine lv_icmp_ne (tgt := 36) hx hb d_X_tasksThatAre_30 (by decide) (fun c_2 => ?_) (fun c_2 => ?_)
        · refine lv_iinc (v := (nI (i + 1))) (lv' := [(3, .int (nI (i + 1))), (0, .ref (xa 0)), (1, .int v), (2, .int (nI (cnt (pSt f v) i)))]) hx hb d_X_tasksThatAre_36 hl (k := 3) rfl (nI_1 i) (by decide) rfl (fun ls hl => ?_)
          refine lv_goto (tgt := 4) hx hb d_X_tasksThatAre_39 (by decide) ?_
          rw [show nI (cnt (pSt f v) i) = nI (cnt (pSt f v) (i + 1)) from cnt_f (by simp [pSt, *])] at hl
          exact ih (i + 1) ls locs (by omega) (by omega) (lv_sub hl [1, 2, 3, 0] rfl) hS
        · refine lv_iinc (v := (nI (cnt (pSt f v) i + 1))) (lv' := [(2, .int (nI (cnt (pSt f v) i + 1))), (0, .ref (xa 0)), (1, .int v), (3, .int (nI i))]) hx hb d_X_tasksThatAre_33 hl (k := 2) rfl (nI_1 _) (by decide) rfl (fun ls hl => ?_)
          refine lv_iinc (v := (nI (i + 1))) (lv' := [(3, .int (nI (i + 1))), (2, .int (nI (cnt (pSt f v) i + 1))), (0, .ref (xa 0)), (1, .int v)]) hx hb d_X_tasksThatAre_36 hl (k := 3) rfl (nI_1 i) (by decide) rfl (fun ls hl => ?_)
          refine lv_goto (tgt := 4) hx hb d_X_tasksThatAre_39 (by decide) ?_
          rw [show nI (cnt (pSt f v) i + 1) = nI (cnt (pSt f v) (i + 1)) from cnt_t2 (by simp [pSt, *])] at hl
          exact ih (i + 1) ls locs (by omega) (by omega) (lv_sub hl [2, 3, 1, 0] rfl) hS
  have hl : lv_has ls 4 [(0, .ref (xa 0)), (1, .int v)] := hl
  refine lv_iconst (v := 0) hx hb d_X_tasksThatAre_0 (by decide) ?_
  refine lv_istore_n (lv' := [(2, .int 0), (0, .ref (xa 0)), (1, .int v)]) hx hb d_X_tasksThatAre_1 rfl hl (by decide) rfl (fun ls hl => ?_)
  refine lv_iconst (v := 0) hx hb d_X_tasksThatAre_2 (by decide) ?_
  refine lv_istore_n (lv' := [(3, .int 0), (2, .int 0), (0, .ref (xa 0)), (1, .int v)]) hx hb d_X_tasksThatAre_3 rfl hl (by decide) rfl (fun ls hl => ?_)
  exact key (n + 1) 0 ls [] (Nat.zero_le _) (by omega) (lv_sub hl [2, 3, 1, 0] rfl) hS
set_option maxHeartbeats 4000000 in
set_option maxRecDepth 100000 in
theorem c_X_lentTo (l : Launch) {D : va_G} {ws : va_W} {H : Heap} (hP : va_P D vwCl ws H) {kk : Nat → ClassId} {xa qad gad tad : Nat → Nat} {e0 : Nat} {time tok : Int32} {n : Nat} {f : FF} {ky : Nat → Int64} {h : FF} {qar gar arr : Nat → Option Nat} {ea cap : Nat} {md : Int32} (hX : PX kk xa qad gad tad e0 time tok n f ky h qar gar arr ea cap md ws) (v : Int32) : Met l y_X_lentTo (Cond.code y_X_lentTo b_X_lentTo 5 (some .int) :: TT) ({ frames := 4, cells := 0, slots := 0, locals := 240 }) (zPc [.ref (xa 0), .int v] H D vwCl (TY kk)) (zQi (nI (cnt (pTo f v) n)) H) 0 0 (fun _ => False) := by
  refine z_body (by decide) (Nat.le_of_ble_eq_true rfl) ?_
  intro p e s m below meth c ls C0 hH hKN hl
  obtain ⟨hx, hb, hr, hts, hown, hlocks, hml⟩ := C0
  subst hH
  have hK := hKN.1
  have hN := hKN.2
  have hS : va_S (fun _ => False) s.heap s.heap [] := va_S.rf
  have hn := PX_n hX
  have key : ∀ (r i : Nat) (ls : Array Slot) (locs : List Loc), i ≤ n → n + 1 ≤ i + r → lv_has ls 5 [(0, .ref (xa 0)), (1, .int v), (2, .int (nI (cnt (pTo f v) i))), (3, .int (nI i))] → va_S (fun _ => False) s.heap s.heap locs → W p l e ({ frames := 4, cells := 0, slots := 0, locals := 240 }) s m ([.ref (xa 0), .int v] : List Value).toArray below meth c s.heap locs 0 0 (MQ below (zQi (nI (cnt (pTo f v) n)) s.heap) ([.ref (xa 0), .int v] : List Value).toArray s 0 0 (fun _ => False)) (F0 m 4 ls []) := by
    intro r
    induction r with
    | zero => intro i ls locs h1 h2; omega
    | succ r ih =>
      intro i ls locs hi hir hl hS
      refine lv_iload_n hx hb d_X_lentTo_4 rfl (zl hl rfl) ?_
      refine lv_aload_n hx hb d_X_lentTo_5 rfl (zl hl rfl) ?_
      refine z_get (C := R_X) (T := F_X) (N := 5) (v := .ref (xa 3)) hx hb hts inT_X hown hK hP (PX_x hX) rfl 2 (by decide) tw_135 (fun _ h => h) rfl d_X_lentTo_6 ?_
      refine z_calli (va_runV (As := []) (rest := [.int (nI i)]) ⟨hx, hb, hml, hown, hts⟩ (c_A_size l hP (PX_l hX)) (cwV 0 hts (tt_V tw_160 tw_157 tw_158 tw_159 tw_33) rfl rfl rfl (by decide +kernel) ⟨Nat.le_of_ble_eq_true rfl, Nat.le_of_ble_eq_true rfl⟩) (zPc_V hKN hP (ci := 5) (q := (R_A, F_A, 3)) rfl (PX_l hX)) rfl rfl hl.1 rfl (lv_room (Nat.le_of_ble_eq_true rfl)) d_X_lentTo_9 ⟨Nat.zero_le _, Nat.zero_le _⟩) hS (fun locs hS => ?_)
      refine lv_icmp_ge (tgt := 55) hx hb d_X_lentTo_12 (by decide) (fun c_1 => ?_) (fun c_1 => ?_)
      · have hin := z_ge hi (by omega) c_1
        refine lv_iload_n hx hb d_X_lentTo_55 rfl (zl hl rfl) ?_
        exact z_iret hx hb hr hlocks hS (by rw [hin]) d_X_lentTo_56
      · have hlt := z_lt hi (by omega) c_1
        refine lv_aload_n hx hb d_X_lentTo_15 rfl (zl hl rfl) ?_
        refine z_get (C := R_X) (T := F_X) (N := 5) (v := .ref (xa 3)) hx hb hts inT_X hown hK hP (PX_x hX) rfl 2 (by decide) tw_135 (fun _ h => h) rfl d_X_lentTo_16 ?_
        refine lv_iload_n hx hb d_X_lentTo_19 rfl (zl hl rfl) ?_
        have he := PX_e hX (i := i) (by omega)
        refine z_callq (va_runV (As := [.int (nI i)]) (rest := []) ⟨hx, hb, hml, hown, hts⟩ (c_A_get l hP (PX_l hX) he.1 i (by omega) (by omega) (PX_tr hX (by omega)) (by omega) (by omega)) (cwV 1 hts (tt_V tw_164 tw_161 tw_162 tw_163 tw_33) rfl rfl rfl (by decide +kernel) ⟨Nat.le_of_ble_eq_true rfl, Nat.le_of_ble_eq_true rfl⟩) (zPc_V hKN hP (ci := 5) (q := (R_A, F_A, 3)) rfl (PX_l hX)) rfl rfl hl.1 rfl (lv_room (Nat.le_of_ble_eq_true rfl)) d_X_lentTo_20 ⟨Nat.zero_le _, Nat.zero_le _⟩) hS (fun locs hS => ?_)
        refine z_cast (ci := 2) (q := (R_T, F_T, 12)) hx hb hts hown tw_175 hK hP (PX_t hX (k := i) (by omega)) rfl d_X_lentTo_23 ?_
        refine lv_astore (lv' := [(4, .ref (tad i)), (0, .ref (xa 0)), (1, .int v), (2, .int (nI (cnt (pTo f v) i))), (3, .int (nI i))]) hx hb d_X_lentTo_26 hl (by decide) rfl (fun ls hl => ?_)
        refine lv_aload hx hb d_X_lentTo_28 (zl hl rfl) ?_
        refine z_get (C := R_T) (T := F_T) (N := 12) (v := .int (f 6 i)) hx hb hts inT_T hown hK hP (PX_t hX (k := i) (by omega)) rfl 5 (by decide) tw_406 (fun _ h => h) rfl d_X_lentTo_30 ?_
        refine lv_iconst (v := 1) hx hb d_X_lentTo_33 (by decide) ?_
        refine lv_icmp_ne (tgt := 49) hx hb d_X_lentTo_34 (by decide) (fun c_2 => ?_) (fun c_2 => ?_)
        · refine lv_iinc (v := (nI (i + 1))) (lv' := [(3, .int (nI (i + 1))), (4, .ref (tad i)), (0, .ref (xa 0)), (1, .int v), (2, .int (nI (cnt (pTo f v) i)))]) hx hb d_X_lentTo_49 hl (k := 4) rfl (nI_1 i) (by decide) rfl (fun ls hl => ?_)
          refine lv_goto (tgt := 4) hx hb d_X_lentTo_52 (by decide) ?_
          rw [show nI (cnt (pTo f v) i) = nI (cnt (pTo f v) (i + 1)) from cnt_f (by first | (simp [pTo, *]; done) | (rw [hr2] at *; simp [pTo, *]; done))] at hl
          exact ih (i + 1) ls locs (by omega) (by omega) (lv_sub hl [2, 3, 4, 0] rfl) hS
        · have hr2 := ((PX_rel hX i hlt).2.1 c_2).2.1
          have c9 := c_2
          refine lv_aload hx hb d_X_lentTo_37 (zl hl rfl) ?_
          refine z_get (C := R_T) (T := F_T) (N := 12) (v := .int (h 2 i)) hx hb hts inT_T hown hK hP (PX_t hX (k := i) (by omega)) rfl 9 (by decide) tw_414 (fun _ h => h) rfl d_X_lentTo_39 ?_
          refine lv_iload_n hx hb d_X_lentTo_42 rfl (zl hl rfl) ?_
          refine lv_icmp_ne (tgt := 49) hx hb d_X_lentTo_43 (by decide) (fun c_3 => ?_) (fun c_3 => ?_)
          · refine lv_iinc (v := (nI (i + 1))) (lv' := [(3, .int (nI (i + 1))), (4, .ref (tad i)), (0, .ref (xa 0)), (1, .int v), (2, .int (nI (cnt (pTo f v) i)))]) hx hb d_X_lentTo_49 hl (k := 4) rfl (nI_1 i) (by decide) rfl (fun ls hl => ?_)
            refine lv_goto (tgt := 4) hx hb d_X_lentTo_52 (by decide) ?_
            rw [show nI (cnt (pTo f v) i) = nI (cnt (pTo f v) (i + 1)) from cnt_f (by first | (simp [pTo, *]; done) | (rw [hr2] at *; simp [pTo, *]; done))] at hl
            exact ih (i + 1) ls locs (by omega) (by omega) (lv_sub hl [2, 3, 4, 0] rfl) hS
          · refine lv_iinc (v := (nI (cnt (pTo f v) i + 1))) (lv' := [(2, .int (nI (cnt (pTo f v) i + 1))), (4, .ref (tad i)), (0, .ref (xa 0)), (1, .int v), (3, .int (nI i))]) hx hb d_X_lentTo_46 hl (k := 3) rfl (nI_1 _) (by decide) rfl (fun ls hl => ?_)
            refine lv_iinc (v := (nI (i + 1))) (lv' := [(3, .int (nI (i + 1))), (2, .int (nI (cnt (pTo f v) i + 1))), (4, .ref (tad i)), (0, .ref (xa 0)), (1, .int v)]) hx hb d_X_lentTo_49 hl (k := 4) rfl (nI_1 i) (by decide) rfl (fun ls hl => ?_)
            refine lv_goto (tgt := 4) hx hb d_X_lentTo_52 (by decide) ?_
            rw [show nI (cnt (pTo f v) i + 1) = nI (cnt (pTo f v) (i + 1)) from cnt_t2 (by first | (simp [pTo, *]; done) | (rw [hr2] at *; simp [pTo, *]; done))] at hl
            exact ih (i + 1) ls locs (by omega) (by omega) (lv_sub hl [3, 4, 1, 0] rfl) hS
  have hl : lv_has ls 5 [(0, .ref (xa 0)), (1, .int v)] := hl
  refine lv_iconst (v := 0) hx hb d_X_lentTo_0 (by decide) ?_
  refine lv_istore_n (lv' := [(2, .int 0), (0, .ref (xa 0)), (1, .int v)]) hx hb d_X_lentTo_1 rfl hl (by decide) rfl (fun ls hl => ?_)
  refine lv_iconst (v := 0) hx hb d_X_lentTo_2 (by decide) ?_
  refine lv_istore_n (lv' := [(3, .int 0), (2, .int 0), (0, .ref (xa 0)), (1, .int v)]) hx hb d_X_lentTo_3 rfl hl (by decide) rfl (fun ls hl => ?_)
  exact key (n + 1) 0 ls [] (Nat.zero_le _) (by omega) (lv_sub hl [2, 3, 1, 0] rfl) hS
set_option maxHeartbeats 4000000 in
set_option maxRecDepth 100000 in
theorem c_X_waitingIn (l : Launch) {D : va_G} {ws : va_W} {H : Heap} (hP : va_P D vwCl ws H) {kk : Nat → ClassId} {xa qad gad tad : Nat → Nat} {e0 : Nat} {time tok : Int32} {n : Nat} {f : FF} {ky : Nat → Int64} {h : FF} {qar gar arr : Nat → Option Nat} {ea cap : Nat} {md : Int32} (hX : PX kk xa qad gad tad e0 time tok n f ky h qar gar arr ea cap md ws) (qi : Nat) (hqi : qi < 4) : Met l y_X_waitingIn (Cond.code y_X_waitingIn b_X_waitingIn 5 (some .int) :: TT) ({ frames := 4, cells := 0, slots := 0, locals := 240 }) (zPc [.ref (xa 0), .ref (qad qi)] H D vwCl (TY kk)) (zQi (nI (cnt (pWq f (nI qi)) n)) H) 0 0 (fun _ => False) := by
  refine z_body (by decide) (Nat.le_of_ble_eq_true rfl) ?_
  intro p e s m below meth c ls C0 hH hKN hl
  obtain ⟨hx, hb, hr, hts, hown, hlocks, hml⟩ := C0
  subst hH
  have hK := hKN.1
  have hN := hKN.2
  have hS : va_S (fun _ => False) s.heap s.heap [] := va_S.rf
  have hn := PX_n hX
  have key : ∀ (r i : Nat) (ls : Array Slot) (locs : List Loc), i ≤ n → n + 1 ≤ i + r → lv_has ls 5 [(0, .ref (xa 0)), (1, .ref (qad qi)), (2, .int (nI (cnt (pWq f (nI qi)) i))), (3, .int (nI i))] → va_S (fun _ => False) s.heap s.heap locs → W p l e ({ frames := 4, cells := 0, slots := 0, locals := 240 }) s m ([.ref (xa 0), .ref (qad qi)] : List Value).toArray below meth c s.heap locs 0 0 (MQ below (zQi (nI (cnt (pWq f (nI qi)) n)) s.heap) ([.ref (xa 0), .ref (qad qi)] : List Value).toArray s 0 0 (fun _ => False)) (F0 m 4 ls []) := by
    intro r
    induction r with
    | zero => intro i ls locs h1 h2; omega
    | succ r ih =>
      intro i ls locs hi hir hl hS
      refine lv_iload_n hx hb d_X_waitingIn_4 rfl (zl hl rfl) ?_
      refine lv_aload_n hx hb d_X_waitingIn_5 rfl (zl hl rfl) ?_
      refine z_get (C := R_X) (T := F_X) (N := 5) (v := .ref (xa 3)) hx hb hts inT_X hown hK hP (PX_x hX) rfl 2 (by decide) tw_135 (fun _ h => h) rfl d_X_waitingIn_6 ?_
      refine z_calli (va_runV (As := []) (rest := [.int (nI i)]) ⟨hx, hb, hml, hown, hts⟩ (c_A_size l hP (PX_l hX)) (cwV 0 hts (tt_V tw_160 tw_157 tw_158 tw_159 tw_33) rfl rfl rfl (by decide +kernel) ⟨Nat.le_of_ble_eq_true rfl, Nat.le_of_ble_eq_true rfl⟩) (zPc_V hKN hP (ci := 5) (q := (R_A, F_A, 3)) rfl (PX_l hX)) rfl rfl hl.1 rfl (lv_room (Nat.le_of_ble_eq_true rfl)) d_X_waitingIn_9 ⟨Nat.zero_le _, Nat.zero_le _⟩) hS (fun locs hS => ?_)
      refine lv_icmp_ge (tgt := 54) hx hb d_X_waitingIn_12 (by decide) (fun c_1 => ?_) (fun c_1 => ?_)
      · have hin := z_ge hi (by omega) c_1
        refine lv_iload_n hx hb d_X_waitingIn_54 rfl (zl hl rfl) ?_
        exact z_iret hx hb hr hlocks hS (by rw [hin]) d_X_waitingIn_55
      · have hlt := z_lt hi (by omega) c_1
        refine lv_aload_n hx hb d_X_waitingIn_15 rfl (zl hl rfl) ?_
        refine z_get (C := R_X) (T := F_X) (N := 5) (v := .ref (xa 3)) hx hb hts inT_X hown hK hP (PX_x hX) rfl 2 (by decide) tw_135 (fun _ h => h) rfl d_X_waitingIn_16 ?_
        refine lv_iload_n hx hb d_X_waitingIn_19 rfl (zl hl rfl) ?_
        have he := PX_e hX (i := i) (by omega)
        refine z_callq (va_runV (As := [.int (nI i)]) (rest := []) ⟨hx, hb, hml, hown, hts⟩ (c_A_get l hP (PX_l hX) he.1 i (by omega) (by omega) (PX_tr hX (by omega)) (by omega) (by omega)) (cwV 1 hts (tt_V tw_164 tw_161 tw_162 tw_163 tw_33) rfl rfl rfl (by decide +kernel) ⟨Nat.le_of_ble_eq_true rfl, Nat.le_of_ble_eq_true rfl⟩) (zPc_V hKN hP (ci := 5) (q := (R_A, F_A, 3)) rfl (PX_l hX)) rfl rfl hl.1 rfl (lv_room (Nat.le_of_ble_eq_true rfl)) d_X_waitingIn_20 ⟨Nat.zero_le _, Nat.zero_le _⟩) hS (fun locs hS => ?_)
        refine z_cast (ci := 2) (q := (R_T, F_T, 12)) hx hb hts hown tw_175 hK hP (PX_t hX (k := i) (by omega)) rfl d_X_waitingIn_23 ?_
        refine lv_astore (lv' := [(4, .ref (tad i)), (0, .ref (xa 0)), (1, .ref (qad qi)), (2, .int (nI (cnt (pWq f (nI qi)) i))), (3, .int (nI i))]) hx hb d_X_waitingIn_26 hl (by decide) rfl (fun ls hl => ?_)
        refine lv_aload hx hb d_X_waitingIn_28 (zl hl rfl) ?_
        refine z_get (C := R_T) (T := F_T) (N := 12) (v := .int (f 6 i)) hx hb hts inT_T hown hK hP (PX_t hX (k := i) (by omega)) rfl 5 (by decide) tw_406 (fun _ h => h) rfl d_X_waitingIn_30 ?_
        refine lv_if_ne (tgt := 48) hx hb d_X_waitingIn_33 (by decide) (fun c_2 => ?_) (fun c_2 => ?_)
        · refine lv_iinc (v := (nI (i + 1))) (lv' := [(3, .int (nI (i + 1))), (4, .ref (tad i)), (0, .ref (xa 0)), (1, .ref (qad qi)), (2, .int (nI (cnt (pWq f (nI qi)) i)))]) hx hb d_X_waitingIn_48 hl (k := 4) rfl (nI_1 i) (by decide) rfl (fun ls hl => ?_)
          refine lv_goto (tgt := 4) hx hb d_X_waitingIn_51 (by decide) ?_
          rw [show nI (cnt (pWq f (nI qi)) i) = nI (cnt (pWq f (nI qi)) (i + 1)) from cnt_f (by simp [pWq, *])] at hl
          exact ih (i + 1) ls locs (by omega) (by omega) (lv_sub hl [2, 3, 4, 0] rfl) hS
        · refine lv_aload hx hb d_X_waitingIn_36 (zl hl rfl) ?_
          refine z_get (C := R_T) (T := F_T) (N := 12) (v := .ref (qad (qx f i))) hx hb hts inT_T hown hK hP (PX_t hX (k := i) (by omega)) rfl 1 (by decide) tw_400 (fun _ h => h) rfl d_X_waitingIn_38 ?_
          refine lv_aload_n hx hb d_X_waitingIn_41 rfl (zl hl rfl) ?_
          refine lv_acmp_ne (tgt := 48) (rx := (some (qad (qx f i)))) (ry := (some (qad qi))) hx hb d_X_waitingIn_42 (by decide) (fun c_3 => ?_) (fun c_3 => ?_)
          · have hq9 : ¬ f 1 i = nI qi := fun z => c_3 (by rw [(PX_okq hX i hlt).1] at z; rw [(nI_eq (by have := (PX_okq hX i hlt).2; omega) (by omega)).mp z])
            refine lv_iinc (v := (nI (i + 1))) (lv' := [(3, .int (nI (i + 1))), (4, .ref (tad i)), (0, .ref (xa 0)), (1, .ref (qad qi)), (2, .int (nI (cnt (pWq f (nI qi)) i)))]) hx hb d_X_waitingIn_48 hl (k := 4) rfl (nI_1 i) (by decide) rfl (fun ls hl => ?_)
            refine lv_goto (tgt := 4) hx hb d_X_waitingIn_51 (by decide) ?_
            rw [show nI (cnt (pWq f (nI qi)) i) = nI (cnt (pWq f (nI qi)) (i + 1)) from cnt_f (by simp [pWq, *])] at hl
            exact ih (i + 1) ls locs (by omega) (by omega) (lv_sub hl [2, 3, 4, 0] rfl) hS
          · have hq9 : f 1 i = nI qi := by rw [(PX_okq hX i hlt).1, PX_qi hX _ _ (PX_okq hX i hlt).2 hqi (Option.some.inj c_3)]
            refine lv_iinc (v := (nI (cnt (pWq f (nI qi)) i + 1))) (lv' := [(2, .int (nI (cnt (pWq f (nI qi)) i + 1))), (4, .ref (tad i)), (0, .ref (xa 0)), (1, .ref (qad qi)), (3, .int (nI i))]) hx hb d_X_waitingIn_45 hl (k := 3) rfl (nI_1 _) (by decide) rfl (fun ls hl => ?_)
            refine lv_iinc (v := (nI (i + 1))) (lv' := [(3, .int (nI (i + 1))), (2, .int (nI (cnt (pWq f (nI qi)) i + 1))), (4, .ref (tad i)), (0, .ref (xa 0)), (1, .ref (qad qi))]) hx hb d_X_waitingIn_48 hl (k := 4) rfl (nI_1 i) (by decide) rfl (fun ls hl => ?_)
            refine lv_goto (tgt := 4) hx hb d_X_waitingIn_51 (by decide) ?_
            rw [show nI (cnt (pWq f (nI qi)) i + 1) = nI (cnt (pWq f (nI qi)) (i + 1)) from cnt_t2 (by simp [pWq, *])] at hl
            exact ih (i + 1) ls locs (by omega) (by omega) (lv_sub hl [3, 4, 1, 0] rfl) hS
  have hl : lv_has ls 5 [(0, .ref (xa 0)), (1, .ref (qad qi))] := hl
  refine lv_iconst (v := 0) hx hb d_X_waitingIn_0 (by decide) ?_
  refine lv_istore_n (lv' := [(2, .int 0), (0, .ref (xa 0)), (1, .ref (qad qi))]) hx hb d_X_waitingIn_1 rfl hl (by decide) rfl (fun ls hl => ?_)
  refine lv_iconst (v := 0) hx hb d_X_waitingIn_2 (by decide) ?_
  refine lv_istore_n (lv' := [(3, .int 0), (2, .int 0), (0, .ref (xa 0)), (1, .ref (qad qi))]) hx hb d_X_waitingIn_3 rfl hl (by decide) rfl (fun ls hl => ?_)
  exact key (n + 1) 0 ls [] (Nat.zero_le _) (by omega) (lv_sub hl [2, 3, 1, 0] rfl) hS
set_option maxHeartbeats 4000000 in
set_option maxRecDepth 100000 in
theorem c_X_liveTasks (l : Launch) {D : va_G} {ws : va_W} {H : Heap} (hP : va_P D vwCl ws H) {kk : Nat → ClassId} {xa qad gad tad : Nat → Nat} {e0 : Nat} {time tok : Int32} {n : Nat} {f : FF} {ky : Nat → Int64} {h : FF} {qar gar arr : Nat → Option Nat} {ea cap : Nat} {md : Int32} (hX : PX kk xa qad gad tad e0 time tok n f ky h qar gar arr ea cap md ws)  : Met l y_X_liveTasks (Cond.code y_X_liveTasks b_X_liveTasks 1 (some .int) :: TT) ({ frames := 5, cells := 0, slots := 0, locals := 300 }) (zPc [.ref (xa 0)] H D vwCl (TY kk)) (zQi (nI (cnt (pLive f) n)) H) 0 0 (fun _ => False) := by
  refine z_body (by decide) (Nat.le_of_ble_eq_true rfl) ?_
  intro p e s m below meth c ls C0 hH hKN hl
  obtain ⟨hx, hb, hr, hts, hown, hlocks, hml⟩ := C0
  subst hH
  have hK := hKN.1
  have hN := hKN.2
  have hS : va_S (fun _ => False) s.heap s.heap [] := va_S.rf
  have hn := PX_n hX
  have hl : lv_has ls 1 [(0, .ref (xa 0))] := hl
  refine lv_aload_n hx hb d_X_liveTasks_0 rfl (zl hl rfl) ?_
  refine lv_iconst (v := 0) hx hb d_X_liveTasks_1 (by decide) ?_
  refine z_calli (va_runV (As := [.int 0]) (rest := []) ⟨hx, hb, hml, hown, hts⟩ (c_X_tasksThatAre l hP hX 0) (cwV 1 hts (tt_V tw_206 tw_203 tw_205 tw_3 tw_30) rfl rfl rfl (by decide +kernel) ⟨Nat.le_of_ble_eq_true rfl, Nat.le_of_ble_eq_true rfl⟩) (zPc_V hKN hP (ci := 3) (q := (R_X, F_X, 5)) rfl (PX_x hX)) rfl rfl hl.1 rfl (lv_room (Nat.le_of_ble_eq_true rfl)) d_X_liveTasks_2 ⟨Nat.zero_le _, Nat.zero_le _⟩) hS (fun locs hS => ?_)
  refine lv_aload_n hx hb d_X_liveTasks_5 rfl (zl hl rfl) ?_
  refine lv_iconst (v := 1) hx hb d_X_liveTasks_6 (by decide) ?_
  refine z_calli (va_runV (As := [.int 1]) (rest := [.int (nI (cnt (pSt f 0) n))]) ⟨hx, hb, hml, hown, hts⟩ (c_X_tasksThatAre l hP hX 1) (cwV 1 hts (tt_V tw_206 tw_203 tw_205 tw_3 tw_30) rfl rfl rfl (by decide +kernel) ⟨Nat.le_of_ble_eq_true rfl, Nat.le_of_ble_eq_true rfl⟩) (zPc_V hKN hP (ci := 3) (q := (R_X, F_X, 5)) rfl (PX_x hX)) rfl rfl hl.1 rfl (lv_room (Nat.le_of_ble_eq_true rfl)) d_X_liveTasks_7 ⟨Nat.zero_le _, Nat.zero_le _⟩) hS (fun locs hS => ?_)
  refine lv_iadd hx hb d_X_liveTasks_10 ?_
  exact z_iret hx hb hr hlocks hS (live_eq f n) d_X_liveTasks_11
end
section
theorem win_sub5 (x : Int32) : sWithin (x - 5) 0 7 = sWithin x 5 12 := by
  have h1 := Int32.le_toInt x
  have h2 := Int32.toInt_lt x
  simp only [sWithin, Int32.le_iff_toInt_le, Int32.toInt_sub, show (5 : Int32).toInt = 5 by decide, show (0 : Int32).toInt = 0 by decide, show (7 : Int32).toInt = 7 by decide, show (12 : Int32).toInt = 12 by decide, Int.bmod_def]
  rw [Bool.eq_iff_iff]
  simp only [Bool.and_eq_true, decide_eq_true_eq]
  omega
theorem win_sub13 (x : Int32) : sWithin (x - 13) 0 7 = sWithin x 13 20 := by
  have h1 := Int32.le_toInt x
  have h2 := Int32.toInt_lt x
  simp only [sWithin, Int32.le_iff_toInt_le, Int32.toInt_sub, show (13 : Int32).toInt = 13 by decide, show (0 : Int32).toInt = 0 by decide, show (7 : Int32).toInt = 7 by decide, show (20 : Int32).toInt = 20 by decide, Int.bmod_def]
  rw [Bool.eq_iff_iff]
  simp only [Bool.and_eq_true, decide_eq_true_eq]
  omega
theorem win_sub21 (x : Int32) : sWithin (x - 21) 0 3 = sWithin x 21 24 := by
  have h1 := Int32.le_toInt x
  have h2 := Int32.toInt_lt x
  simp only [sWithin, Int32.le_iff_toInt_le, Int32.toInt_sub, show (21 : Int32).toInt = 21 by decide, show (0 : Int32).toInt = 0 by decide, show (3 : Int32).toInt = 3 by decide, show (24 : Int32).toInt = 24 by decide, Int.bmod_def]
  rw [Bool.eq_iff_iff]
  simp only [Bool.and_eq_true, decide_eq_true_eq]
  omega
theorem comes_eq {f h : FF} {n i : Nat} (hr : rel f h n) (hi : i < n) : (sLive (f 6 i) = true ∧ sComes (f 6 i) (h 0 i) (h 1 i) = f 7 i) ∨ (sLive (f 6 i) = false ∧ sComes (f 6 i) (h 0 i) (h 1 i) = -1) := by
  have h1 := hr i hi
  unfold sLive sComes
  by_cases h0 : f 6 i = 0
  · left
    simp [h0, h1.1 h0]
  · by_cases h2 : f 6 i = 1
    · left
      simp [h2, (h1.2.1 h2).1]
    · right
      simp [h0, h2]
set_option maxHeartbeats 4000000 in
set_option maxRecDepth 100000 in
theorem c_X_lentWith (l : Launch) {D : va_G} {ws : va_W} {H : Heap} (hP : va_P D vwCl ws H) {kk : Nat → ClassId} {xa qad gad tad : Nat → Nat} {e0 : Nat} {time tok : Int32} {n : Nat} {f : FF} {ky : Nat → Int64} {h : FF} {qar gar arr : Nat → Option Nat} {ea cap : Nat} {md : Int32} (hX : PX kk xa qad gad tad e0 time tok n f ky h qar gar arr ea cap md ws) (v : Int32) : Met l y_X_lentWith (Cond.code y_X_lentWith b_X_lentWith 4 (some (.object "LoanRounds$Task")) :: TT) ({ frames := 4, cells := 0, slots := 0, locals := 240 }) (zPc [.ref (xa 0), .int v] H D vwCl (TY kk)) (zQq ((fnd (pTok f v) 0 n).map tad) H) 0 0 (fun _ => False) := by
  refine z_body (by decide) (Nat.le_of_ble_eq_true rfl) ?_
  intro p e s m below meth c ls C0 hH hKN hl
  obtain ⟨hx, hb, hr, hts, hown, hlocks, hml⟩ := C0
  subst hH
  have hK := hKN.1
  have hN := hKN.2
  have hS : va_S (fun _ => False) s.heap s.heap [] := va_S.rf
  have hn := PX_n hX
  have key : ∀ (r i : Nat) (ls : Array Slot) (locs : List Loc), i ≤ n → n + 1 ≤ i + r → (∀ k, k < i → pTok f v k = false) → lv_has ls 4 [(0, .ref (xa 0)), (1, .int v), (2, .int (nI i))] → va_S (fun _ => False) s.heap s.heap locs → W p l e ({ frames := 4, cells := 0, slots := 0, locals := 240 }) s m ([.ref (xa 0), .int v] : List Value).toArray below meth c s.heap locs 0 0 (MQ below (zQq ((fnd (pTok f v) 0 n).map tad) s.heap) ([.ref (xa 0), .int v] : List Value).toArray s 0 0 (fun _ => False)) (F0 m 2 ls []) := by
    intro r
    induction r with
    | zero => intro i ls locs h1 h2; omega
    | succ r ih =>
      intro i ls locs hi hir hno hl hS
      refine lv_iload_n hx hb d_X_lentWith_2 rfl (zl hl rfl) ?_
      refine lv_aload_n hx hb d_X_lentWith_3 rfl (zl hl rfl) ?_
      refine z_get (C := R_X) (T := F_X) (N := 5) (v := .ref (xa 3)) hx hb hts inT_X hown hK hP (PX_x hX) rfl 2 (by decide) tw_135 (fun _ h => h) rfl d_X_lentWith_4 ?_
      refine z_calli (va_runV (As := []) (rest := [.int (nI i)]) ⟨hx, hb, hml, hown, hts⟩ (c_A_size l hP (PX_l hX)) (cwV 0 hts (tt_V tw_160 tw_157 tw_158 tw_159 tw_33) rfl rfl rfl (by decide +kernel) ⟨Nat.le_of_ble_eq_true rfl, Nat.le_of_ble_eq_true rfl⟩) (zPc_V hKN hP (ci := 5) (q := (R_A, F_A, 3)) rfl (PX_l hX)) rfl rfl hl.1 rfl (lv_room (Nat.le_of_ble_eq_true rfl)) d_X_lentWith_7 ⟨Nat.zero_le _, Nat.zero_le _⟩) hS (fun locs hS => ?_)
      refine lv_icmp_ge (tgt := 49) hx hb d_X_lentWith_10 (by decide) (fun c_1 => ?_) (fun c_1 => ?_)
      · have hin := z_ge hi (by omega) c_1
        refine lv_null hx hb d_X_lentWith_49 ?_
        exact z_qret (v := none) hx hb hr (Or.inl ⟨_, rfl⟩) hlocks hS (by rw [fnd_no n 0 (fun j _ hj => hno j (by omega))]; rfl) d_X_lentWith_50
      · have hlt := z_lt hi (by omega) c_1
        refine lv_aload_n hx hb d_X_lentWith_13 rfl (zl hl rfl) ?_
        refine z_get (C := R_X) (T := F_X) (N := 5) (v := .ref (xa 3)) hx hb hts inT_X hown hK hP (PX_x hX) rfl 2 (by decide) tw_135 (fun _ h => h) rfl d_X_lentWith_14 ?_
        refine lv_iload_n hx hb d_X_lentWith_17 rfl (zl hl rfl) ?_
        have he := PX_e hX (i := i) (by omega)
        refine z_callq (va_runV (As := [.int (nI i)]) (rest := []) ⟨hx, hb, hml, hown, hts⟩ (c_A_get l hP (PX_l hX) he.1 i (by omega) (by omega) (PX_tr hX (by omega)) (by omega) (by omega)) (cwV 1 hts (tt_V tw_164 tw_161 tw_162 tw_163 tw_33) rfl rfl rfl (by decide +kernel) ⟨Nat.le_of_ble_eq_true rfl, Nat.le_of_ble_eq_true rfl⟩) (zPc_V hKN hP (ci := 5) (q := (R_A, F_A, 3)) rfl (PX_l hX)) rfl rfl hl.1 rfl (lv_room (Nat.le_of_ble_eq_true rfl)) d_X_lentWith_18 ⟨Nat.zero_le _, Nat.zero_le _⟩) hS (fun locs hS => ?_)
        refine z_cast (ci := 2) (q := (R_T, F_T, 12)) hx hb hts hown tw_175 hK hP (PX_t hX (k := i) (by omega)) rfl d_X_lentWith_21 ?_
        refine lv_astore_n (lv' := [(3, .ref (tad i)), (0, .ref (xa 0)), (1, .int v), (2, .int (nI i))]) hx hb d_X_lentWith_24 rfl hl (by decide) rfl (fun ls hl => ?_)
        refine lv_aload_n hx hb d_X_lentWith_25 rfl (zl hl rfl) ?_
        refine z_get (C := R_T) (T := F_T) (N := 12) (v := .int (f 6 i)) hx hb hts inT_T hown hK hP (PX_t hX (k := i) (by omega)) rfl 5 (by decide) tw_406 (fun _ h => h) rfl d_X_lentWith_26 ?_
        refine lv_iconst (v := 1) hx hb d_X_lentWith_29 (by decide) ?_
        refine lv_icmp_ne (tgt := 43) hx hb d_X_lentWith_30 (by decide) (fun c_2 => ?_) (fun c_2 => ?_)
        · refine lv_iinc (v := (nI (i + 1))) (lv' := [(2, .int (nI (i + 1))), (3, .ref (tad i)), (0, .ref (xa 0)), (1, .int v)]) hx hb d_X_lentWith_43 hl (k := 3) rfl (nI_1 i) (by decide) rfl (fun ls hl => ?_)
          refine lv_goto (tgt := 2) hx hb d_X_lentWith_46 (by decide) ?_
          exact ih (i + 1) ls locs (by omega) (by omega) (lt_s hno (by simp [pTok, *])) (lv_sub hl [2, 3, 0] rfl) hS
        · have c9 := c_2
          have hr3 := ((PX_rel hX i hlt).2.1 c_2).2.2
          refine lv_aload_n hx hb d_X_lentWith_33 rfl (zl hl rfl) ?_
          refine z_get (C := R_T) (T := F_T) (N := 12) (v := .int (h 3 i)) hx hb hts inT_T hown hK hP (PX_t hX (k := i) (by omega)) rfl 10 (by decide) tw_416 (fun _ h => h) rfl d_X_lentWith_34 ?_
          refine lv_iload_n hx hb d_X_lentWith_37 rfl (zl hl rfl) ?_
          refine lv_icmp_ne (tgt := 43) hx hb d_X_lentWith_38 (by decide) (fun c_3 => ?_) (fun c_3 => ?_)
          · have c8 : ¬ f 9 i = v := by rw [← hr3]; exact c_3
            clear hr3
            refine lv_iinc (v := (nI (i + 1))) (lv' := [(2, .int (nI (i + 1))), (3, .ref (tad i)), (0, .ref (xa 0)), (1, .int v)]) hx hb d_X_lentWith_43 hl (k := 3) rfl (nI_1 i) (by decide) rfl (fun ls hl => ?_)
            refine lv_goto (tgt := 2) hx hb d_X_lentWith_46 (by decide) ?_
            exact ih (i + 1) ls locs (by omega) (by omega) (lt_s hno (by simp [pTok, *])) (lv_sub hl [2, 3, 0] rfl) hS
          · have c8 :  f 9 i = v := by rw [← hr3]; exact c_3
            clear hr3
            refine lv_aload_n hx hb d_X_lentWith_41 rfl (zl hl rfl) ?_
            exact z_qret (v := some (tad i)) hx hb hr (Or.inl ⟨_, rfl⟩) hlocks hS (by rw [fnd_at n 0 i (Nat.zero_le _) (by omega) (fun j _ hj => hno j hj) (by simp [pTok, *])]; rfl) d_X_lentWith_42
  have hl : lv_has ls 4 [(0, .ref (xa 0)), (1, .int v)] := hl
  refine lv_iconst (v := 0) hx hb d_X_lentWith_0 (by decide) ?_
  refine lv_istore_n (lv' := [(2, .int 0), (0, .ref (xa 0)), (1, .int v)]) hx hb d_X_lentWith_1 rfl hl (by decide) rfl (fun ls hl => ?_)
  exact key (n + 1) 0 ls [] (Nat.zero_le _) (by omega) lt_0 (lv_sub hl [1, 2, 0] rfl) hS
set_option maxHeartbeats 4000000 in
set_option maxRecDepth 100000 in
theorem c_X_numberUnder (l : Launch) {D : va_G} {ws : va_W} {H : Heap} (hP : va_P D vwCl ws H) {kk : Nat → ClassId} {xa qad gad tad : Nat → Nat} {e0 : Nat} {time tok : Int32} {n : Nat} {f : FF} {ky : Nat → Int64} {h : FF} {qar gar arr : Nat → Option Nat} {ea cap : Nat} {md : Int32} (hX : PX kk xa qad gad tad e0 time tok n f ky h qar gar arr ea cap md ws) (qi : Nat) (hqi : qi < 4) (kv : Int64) (hk0 : ¬ kv = 0) : Met l y_X_numberUnder (Cond.code y_X_numberUnder b_X_numberUnder 6 (some .int) :: TT) ({ frames := 4, cells := 0, slots := 0, locals := 240 }) (zPc [.ref (xa 0), .ref (qad qi), .long kv] H D vwCl (TY kk)) (zQi (oI (lstD (pKey f ky time qi kv) n)) H) 0 0 (fun _ => False) := by
  refine z_body (by decide) (Nat.le_of_ble_eq_true rfl) ?_
  intro p e s m below meth c ls C0 hH hKN hl
  obtain ⟨hx, hb, hr, hts, hown, hlocks, hml⟩ := C0
  subst hH
  have hK := hKN.1
  have hN := hKN.2
  have hS : va_S (fun _ => False) s.heap s.heap [] := va_S.rf
  have hn := PX_n hX
  have key : ∀ (i : Nat) (ls : Array Slot) (locs : List Loc), i ≤ n → lstD (pKey f ky time qi kv) n = lstD (pKey f ky time qi kv) i → lv_has ls 6 [(0, .ref (xa 0)), (1, .ref (qad qi)), (2, .long kv), (4, .int (pr i))] → va_S (fun _ => False) s.heap s.heap locs → W p l e ({ frames := 4, cells := 0, slots := 0, locals := 240 }) s m ([.ref (xa 0), .ref (qad qi), .long kv] : List Value).toArray below meth c s.heap locs 0 0 (MQ below (zQi (oI (lstD (pKey f ky time qi kv) n)) s.heap) ([.ref (xa 0), .ref (qad qi), .long kv] : List Value).toArray s 0 0 (fun _ => False)) (F0 m 11 ls []) := by
    intro i
    induction i with
    | zero =>
      intro ls locs hi hst hl hS
      have hl : lv_has ls 6 [(0, .ref (xa 0)), (1, .ref (qad qi)), (2, .long kv), (4, .int (-1))] := hl
      refine lv_iload hx hb d_X_numberUnder_11 (zl hl rfl) ?_
      refine lv_if_lt (tgt := 70) hx hb d_X_numberUnder_13 (by decide) (fun c_1 => ?_) (fun c_1 => ?_)
      · refine lv_iconst (v := (-1)) hx hb d_X_numberUnder_70 (by decide) ?_
        exact z_iret hx hb hr hlocks hS (by rw [hst]; rfl) d_X_numberUnder_71
      · exact absurd (by decide) c_1
    | succ j ih =>
      intro ls locs hi hst hl hS
      have hl : lv_has ls 6 [(0, .ref (xa 0)), (1, .ref (qad qi)), (2, .long kv), (4, .int (nI j))] := hl
      have hqj := (PX_okq hX j (by omega)).2
      have hke := key_eq hX (t := j) (by omega) hk0 hqi
      refine lv_iload hx hb d_X_numberUnder_11 (zl hl rfl) ?_
      refine lv_if_lt (tgt := 70) hx hb d_X_numberUnder_13 (by decide) (fun c_1 => ?_) (fun c_1 => ?_)
      · exact absurd c_1 (nI_pos (by omega))
      · refine lv_aload_n hx hb d_X_numberUnder_16 rfl (zl hl rfl) ?_
        refine z_get (C := R_X) (T := F_X) (N := 5) (v := .ref (xa 3)) hx hb hts inT_X hown hK hP (PX_x hX) rfl 2 (by decide) tw_135 (fun _ h => h) rfl d_X_numberUnder_17 ?_
        refine lv_iload hx hb d_X_numberUnder_20 (zl hl rfl) ?_
        have he := PX_e hX (i := j) (by omega)
        refine z_callq (va_runV (As := [.int (nI j)]) (rest := []) ⟨hx, hb, hml, hown, hts⟩ (c_A_get l hP (PX_l hX) he.1 j (by omega) (by omega) (PX_tr hX (by omega)) (by omega) (by omega)) (cwV 1 hts (tt_V tw_164 tw_161 tw_162 tw_163 tw_33) rfl rfl rfl (by decide +kernel) ⟨Nat.le_of_ble_eq_true rfl, Nat.le_of_ble_eq_true rfl⟩) (zPc_V hKN hP (ci := 5) (q := (R_A, F_A, 3)) rfl (PX_l hX)) rfl rfl hl.1 rfl (lv_room (Nat.le_of_ble_eq_true rfl)) d_X_numberUnder_22 ⟨Nat.zero_le _, Nat.zero_le _⟩) hS (fun locs hS => ?_)
        refine z_cast (ci := 2) (q := (R_T, F_T, 12)) hx hb hts hown tw_175 hK hP (PX_t hX (k := j) (by omega)) rfl d_X_numberUnder_25 ?_
        refine lv_astore (lv' := [(5, .ref (tad j)), (0, .ref (xa 0)), (1, .ref (qad qi)), (2, .long kv), (4, .int (nI j))]) hx hb d_X_numberUnder_28 hl (by decide) rfl (fun ls hl => ?_)
        refine lv_aload hx hb d_X_numberUnder_30 (zl hl rfl) ?_
        refine z_get (C := R_T) (T := F_T) (N := 12) (v := .ref (qad (qx f j))) hx hb hts inT_T hown hK hP (PX_t hX (k := j) (by omega)) rfl 1 (by decide) tw_400 (fun _ h => h) rfl d_X_numberUnder_32 ?_
        refine lv_aload_n hx hb d_X_numberUnder_35 rfl (zl hl rfl) ?_
        refine lv_acmp_ne (tgt := 64) (rx := (some (qad (qx f j)))) (ry := (some (qad qi))) hx hb d_X_numberUnder_36 (by decide) (fun c_2 => ?_) (fun c_2 => ?_)
        · have b1 : ¬ qx f j = qi := fun z => c_2 (by rw [z])
          refine lv_iinc (v := (pr j)) (lv' := [(4, .int (pr j)), (5, .ref (tad j)), (0, .ref (xa 0)), (1, .ref (qad qi)), (2, .long kv)]) hx hb d_X_numberUnder_64 hl (k := 4) rfl (pr_dec j) (by decide) rfl (fun ls hl => ?_)
          refine lv_goto (tgt := 11) hx hb d_X_numberUnder_67 (by decide) ?_
          exact ih ls locs (by omega) (by rw [hst]; exact lstD_f (by rw [hke]; first | (simp [*]; done) | (rw [b4]; simp [*]; done))) (lv_sub hl [2, 3, 4, 0] rfl) hS
        · have b1 : qx f j = qi := PX_qi hX _ _ hqj hqi (Option.some.inj c_2)
          refine lv_aload hx hb d_X_numberUnder_39 (zl hl rfl) ?_
          refine z_get (C := R_T) (T := F_T) (N := 12) (v := .long (ky j)) hx hb hts inT_T hown hK hP (PX_t hX (k := j) (by omega)) rfl 4 (by decide) tw_404 (fun _ h => h) rfl d_X_numberUnder_41 ?_
          refine lv_lload_n hx hb d_X_numberUnder_44 rfl (zl hl rfl) ?_
          refine W.lcmp hx hb d_X_numberUnder_45 ?_
          refine lv_if_ne (tgt := 64) hx hb d_X_numberUnder_46 (by decide) (fun c_3 => ?_) (fun c_3 => ?_)
          · have b2 : ¬ ky j = kv := fun z => c_3 (lgc.mpr z)
            refine lv_iinc (v := (pr j)) (lv' := [(4, .int (pr j)), (5, .ref (tad j)), (0, .ref (xa 0)), (1, .ref (qad qi)), (2, .long kv)]) hx hb d_X_numberUnder_64 hl (k := 4) rfl (pr_dec j) (by decide) rfl (fun ls hl => ?_)
            refine lv_goto (tgt := 11) hx hb d_X_numberUnder_67 (by decide) ?_
            exact ih ls locs (by omega) (by rw [hst]; exact lstD_f (by rw [hke]; first | (simp [*]; done) | (rw [b4]; simp [*]; done))) (lv_sub hl [2, 3, 4, 0] rfl) hS
          · have b2 : ky j = kv := lgc.mp c_3
            refine lv_aload hx hb d_X_numberUnder_49 (zl hl rfl) ?_
            refine lv_aload_n hx hb d_X_numberUnder_51 rfl (zl hl rfl) ?_
            refine z_get (C := R_X) (T := F_X) (N := 5) (v := .int time) hx hb hts inT_X hown hK hP (PX_x hX) rfl 3 (by decide) tw_136 (fun _ h => h) rfl d_X_numberUnder_52 ?_
            refine z_calli (va_runV (As := [.int time]) (rest := []) ⟨hx, hb, hml, hown, hts⟩ (c_T_holdsKey l hP (PX_t hX (k := j) (by omega)) (PX_q hX hqj) time) (cwV 1 hts (tt_V tw_374 tw_371 tw_372 tw_373 tw_44) rfl rfl rfl (by decide +kernel) ⟨Nat.le_of_ble_eq_true rfl, Nat.le_of_ble_eq_true rfl⟩) (zPc_V hKN hP (ci := 2) (q := (R_T, F_T, 12)) rfl (PX_t hX (k := j) (by omega))) rfl rfl hl.1 rfl (lv_room (Nat.le_of_ble_eq_true rfl)) d_X_numberUnder_55 ⟨Nat.zero_le _, Nat.zero_le _⟩) hS (fun locs hS => ?_)
            refine lv_if_eq (tgt := 64) hx hb d_X_numberUnder_58 (by decide) (fun c_4 => ?_) (fun c_4 => ?_)
            · have b4 := zb_f c_4
              refine lv_iinc (v := (pr j)) (lv' := [(4, .int (pr j)), (5, .ref (tad j)), (0, .ref (xa 0)), (1, .ref (qad qi)), (2, .long kv)]) hx hb d_X_numberUnder_64 hl (k := 4) rfl (pr_dec j) (by decide) rfl (fun ls hl => ?_)
              refine lv_goto (tgt := 11) hx hb d_X_numberUnder_67 (by decide) ?_
              exact ih ls locs (by omega) (by rw [hst]; exact lstD_f (by rw [hke]; first | (simp [*]; done) | (rw [b4]; simp [*]; done))) (lv_sub hl [2, 3, 4, 0] rfl) hS
            · have b4 := zb_t c_4
              refine lv_iload hx hb d_X_numberUnder_61 (zl hl rfl) ?_
              exact z_iret hx hb hr hlocks hS (by rw [hst, lstD_t (by rw [hke]; first | (simp [*]; done) | (rw [b4]; simp [*]; done))]; rfl) d_X_numberUnder_63
  have hl : lv_has ls 6 [(0, .ref (xa 0)), (1, .ref (qad qi)), (2, .long kv)] := hl
  refine lv_aload_n hx hb d_X_numberUnder_0 rfl (zl hl rfl) ?_
  refine z_get (C := R_X) (T := F_X) (N := 5) (v := .ref (xa 3)) hx hb hts inT_X hown hK hP (PX_x hX) rfl 2 (by decide) tw_135 (fun _ h => h) rfl d_X_numberUnder_1 ?_
  refine z_calli (va_runV (As := []) (rest := []) ⟨hx, hb, hml, hown, hts⟩ (c_A_size l hP (PX_l hX)) (cwV 0 hts (tt_V tw_160 tw_157 tw_158 tw_159 tw_33) rfl rfl rfl (by decide +kernel) ⟨Nat.le_of_ble_eq_true rfl, Nat.le_of_ble_eq_true rfl⟩) (zPc_V hKN hP (ci := 5) (q := (R_A, F_A, 3)) rfl (PX_l hX)) rfl rfl hl.1 rfl (lv_room (Nat.le_of_ble_eq_true rfl)) d_X_numberUnder_4 ⟨Nat.zero_le _, Nat.zero_le _⟩) hS (fun locs hS => ?_)
  refine lv_iconst (v := 1) hx hb d_X_numberUnder_7 (by decide) ?_
  refine lv_isub hx hb d_X_numberUnder_8 ?_
  refine z_top (y := pr n) (pr_sub n) ?_
  refine lv_istore (lv' := [(4, .int (pr n)), (0, .ref (xa 0)), (1, .ref (qad qi)), (2, .long kv)]) hx hb d_X_numberUnder_9 hl (by decide) rfl (fun ls hl => ?_)
  exact key n ls _ (Nat.le_refl _) rfl (lv_sub hl [1, 2, 3, 0] rfl) hS
set_option maxHeartbeats 4000000 in
set_option maxRecDepth 100000 in
theorem c_X_firstOf (l : Launch) {D : va_G} {ws : va_W} {H : Heap} (hP : va_P D vwCl ws H) {kk : Nat → ClassId} {xa qad gad tad : Nat → Nat} {e0 : Nat} {time tok : Int32} {n : Nat} {f : FF} {ky : Nat → Int64} {h : FF} {qar gar arr : Nat → Option Nat} {ea cap : Nat} {md : Int32} (hX : PX kk xa qad gad tad e0 time tok n f ky h qar gar arr ea cap md ws) (qi : Nat) (hqi : qi < 4) : Met l y_X_firstOf (Cond.code y_X_firstOf b_X_firstOf 5 (some (.object "LoanRounds$Task")) :: TT) ({ frames := 4, cells := 0, slots := 0, locals := 240 }) (zPc [.ref (xa 0), .ref (qad qi)] H D vwCl (TY kk)) (zQq ((fst f time n (nI qi) n).map tad) H) 0 0 (fun _ => False) := by
  refine z_body (by decide) (Nat.le_of_ble_eq_true rfl) ?_
  intro p e s m below meth c ls C0 hH hKN hl
  obtain ⟨hx, hb, hr, hts, hown, hlocks, hml⟩ := C0
  subst hH
  have hK := hKN.1
  have hN := hKN.2
  have hS : va_S (fun _ => False) s.heap s.heap [] := va_S.rf
  have hn := PX_n hX
  have key : ∀ (r i : Nat) (best : Option Nat) (ls : Array Slot) (locs : List Loc), i ≤ n → n + 1 ≤ i + r → fst f time n (nI qi) i = best → lv_has ls 5 [(0, .ref (xa 0)), (1, .ref (qad qi)), (2, va_rf (best.map tad)), (3, .int (nI i))] → va_S (fun _ => False) s.heap s.heap locs → W p l e ({ frames := 4, cells := 0, slots := 0, locals := 240 }) s m ([.ref (xa 0), .ref (qad qi)] : List Value).toArray below meth c s.heap locs 0 0 (MQ below (zQq ((fst f time n (nI qi) n).map tad) s.heap) ([.ref (xa 0), .ref (qad qi)] : List Value).toArray s 0 0 (fun _ => False)) (F0 m 4 ls []) := by
    intro r
    induction r with
    | zero => intro i best ls locs h1 h2; omega
    | succ r ih =>
      intro i best ls locs hi hir hbe hl hS
      cases best with
      | none =>
        have hl : lv_has ls 5 [(0, .ref (xa 0)), (1, .ref (qad qi)), (2, .null), (3, .int (nI i))] := hl
        refine lv_iload_n hx hb d_X_firstOf_4 rfl (zl hl rfl) ?_
        refine lv_aload_n hx hb d_X_firstOf_5 rfl (zl hl rfl) ?_
        refine z_get (C := R_X) (T := F_X) (N := 5) (v := .ref (xa 3)) hx hb hts inT_X hown hK hP (PX_x hX) rfl 2 (by decide) tw_135 (fun _ h => h) rfl d_X_firstOf_6 ?_
        refine z_calli (va_runV (As := []) (rest := [.int (nI i)]) ⟨hx, hb, hml, hown, hts⟩ (c_A_size l hP (PX_l hX)) (cwV 0 hts (tt_V tw_160 tw_157 tw_158 tw_159 tw_33) rfl rfl rfl (by decide +kernel) ⟨Nat.le_of_ble_eq_true rfl, Nat.le_of_ble_eq_true rfl⟩) (zPc_V hKN hP (ci := 5) (q := (R_A, F_A, 3)) rfl (PX_l hX)) rfl rfl hl.1 rfl (lv_room (Nat.le_of_ble_eq_true rfl)) d_X_firstOf_9 ⟨Nat.zero_le _, Nat.zero_le _⟩) hS (fun locs hS => ?_)
        refine lv_icmp_ge (tgt := 75) hx hb d_X_firstOf_12 (by decide) (fun c_1 => ?_) (fun c_1 => ?_)
        · have hin := z_ge hi (by omega) c_1
          refine lv_aload_nN hx hb d_X_firstOf_75 rfl (zl hl rfl) ?_
          exact z_qret (v := none) hx hb hr (Or.inl ⟨_, rfl⟩) hlocks hS (by subst hin; rw [hbe]; rfl) d_X_firstOf_76
        · have hlt := z_lt hi (by omega) c_1
          refine lv_aload_n hx hb d_X_firstOf_15 rfl (zl hl rfl) ?_
          refine z_get (C := R_X) (T := F_X) (N := 5) (v := .ref (xa 3)) hx hb hts inT_X hown hK hP (PX_x hX) rfl 2 (by decide) tw_135 (fun _ h => h) rfl d_X_firstOf_16 ?_
          refine lv_iload_n hx hb d_X_firstOf_19 rfl (zl hl rfl) ?_
          have he := PX_e hX (i := i) (by omega)
          refine z_callq (va_runV (As := [.int (nI i)]) (rest := []) ⟨hx, hb, hml, hown, hts⟩ (c_A_get l hP (PX_l hX) he.1 i (by omega) (by omega) (PX_tr hX (by omega)) (by omega) (by omega)) (cwV 1 hts (tt_V tw_164 tw_161 tw_162 tw_163 tw_33) rfl rfl rfl (by decide +kernel) ⟨Nat.le_of_ble_eq_true rfl, Nat.le_of_ble_eq_true rfl⟩) (zPc_V hKN hP (ci := 5) (q := (R_A, F_A, 3)) rfl (PX_l hX)) rfl rfl hl.1 rfl (lv_room (Nat.le_of_ble_eq_true rfl)) d_X_firstOf_20 ⟨Nat.zero_le _, Nat.zero_le _⟩) hS (fun locs hS => ?_)
          refine z_cast (ci := 2) (q := (R_T, F_T, 12)) hx hb hts hown tw_175 hK hP (PX_t hX (k := i) (by omega)) rfl d_X_firstOf_23 ?_
          refine lv_astore (lv' := [(4, .ref (tad i)), (0, .ref (xa 0)), (1, .ref (qad qi)), (2, .null), (3, .int (nI i))]) hx hb d_X_firstOf_26 hl (by decide) rfl (fun ls hl => ?_)
          refine lv_aload hx hb d_X_firstOf_28 (zl hl rfl) ?_
          refine z_get (C := R_T) (T := F_T) (N := 12) (v := .ref (qad (qx f i))) hx hb hts inT_T hown hK hP (PX_t hX (k := i) (by omega)) rfl 1 (by decide) tw_400 (fun _ h => h) rfl d_X_firstOf_30 ?_
          refine lv_aload_n hx hb d_X_firstOf_33 rfl (zl hl rfl) ?_
          refine lv_acmp_ne (tgt := 69) (rx := (some (qad (qx f i)))) (ry := (some (qad qi))) hx hb d_X_firstOf_34 (by decide) (fun c_2 => ?_) (fun c_2 => ?_)
          · have b0 : ¬ f 1 i = nI qi := fun z => c_2 (by rw [(PX_okq hX i hlt).1] at z; rw [(nI_eq (by have := (PX_okq hX i hlt).2; omega) (by omega)).mp z])
            refine lv_iinc (v := (nI (i + 1))) (lv' := [(3, .int (nI (i + 1))), (4, .ref (tad i)), (0, .ref (xa 0)), (1, .ref (qad qi)), (2, .null)]) hx hb d_X_firstOf_69 hl (k := 4) rfl (nI_1 i) (by decide) rfl (fun ls hl => ?_)
            refine lv_goto (tgt := 4) hx hb d_X_firstOf_72 (by decide) ?_
            have hst : fst f time n (nI qi) (i + 1) = (none) := by
              show fStep f time n (nI qi) (fst f time n (nI qi) i) i = (none)
              rw [hbe]
              simp [fStep, fBetter, *]
            exact ih (i + 1) (none) ls locs (by omega) (by omega) hst (lv_sub hl [2, 3, 4, 0] rfl) hS
          · have b1 : qx f i = qi := PX_qi hX _ _ (PX_okq hX i hlt).2 hqi (Option.some.inj c_2)
            have b0 : f 1 i = nI qi := by rw [(PX_okq hX i hlt).1, b1]
            refine lv_aload hx hb d_X_firstOf_37 (zl hl rfl) ?_
            refine lv_aload_n hx hb d_X_firstOf_39 rfl (zl hl rfl) ?_
            refine z_get (C := R_X) (T := F_X) (N := 5) (v := .int time) hx hb hts inT_X hown hK hP (PX_x hX) rfl 3 (by decide) tw_136 (fun _ h => h) rfl d_X_firstOf_40 ?_
            refine z_calli (va_runV (As := [.int time]) (rest := []) ⟨hx, hb, hml, hown, hts⟩ (c_T_mayBeHad l hP (PX_t hX (k := i) (by omega)) (PX_tg hX (k := i) (by omega)) time) (cwV 1 hts (tt_V tw_246 tw_243 tw_244 tw_245 tw_44) rfl rfl rfl (by decide +kernel) ⟨Nat.le_of_ble_eq_true rfl, Nat.le_of_ble_eq_true rfl⟩) (zPc_V hKN hP (ci := 2) (q := (R_T, F_T, 12)) rfl (PX_t hX (k := i) (by omega))) rfl rfl hl.1 rfl (lv_room (Nat.le_of_ble_eq_true rfl)) d_X_firstOf_43 ⟨Nat.zero_le _, Nat.zero_le _⟩) hS (fun locs hS => ?_)
            rw [had_eq hX (by omega)]
            refine lv_if_eq (tgt := 69) hx hb d_X_firstOf_46 (by decide) (fun c_3 => ?_) (fun c_3 => ?_)
            · have b2 := zb_f c_3
              refine lv_iinc (v := (nI (i + 1))) (lv' := [(3, .int (nI (i + 1))), (4, .ref (tad i)), (0, .ref (xa 0)), (1, .ref (qad qi)), (2, .null)]) hx hb d_X_firstOf_69 hl (k := 4) rfl (nI_1 i) (by decide) rfl (fun ls hl => ?_)
              refine lv_goto (tgt := 4) hx hb d_X_firstOf_72 (by decide) ?_
              have hst : fst f time n (nI qi) (i + 1) = (none) := by
                show fStep f time n (nI qi) (fst f time n (nI qi) i) i = (none)
                rw [hbe]
                simp [fStep, fBetter, *]
              exact ih (i + 1) (none) ls locs (by omega) (by omega) hst (lv_sub hl [2, 3, 4, 0] rfl) hS
            · have b2 := zb_t c_3
              refine lv_aload_nN hx hb d_X_firstOf_49 rfl (zl hl rfl) ?_
              refine lv_ifnullN (tgt := 66) hx hb d_X_firstOf_50 (by decide) ?_
              refine lv_aload hx hb d_X_firstOf_66 (zl hl rfl) ?_
              refine lv_astore_n (lv' := [(2, .ref (tad i)), (4, .ref (tad i)), (0, .ref (xa 0)), (1, .ref (qad qi)), (3, .int (nI i))]) hx hb d_X_firstOf_68 rfl hl (by decide) rfl (fun ls hl => ?_)
              refine lv_iinc (v := (nI (i + 1))) (lv' := [(3, .int (nI (i + 1))), (2, .ref (tad i)), (4, .ref (tad i)), (0, .ref (xa 0)), (1, .ref (qad qi))]) hx hb d_X_firstOf_69 hl (k := 4) rfl (nI_1 i) (by decide) rfl (fun ls hl => ?_)
              refine lv_goto (tgt := 4) hx hb d_X_firstOf_72 (by decide) ?_
              have hst : fst f time n (nI qi) (i + 1) = (some i) := by
                show fStep f time n (nI qi) (fst f time n (nI qi) i) i = (some i)
                rw [hbe]
                simp [fStep, fBetter, *]
              exact ih (i + 1) (some i) ls locs (by omega) (by omega) hst (lv_sub hl [3, 4, 1, 0] rfl) hS
      | some b =>
        obtain ⟨hbi, hbq, hbh⟩ := fst_lt hbe
        have hqb : qx f b = qi := by have e9 := (PX_okq hX b (by omega)); rw [e9.1] at hbq; exact (nI_eq (by have := e9.2; omega) (by omega)).mp hbq
        have hl : lv_has ls 5 [(0, .ref (xa 0)), (1, .ref (qad qi)), (2, .ref (tad b)), (3, .int (nI i))] := hl
        refine lv_iload_n hx hb d_X_firstOf_4 rfl (zl hl rfl) ?_
        refine lv_aload_n hx hb d_X_firstOf_5 rfl (zl hl rfl) ?_
        refine z_get (C := R_X) (T := F_X) (N := 5) (v := .ref (xa 3)) hx hb hts inT_X hown hK hP (PX_x hX) rfl 2 (by decide) tw_135 (fun _ h => h) rfl d_X_firstOf_6 ?_
        refine z_calli (va_runV (As := []) (rest := [.int (nI i)]) ⟨hx, hb, hml, hown, hts⟩ (c_A_size l hP (PX_l hX)) (cwV 0 hts (tt_V tw_160 tw_157 tw_158 tw_159 tw_33) rfl rfl rfl (by decide +kernel) ⟨Nat.le_of_ble_eq_true rfl, Nat.le_of_ble_eq_true rfl⟩) (zPc_V hKN hP (ci := 5) (q := (R_A, F_A, 3)) rfl (PX_l hX)) rfl rfl hl.1 rfl (lv_room (Nat.le_of_ble_eq_true rfl)) d_X_firstOf_9 ⟨Nat.zero_le _, Nat.zero_le _⟩) hS (fun locs hS => ?_)
        refine lv_icmp_ge (tgt := 75) hx hb d_X_firstOf_12 (by decide) (fun c_1 => ?_) (fun c_1 => ?_)
        · have hin := z_ge hi (by omega) c_1
          refine lv_aload_n hx hb d_X_firstOf_75 rfl (zl hl rfl) ?_
          exact z_qret (v := some (tad b)) hx hb hr (Or.inl ⟨_, rfl⟩) hlocks hS (by subst hin; rw [hbe]; rfl) d_X_firstOf_76
        · have hlt := z_lt hi (by omega) c_1
          refine lv_aload_n hx hb d_X_firstOf_15 rfl (zl hl rfl) ?_
          refine z_get (C := R_X) (T := F_X) (N := 5) (v := .ref (xa 3)) hx hb hts inT_X hown hK hP (PX_x hX) rfl 2 (by decide) tw_135 (fun _ h => h) rfl d_X_firstOf_16 ?_
          refine lv_iload_n hx hb d_X_firstOf_19 rfl (zl hl rfl) ?_
          have he := PX_e hX (i := i) (by omega)
          refine z_callq (va_runV (As := [.int (nI i)]) (rest := []) ⟨hx, hb, hml, hown, hts⟩ (c_A_get l hP (PX_l hX) he.1 i (by omega) (by omega) (PX_tr hX (by omega)) (by omega) (by omega)) (cwV 1 hts (tt_V tw_164 tw_161 tw_162 tw_163 tw_33) rfl rfl rfl (by decide +kernel) ⟨Nat.le_of_ble_eq_true rfl, Nat.le_of_ble_eq_true rfl⟩) (zPc_V hKN hP (ci := 5) (q := (R_A, F_A, 3)) rfl (PX_l hX)) rfl rfl hl.1 rfl (lv_room (Nat.le_of_ble_eq_true rfl)) d_X_firstOf_20 ⟨Nat.zero_le _, Nat.zero_le _⟩) hS (fun locs hS => ?_)
          refine z_cast (ci := 2) (q := (R_T, F_T, 12)) hx hb hts hown tw_175 hK hP (PX_t hX (k := i) (by omega)) rfl d_X_firstOf_23 ?_
          refine lv_astore (lv' := [(4, .ref (tad i)), (0, .ref (xa 0)), (1, .ref (qad qi)), (2, .ref (tad b)), (3, .int (nI i))]) hx hb d_X_firstOf_26 hl (by decide) rfl (fun ls hl => ?_)
          refine lv_aload hx hb d_X_firstOf_28 (zl hl rfl) ?_
          refine z_get (C := R_T) (T := F_T) (N := 12) (v := .ref (qad (qx f i))) hx hb hts inT_T hown hK hP (PX_t hX (k := i) (by omega)) rfl 1 (by decide) tw_400 (fun _ h => h) rfl d_X_firstOf_30 ?_
          refine lv_aload_n hx hb d_X_firstOf_33 rfl (zl hl rfl) ?_
          refine lv_acmp_ne (tgt := 69) (rx := (some (qad (qx f i)))) (ry := (some (qad qi))) hx hb d_X_firstOf_34 (by decide) (fun c_2 => ?_) (fun c_2 => ?_)
          · have b0 : ¬ f 1 i = nI qi := fun z => c_2 (by rw [(PX_okq hX i hlt).1] at z; rw [(nI_eq (by have := (PX_okq hX i hlt).2; omega) (by omega)).mp z])
            refine lv_iinc (v := (nI (i + 1))) (lv' := [(3, .int (nI (i + 1))), (4, .ref (tad i)), (0, .ref (xa 0)), (1, .ref (qad qi)), (2, .ref (tad b))]) hx hb d_X_firstOf_69 hl (k := 4) rfl (nI_1 i) (by decide) rfl (fun ls hl => ?_)
            refine lv_goto (tgt := 4) hx hb d_X_firstOf_72 (by decide) ?_
            have hst : fst f time n (nI qi) (i + 1) = (some b) := by
              show fStep f time n (nI qi) (fst f time n (nI qi) i) i = (some b)
              rw [hbe]
              simp [fStep, *]
            exact ih (i + 1) (some b) ls locs (by omega) (by omega) hst (lv_sub hl [2, 3, 4, 0] rfl) hS
          · have b1 : qx f i = qi := PX_qi hX _ _ (PX_okq hX i hlt).2 hqi (Option.some.inj c_2)
            have b0 : f 1 i = nI qi := by rw [(PX_okq hX i hlt).1, b1]
            refine lv_aload hx hb d_X_firstOf_37 (zl hl rfl) ?_
            refine lv_aload_n hx hb d_X_firstOf_39 rfl (zl hl rfl) ?_
            refine z_get (C := R_X) (T := F_X) (N := 5) (v := .int time) hx hb hts inT_X hown hK hP (PX_x hX) rfl 3 (by decide) tw_136 (fun _ h => h) rfl d_X_firstOf_40 ?_
            refine z_calli (va_runV (As := [.int time]) (rest := []) ⟨hx, hb, hml, hown, hts⟩ (c_T_mayBeHad l hP (PX_t hX (k := i) (by omega)) (PX_tg hX (k := i) (by omega)) time) (cwV 1 hts (tt_V tw_246 tw_243 tw_244 tw_245 tw_44) rfl rfl rfl (by decide +kernel) ⟨Nat.le_of_ble_eq_true rfl, Nat.le_of_ble_eq_true rfl⟩) (zPc_V hKN hP (ci := 2) (q := (R_T, F_T, 12)) rfl (PX_t hX (k := i) (by omega))) rfl rfl hl.1 rfl (lv_room (Nat.le_of_ble_eq_true rfl)) d_X_firstOf_43 ⟨Nat.zero_le _, Nat.zero_le _⟩) hS (fun locs hS => ?_)
            rw [had_eq hX (by omega)]
            refine lv_if_eq (tgt := 69) hx hb d_X_firstOf_46 (by decide) (fun c_3 => ?_) (fun c_3 => ?_)
            · have b2 := zb_f c_3
              refine lv_iinc (v := (nI (i + 1))) (lv' := [(3, .int (nI (i + 1))), (4, .ref (tad i)), (0, .ref (xa 0)), (1, .ref (qad qi)), (2, .ref (tad b))]) hx hb d_X_firstOf_69 hl (k := 4) rfl (nI_1 i) (by decide) rfl (fun ls hl => ?_)
              refine lv_goto (tgt := 4) hx hb d_X_firstOf_72 (by decide) ?_
              have hst : fst f time n (nI qi) (i + 1) = (some b) := by
                show fStep f time n (nI qi) (fst f time n (nI qi) i) i = (some b)
                rw [hbe]
                simp [fStep, *]
              exact ih (i + 1) (some b) ls locs (by omega) (by omega) hst (lv_sub hl [2, 3, 4, 0] rfl) hS
            · have b2 := zb_t c_3
              refine lv_aload_n hx hb d_X_firstOf_49 rfl (zl hl rfl) ?_
              refine lv_ifnull hx hb d_X_firstOf_50 ?_
              refine lv_aload hx hb d_X_firstOf_53 (zl hl rfl) ?_
              refine lv_aload_n hx hb d_X_firstOf_55 rfl (zl hl rfl) ?_
              refine lv_aload_n hx hb d_X_firstOf_56 rfl (zl hl rfl) ?_
              refine z_get (C := R_X) (T := F_X) (N := 5) (v := .int time) hx hb hts inT_X hown hK hP (PX_x hX) rfl 3 (by decide) tw_136 (fun _ h => h) rfl d_X_firstOf_57 ?_
              refine z_calli (va_runV (As := [.ref (tad b), .int time]) (rest := []) ⟨hx, hb, hml, hown, hts⟩ (c_T_goesBefore l hP (PX_tq hX (k := i) (by omega) b1) (PX_q hX hqi) (PX_tq hX (k := b) (by omega) hqb) time) (cwV 2 hts (tt_V tw_254 tw_251 tw_252 tw_253 tw_44) rfl rfl rfl (by decide +kernel) ⟨Nat.le_of_ble_eq_true rfl, Nat.le_of_ble_eq_true rfl⟩) (zPc_V hKN hP (ci := 2) (q := (R_T, F_T, 12)) rfl (PX_t hX (k := i) (by omega))) rfl rfl hl.1 rfl (lv_room (Nat.le_of_ble_eq_true rfl)) d_X_firstOf_60 ⟨Nat.zero_le _, Nat.zero_le _⟩) hS (fun locs hS => ?_)
              rw [better_eq hX (by omega) hbi b1 hqb b2 hbh]
              refine lv_if_eq (tgt := 69) hx hb d_X_firstOf_63 (by decide) (fun c_4 => ?_) (fun c_4 => ?_)
              · have b3 := zb_f c_4
                refine lv_iinc (v := (nI (i + 1))) (lv' := [(3, .int (nI (i + 1))), (4, .ref (tad i)), (0, .ref (xa 0)), (1, .ref (qad qi)), (2, .ref (tad b))]) hx hb d_X_firstOf_69 hl (k := 4) rfl (nI_1 i) (by decide) rfl (fun ls hl => ?_)
                refine lv_goto (tgt := 4) hx hb d_X_firstOf_72 (by decide) ?_
                have hst : fst f time n (nI qi) (i + 1) = (some b) := by
                  show fStep f time n (nI qi) (fst f time n (nI qi) i) i = (some b)
                  rw [hbe]
                  simp [fStep, *]
                exact ih (i + 1) (some b) ls locs (by omega) (by omega) hst (lv_sub hl [2, 3, 4, 0] rfl) hS
              · have b3 := zb_t c_4
                refine lv_aload hx hb d_X_firstOf_66 (zl hl rfl) ?_
                refine lv_astore_n (lv' := [(2, .ref (tad i)), (4, .ref (tad i)), (0, .ref (xa 0)), (1, .ref (qad qi)), (3, .int (nI i))]) hx hb d_X_firstOf_68 rfl hl (by decide) rfl (fun ls hl => ?_)
                refine lv_iinc (v := (nI (i + 1))) (lv' := [(3, .int (nI (i + 1))), (2, .ref (tad i)), (4, .ref (tad i)), (0, .ref (xa 0)), (1, .ref (qad qi))]) hx hb d_X_firstOf_69 hl (k := 4) rfl (nI_1 i) (by decide) rfl (fun ls hl => ?_)
                refine lv_goto (tgt := 4) hx hb d_X_firstOf_72 (by decide) ?_
                have hst : fst f time n (nI qi) (i + 1) = (some i) := by
                  show fStep f time n (nI qi) (fst f time n (nI qi) i) i = (some i)
                  rw [hbe]
                  simp [fStep, *]
                exact ih (i + 1) (some i) ls locs (by omega) (by omega) hst (lv_sub hl [3, 4, 1, 0] rfl) hS
  have hl : lv_has ls 5 [(0, .ref (xa 0)), (1, .ref (qad qi))] := hl
  refine lv_null hx hb d_X_firstOf_0 ?_
  refine lv_astore_nN (lv' := [(2, .null), (0, .ref (xa 0)), (1, .ref (qad qi))]) hx hb d_X_firstOf_1 rfl hl (by decide) rfl (fun ls hl => ?_)
  refine lv_iconst (v := 0) hx hb d_X_firstOf_2 (by decide) ?_
  refine lv_istore_n (lv' := [(3, .int 0), (2, .null), (0, .ref (xa 0)), (1, .ref (qad qi))]) hx hb d_X_firstOf_3 rfl hl (by decide) rfl (fun ls hl => ?_)
  exact key (n + 1) 0 none ls [] (Nat.zero_le _) (by omega) rfl (lv_sub hl [2, 3, 1, 0] rfl) hS
set_option maxHeartbeats 4000000 in
set_option maxRecDepth 100000 in
theorem c_X_first (l : Launch) {D : va_G} {ws : va_W} {H : Heap} (hP : va_P D vwCl ws H) {kk : Nat → ClassId} {xa qad gad tad : Nat → Nat} {e0 : Nat} {time tok : Int32} {n : Nat} {f : FF} {ky : Nat → Int64} {h : FF} {qar gar arr : Nat → Option Nat} {ea cap : Nat} {md : Int32} (hX : PX kk xa qad gad tad e0 time tok n f ky h qar gar arr ea cap md ws) (v : Int32) : Met l y_X_first (Cond.code y_X_first b_X_first 4 (some .int) :: TT) ({ frames := 5, cells := 0, slots := 0, locals := 300 }) (zPc [.ref (xa 0), .int v] H D vwCl (TY kk)) (zQi (mFirst f time n v) H) 0 0 (fun _ => False) := by
  refine z_body (by decide) (Nat.le_of_ble_eq_true rfl) ?_
  intro p e s m below meth c ls C0 hH hKN hl
  obtain ⟨hx, hb, hr, hts, hown, hlocks, hml⟩ := C0
  subst hH
  have hK := hKN.1
  have hN := hKN.2
  have hS : va_S (fun _ => False) s.heap s.heap [] := va_S.rf
  have hn := PX_n hX
  have hl : lv_has ls 4 [(0, .ref (xa 0)), (1, .int v)] := hl
  refine lv_aload_n hx hb d_X_first_0 rfl (zl hl rfl) ?_
  refine lv_iload_n hx hb d_X_first_1 rfl (zl hl rfl) ?_
  by_cases bq_1 : sWithin v 0 3 = true
  · obtain ⟨x_2, hx_3, rfl⟩ := sWithin_nI (h := 3) (by decide) bq_1
    have ht_4 : tx (nI x_2) = x_2 := tx_nI (by omega)
    have hr_5 : qRef qad (nI x_2) = some (qad x_2) := by rw [qRef, if_pos bq_1, ht_4]
    refine z_callq (va_runV (As := [.int (nI x_2)]) (rest := []) ⟨hx, hb, hml, hown, hts⟩ (c_X_queueAt l hP hX (nI x_2)) (cwV 1 hts (tt_V tw_226 tw_223 tw_225 tw_5 tw_30) rfl rfl rfl (by decide +kernel) ⟨Nat.le_of_ble_eq_true rfl, Nat.le_of_ble_eq_true rfl⟩) (zPc_V hKN hP (ci := 3) (q := (R_X, F_X, 5)) rfl (PX_x hX)) rfl rfl hl.1 rfl (lv_room (Nat.le_of_ble_eq_true rfl)) d_X_first_2 ⟨Nat.zero_le _, Nat.zero_le _⟩) hS (fun locs hS => ?_)
    rw [hr_5]
    refine lv_astore_n (lv' := [(2, .ref (qad x_2)), (0, .ref (xa 0)), (1, .int (nI x_2))]) hx hb d_X_first_5 rfl hl (by decide) rfl (fun ls hl => ?_)
    refine lv_aload_n hx hb d_X_first_6 rfl (zl hl rfl) ?_
    refine lv_ifnonnull (tgt := 14) hx hb d_X_first_7 (by decide) ?_
    refine lv_aload_n hx hb d_X_first_14 rfl (zl hl rfl) ?_
    refine lv_aload_n hx hb d_X_first_15 rfl (zl hl rfl) ?_
    refine z_callq (va_runV (As := [.ref (qad x_2)]) (rest := []) ⟨hx, hb, hml, hown, hts⟩ (c_X_firstOf l hP hX x_2 (by omega)) (cwV 1 hts (tt_V tw_242 tw_239 tw_241 tw_6 tw_30) rfl rfl rfl (by decide +kernel) ⟨Nat.le_of_ble_eq_true rfl, Nat.le_of_ble_eq_true rfl⟩) (zPc_V hKN hP (ci := 3) (q := (R_X, F_X, 5)) rfl (PX_x hX)) rfl rfl hl.1 rfl (lv_room (Nat.le_of_ble_eq_true rfl)) d_X_first_16 ⟨Nat.zero_le _, Nat.zero_le _⟩) hS (fun locs hS => ?_)
    rcases ho : fst f time n (nI x_2) n with _ | t
    · have hm1 : True := trivial
      refine lv_astore_nN (lv' := [(3, .null), (2, .ref (qad x_2)), (0, .ref (xa 0)), (1, .int (nI x_2))]) hx hb d_X_first_19 rfl hl (by decide) rfl (fun ls hl => ?_)
      refine lv_aload_nN hx hb d_X_first_20 rfl (zl hl rfl) ?_
      refine lv_ifnonnullN hx hb d_X_first_21 ?_
      refine lv_iconst (v := (-1)) hx hb d_X_first_24 (by decide) ?_
      refine lv_goto (tgt := 32) hx hb d_X_first_25 (by decide) ?_
      exact z_iret hx hb hr hlocks hS (by simp [mFirst, oI, *]) d_X_first_32
    · have hto := fst_lt ho
      refine lv_astore_n (lv' := [(3, .ref (tad t)), (2, .ref (qad x_2)), (0, .ref (xa 0)), (1, .int (nI x_2))]) hx hb d_X_first_19 rfl hl (by decide) rfl (fun ls hl => ?_)
      refine lv_aload_n hx hb d_X_first_20 rfl (zl hl rfl) ?_
      refine lv_ifnonnull (tgt := 28) hx hb d_X_first_21 (by decide) ?_
      refine lv_aload_n hx hb d_X_first_28 rfl (zl hl rfl) ?_
      refine z_get (C := R_T) (T := F_T) (N := 12) (v := .int (nI t)) hx hb hts inT_T hown hK hP (PX_t hX (k := t) (by omega)) rfl 0 (by decide) tw_398 (fun _ h => h) rfl d_X_first_29 ?_
      exact z_iret hx hb hr hlocks hS (by simp [mFirst, oI, *]) d_X_first_32
  · have bq_1 : sWithin v 0 3 = false := by simpa using bq_1
    have hr_5 : qRef qad v = none := by rw [qRef, if_neg (by rw [bq_1]; decide)]
    refine z_callq (va_runV (As := [.int v]) (rest := []) ⟨hx, hb, hml, hown, hts⟩ (c_X_queueAt l hP hX v) (cwV 1 hts (tt_V tw_226 tw_223 tw_225 tw_5 tw_30) rfl rfl rfl (by decide +kernel) ⟨Nat.le_of_ble_eq_true rfl, Nat.le_of_ble_eq_true rfl⟩) (zPc_V hKN hP (ci := 3) (q := (R_X, F_X, 5)) rfl (PX_x hX)) rfl rfl hl.1 rfl (lv_room (Nat.le_of_ble_eq_true rfl)) d_X_first_2 ⟨Nat.zero_le _, Nat.zero_le _⟩) hS (fun locs hS => ?_)
    rw [hr_5]
    refine lv_astore_nN (lv' := [(2, .null), (0, .ref (xa 0)), (1, .int v)]) hx hb d_X_first_5 rfl hl (by decide) rfl (fun ls hl => ?_)
    refine lv_aload_nN hx hb d_X_first_6 rfl (zl hl rfl) ?_
    refine lv_ifnonnullN hx hb d_X_first_7 ?_
    refine lv_null hx hb d_X_first_10 ?_
    refine lv_goto (tgt := 19) hx hb d_X_first_11 (by decide) ?_
    refine lv_astore_nN (lv' := [(3, .null), (2, .null), (0, .ref (xa 0)), (1, .int v)]) hx hb d_X_first_19 rfl hl (by decide) rfl (fun ls hl => ?_)
    refine lv_aload_nN hx hb d_X_first_20 rfl (zl hl rfl) ?_
    refine lv_ifnonnullN hx hb d_X_first_21 ?_
    refine lv_iconst (v := (-1)) hx hb d_X_first_24 (by decide) ?_
    refine lv_goto (tgt := 32) hx hb d_X_first_25 (by decide) ?_
    exact z_iret hx hb hr hlocks hS (by simp [mFirst, oI, *]) d_X_first_32
set_option maxHeartbeats 4000000 in
set_option maxRecDepth 100000 in
theorem c_X_next (l : Launch) {D : va_G} {ws : va_W} {H : Heap} (hP : va_P D vwCl ws H) {kk : Nat → ClassId} {xa qad gad tad : Nat → Nat} {e0 : Nat} {time tok : Int32} {n : Nat} {f : FF} {ky : Nat → Int64} {h : FF} {qar gar arr : Nat → Option Nat} {ea cap : Nat} {md : Int32} (hX : PX kk xa qad gad tad e0 time tok n f ky h qar gar arr ea cap md ws) (ht0 : ¬ time < -1) : Met l y_X_next (Cond.code y_X_next b_X_next 4 (some .int) :: TT) ({ frames := 4, cells := 0, slots := 0, locals := 240 }) (zPc [.ref (xa 0)] H D vwCl (TY kk)) (zQi (nxs f time n) H) 0 0 (fun _ => False) := by
  refine z_body (by decide) (Nat.le_of_ble_eq_true rfl) ?_
  intro p e s m below meth c ls C0 hH hKN hl
  obtain ⟨hx, hb, hr, hts, hown, hlocks, hml⟩ := C0
  subst hH
  have hK := hKN.1
  have hN := hKN.2
  have hS : va_S (fun _ => False) s.heap s.heap [] := va_S.rf
  have hn := PX_n hX
  have key : ∀ (r i : Nat) (ls : Array Slot) (locs : List Loc), i ≤ n → n + 1 ≤ i + r → lv_has ls 4 [(0, .ref (xa 0)), (1, .int (nxs f time i)), (2, .int (nI i))] → va_S (fun _ => False) s.heap s.heap locs → W p l e ({ frames := 4, cells := 0, slots := 0, locals := 240 }) s m ([.ref (xa 0)] : List Value).toArray below meth c s.heap locs 0 0 (MQ below (zQi (nxs f time n) s.heap) ([.ref (xa 0)] : List Value).toArray s 0 0 (fun _ => False)) (F0 m 4 ls []) := by
    intro r
    induction r with
    | zero => intro i ls locs h1 h2; omega
    | succ r ih =>
      intro i ls locs hi hir hl hS
      refine lv_iload_n hx hb d_X_next_4 rfl (zl hl rfl) ?_
      refine lv_aload_n hx hb d_X_next_5 rfl (zl hl rfl) ?_
      refine z_get (C := R_X) (T := F_X) (N := 5) (v := .ref (xa 3)) hx hb hts inT_X hown hK hP (PX_x hX) rfl 2 (by decide) tw_135 (fun _ h => h) rfl d_X_next_6 ?_
      refine z_calli (va_runV (As := []) (rest := [.int (nI i)]) ⟨hx, hb, hml, hown, hts⟩ (c_A_size l hP (PX_l hX)) (cwV 0 hts (tt_V tw_160 tw_157 tw_158 tw_159 tw_33) rfl rfl rfl (by decide +kernel) ⟨Nat.le_of_ble_eq_true rfl, Nat.le_of_ble_eq_true rfl⟩) (zPc_V hKN hP (ci := 5) (q := (R_A, F_A, 3)) rfl (PX_l hX)) rfl rfl hl.1 rfl (lv_room (Nat.le_of_ble_eq_true rfl)) d_X_next_9 ⟨Nat.zero_le _, Nat.zero_le _⟩) hS (fun locs hS => ?_)
      refine lv_icmp_ge (tgt := 56) hx hb d_X_next_12 (by decide) (fun c_1 => ?_) (fun c_1 => ?_)
      · have hin := z_ge hi (by omega) c_1
        refine lv_iload_n hx hb d_X_next_56 rfl (zl hl rfl) ?_
        exact z_iret hx hb hr hlocks hS (by rw [hin]) d_X_next_57
      · have hlt := z_lt hi (by omega) c_1
        refine lv_aload_n hx hb d_X_next_15 rfl (zl hl rfl) ?_
        refine z_get (C := R_X) (T := F_X) (N := 5) (v := .ref (xa 3)) hx hb hts inT_X hown hK hP (PX_x hX) rfl 2 (by decide) tw_135 (fun _ h => h) rfl d_X_next_16 ?_
        refine lv_iload_n hx hb d_X_next_19 rfl (zl hl rfl) ?_
        have he := PX_e hX (i := i) (by omega)
        refine z_callq (va_runV (As := [.int (nI i)]) (rest := []) ⟨hx, hb, hml, hown, hts⟩ (c_A_get l hP (PX_l hX) he.1 i (by omega) (by omega) (PX_tr hX (by omega)) (by omega) (by omega)) (cwV 1 hts (tt_V tw_164 tw_161 tw_162 tw_163 tw_33) rfl rfl rfl (by decide +kernel) ⟨Nat.le_of_ble_eq_true rfl, Nat.le_of_ble_eq_true rfl⟩) (zPc_V hKN hP (ci := 5) (q := (R_A, F_A, 3)) rfl (PX_l hX)) rfl rfl hl.1 rfl (lv_room (Nat.le_of_ble_eq_true rfl)) d_X_next_20 ⟨Nat.zero_le _, Nat.zero_le _⟩) hS (fun locs hS => ?_)
        refine z_cast (ci := 2) (q := (R_T, F_T, 12)) hx hb hts hown tw_175 hK hP (PX_t hX (k := i) (by omega)) rfl d_X_next_23 ?_
        refine z_calli (va_runV (As := []) (rest := []) ⟨hx, hb, hml, hown, hts⟩ (c_T_comesAt l hP (PX_t hX (k := i) (by omega))) (cwV 0 hts (tt_V tw_269 tw_266 tw_267 tw_268 tw_44) rfl rfl rfl (by decide +kernel) ⟨Nat.le_of_ble_eq_true rfl, Nat.le_of_ble_eq_true rfl⟩) (zPc_V hKN hP (ci := 2) (q := (R_T, F_T, 12)) rfl (PX_t hX (k := i) (by omega))) rfl rfl hl.1 rfl (lv_room (Nat.le_of_ble_eq_true rfl)) d_X_next_26 ⟨Nat.zero_le _, Nat.zero_le _⟩) hS (fun locs hS => ?_)
        rcases comes_eq (PX_rel hX) hlt with ⟨hv1, hv2⟩ | ⟨hv1, hv2⟩
        · rw [hv2]
          refine lv_istore_n (lv' := [(3, .int (f 7 i)), (0, .ref (xa 0)), (1, .int (nxs f time i)), (2, .int (nI i))]) hx hb d_X_next_29 rfl hl (by decide) rfl (fun ls hl => ?_)
          refine lv_iload_n hx hb d_X_next_30 rfl (zl hl rfl) ?_
          refine lv_aload_n hx hb d_X_next_31 rfl (zl hl rfl) ?_
          refine z_get (C := R_X) (T := F_X) (N := 5) (v := .int time) hx hb hts inT_X hown hK hP (PX_x hX) rfl 3 (by decide) tw_136 (fun _ h => h) rfl d_X_next_32 ?_
          refine lv_icmp_le (tgt := 50) hx hb d_X_next_35 (by decide) (fun c_2 => ?_) (fun c_2 => ?_)
          · have b2 := zle_nlt c_2
            refine lv_iinc (v := (nI (i + 1))) (lv' := [(2, .int (nI (i + 1))), (3, .int (f 7 i)), (0, .ref (xa 0)), (1, .int (nxs f time i))]) hx hb d_X_next_50 hl (k := 3) rfl (nI_1 i) (by decide) rfl (fun ls hl => ?_)
            refine lv_goto (tgt := 4) hx hb d_X_next_53 (by decide) ?_
            have hst : nxs f time i = nxs f time (i + 1) := by
              show _ = if _ then _ else _
              clear hv2
              simp [*]
            rw [hst] at hl
            exact ih (i + 1) ls locs (by omega) (by omega) (lv_sub hl [2, 3, 0] rfl) hS
          · have b2 := znle_lt c_2
            refine lv_iload_n hx hb d_X_next_38 rfl (zl hl rfl) ?_
            refine lv_iconst (v := (-1)) hx hb d_X_next_39 (by decide) ?_
            refine lv_icmp_eq (tgt := 48) hx hb d_X_next_40 (by decide) (fun c_3 => ?_) (fun c_3 => ?_)
            · refine lv_iload_n hx hb d_X_next_48 rfl (zl hl rfl) ?_
              refine lv_istore_n (lv' := [(1, .int (f 7 i)), (3, .int (f 7 i)), (0, .ref (xa 0)), (2, .int (nI i))]) hx hb d_X_next_49 rfl hl (by decide) rfl (fun ls hl => ?_)
              refine lv_iinc (v := (nI (i + 1))) (lv' := [(2, .int (nI (i + 1))), (1, .int (f 7 i)), (3, .int (f 7 i)), (0, .ref (xa 0))]) hx hb d_X_next_50 hl (k := 3) rfl (nI_1 i) (by decide) rfl (fun ls hl => ?_)
              refine lv_goto (tgt := 4) hx hb d_X_next_53 (by decide) ?_
              have hst : f 7 i = nxs f time (i + 1) := by
                show _ = if _ then _ else _
                clear hv2
                simp [*]
              rw [hst] at hl
              exact ih (i + 1) ls locs (by omega) (by omega) (lv_sub hl [3, 1, 0] rfl) hS
            · refine lv_iload_n hx hb d_X_next_43 rfl (zl hl rfl) ?_
              refine lv_iload_n hx hb d_X_next_44 rfl (zl hl rfl) ?_
              refine lv_icmp_ge (tgt := 50) hx hb d_X_next_45 (by decide) (fun c_4 => ?_) (fun c_4 => ?_)
              · have b4 := zle_nlt c_4
                refine lv_iinc (v := (nI (i + 1))) (lv' := [(2, .int (nI (i + 1))), (3, .int (f 7 i)), (0, .ref (xa 0)), (1, .int (nxs f time i))]) hx hb d_X_next_50 hl (k := 3) rfl (nI_1 i) (by decide) rfl (fun ls hl => ?_)
                refine lv_goto (tgt := 4) hx hb d_X_next_53 (by decide) ?_
                have hst : nxs f time i = nxs f time (i + 1) := by
                  show _ = if _ then _ else _
                  clear hv2
                  simp [*]
                rw [hst] at hl
                exact ih (i + 1) ls locs (by omega) (by omega) (lv_sub hl [2, 3, 0] rfl) hS
              · have b4 := znle_lt c_4
                refine lv_iload_n hx hb d_X_next_48 rfl (zl hl rfl) ?_
                refine lv_istore_n (lv' := [(1, .int (f 7 i)), (3, .int (f 7 i)), (0, .ref (xa 0)), (2, .int (nI i))]) hx hb d_X_next_49 rfl hl (by decide) rfl (fun ls hl => ?_)
                refine lv_iinc (v := (nI (i + 1))) (lv' := [(2, .int (nI (i + 1))), (1, .int (f 7 i)), (3, .int (f 7 i)), (0, .ref (xa 0))]) hx hb d_X_next_50 hl (k := 3) rfl (nI_1 i) (by decide) rfl (fun ls hl => ?_)
                refine lv_goto (tgt := 4) hx hb d_X_next_53 (by decide) ?_
                have hst : f 7 i = nxs f time (i + 1) := by
                  show _ = if _ then _ else _
                  clear hv2
                  simp [*]
                rw [hst] at hl
                exact ih (i + 1) ls locs (by omega) (by omega) (lv_sub hl [3, 1, 0] rfl) hS
        · rw [hv2]
          refine lv_istore_n (lv' := [(3, .int (-1)), (0, .ref (xa 0)), (1, .int (nxs f time i)), (2, .int (nI i))]) hx hb d_X_next_29 rfl hl (by decide) rfl (fun ls hl => ?_)
          refine lv_iload_n hx hb d_X_next_30 rfl (zl hl rfl) ?_
          refine lv_aload_n hx hb d_X_next_31 rfl (zl hl rfl) ?_
          refine z_get (C := R_X) (T := F_X) (N := 5) (v := .int time) hx hb hts inT_X hown hK hP (PX_x hX) rfl 3 (by decide) tw_136 (fun _ h => h) rfl d_X_next_32 ?_
          refine lv_icmp_le (tgt := 50) hx hb d_X_next_35 (by decide) (fun c_5 => ?_) (fun c_5 => ?_)
          · have b2 := zle_nlt c_5
            refine lv_iinc (v := (nI (i + 1))) (lv' := [(2, .int (nI (i + 1))), (3, .int (-1)), (0, .ref (xa 0)), (1, .int (nxs f time i))]) hx hb d_X_next_50 hl (k := 3) rfl (nI_1 i) (by decide) rfl (fun ls hl => ?_)
            refine lv_goto (tgt := 4) hx hb d_X_next_53 (by decide) ?_
            have hst : nxs f time i = nxs f time (i + 1) := by
              show _ = if _ then _ else _
              clear hv2
              simp [*]
            rw [hst] at hl
            exact ih (i + 1) ls locs (by omega) (by omega) (lv_sub hl [2, 3, 0] rfl) hS
          · exact absurd (znle_lt c_5) ht0
  have hl : lv_has ls 4 [(0, .ref (xa 0))] := hl
  refine lv_iconst (v := (-1)) hx hb d_X_next_0 (by decide) ?_
  refine lv_istore_n (lv' := [(1, .int (-1)), (0, .ref (xa 0))]) hx hb d_X_next_1 rfl hl (by decide) rfl (fun ls hl => ?_)
  refine lv_iconst (v := 0) hx hb d_X_next_2 (by decide) ?_
  refine lv_istore_n (lv' := [(2, .int 0), (1, .int (-1)), (0, .ref (xa 0))]) hx hb d_X_next_3 rfl hl (by decide) rfl (fun ls hl => ?_)
  exact key (n + 1) 0 ls [] (Nat.zero_le _) (by omega) (lv_sub hl [2, 1, 0] rfl) hS
set_option maxHeartbeats 4000000 in
set_option maxRecDepth 100000 in
theorem c_X_countOfOne (l : Launch) {D : va_G} {ws : va_W} {H : Heap} (hP : va_P D vwCl ws H) {kk : Nat → ClassId} {xa qad gad tad : Nat → Nat} {e0 : Nat} {time tok : Int32} {n : Nat} {f : FF} {ky : Nat → Int64} {h : FF} {qar gar arr : Nat → Option Nat} {ea cap : Nat} {md : Int32} (hX : PX kk xa qad gad tad e0 time tok n f ky h qar gar arr ea cap md ws) (v : Int32) (h5 : ∀ k, k < 5 → ¬ v = nI k) : Met l y_X_countOfOne (Cond.code y_X_countOfOne b_X_countOfOne 4 (some .int) :: TT) ({ frames := 5, cells := 0, slots := 0, locals := 300 }) (zPc [.ref (xa 0), .int v] H D vwCl (TY kk)) (zQi (mCount f time n v) H) 0 0 (fun _ => False) := by
  refine z_body (by decide) (Nat.le_of_ble_eq_true rfl) ?_
  intro p e s m below meth c ls C0 hH hKN hl
  obtain ⟨hx, hb, hr, hts, hown, hlocks, hml⟩ := C0
  subst hH
  have hK := hKN.1
  have hN := hKN.2
  have hS : va_S (fun _ => False) s.heap s.heap [] := va_S.rf
  have hn := PX_n hX
  have hl : lv_has ls 4 [(0, .ref (xa 0)), (1, .int v)] := hl
  refine lv_iload_n hx hb d_X_countOfOne_0 rfl (zl hl rfl) ?_
  refine lv_iconst (v := 5) hx hb d_X_countOfOne_1 (by decide) ?_
  refine lv_isub hx hb d_X_countOfOne_2 ?_
  refine z_calli (va_runS (As := [.int (v - 5)]) (rest := []) ⟨hx, hb, hml, hown, hts⟩ (c_X_isWorker l hP (v - 5)) (va_cwS 1 hts (tt_S tw_280 tw_278 tw_279 tw_30) rfl rfl rfl (by decide +kernel) ⟨Nat.le_of_ble_eq_true rfl, Nat.le_of_ble_eq_true rfl⟩) (zPc_S hKN) rfl rfl hl.1 rfl (lv_room (Nat.le_of_ble_eq_true rfl)) d_X_countOfOne_3 ⟨Nat.zero_le _, Nat.zero_le _⟩) hS (fun locs hS => ?_)
  rw [win_sub5]
  refine lv_if_eq (tgt := 17) hx hb d_X_countOfOne_6 (by decide) (fun c_1 => ?_) (fun c_1 => ?_)
  · have b1 := zb_f c_1
    refine lv_aload_n hx hb d_X_countOfOne_17 rfl (zl hl rfl) ?_
    refine lv_iload_n hx hb d_X_countOfOne_18 rfl (zl hl rfl) ?_
    refine lv_bipush (v := 13) hx hb d_X_countOfOne_19 (by decide) ?_
    refine lv_isub hx hb d_X_countOfOne_21 ?_
    by_cases bq_2 : sWithin (v - 13) 0 7 = true
    · obtain ⟨x_3, hx_4, he_6⟩ := sWithin_nI (h := 7) (by decide) bq_2
      have ht_5 : tx (nI x_3) = x_3 := tx_nI (by omega)
      have hr_7 : gRef gad (v - 13) = some (gad x_3) := by rw [he_6, gRef, if_pos (by rw [← he_6]; exact bq_2), ht_5]
      refine z_callq (va_runV (As := [.int (v - 13)]) (rest := []) ⟨hx, hb, hml, hown, hts⟩ (c_X_groupAt l hP hX (v - 13)) (cwV 1 hts (tt_V tw_219 tw_216 tw_218 tw_4 tw_30) rfl rfl rfl (by decide +kernel) ⟨Nat.le_of_ble_eq_true rfl, Nat.le_of_ble_eq_true rfl⟩) (zPc_V hKN hP (ci := 3) (q := (R_X, F_X, 5)) rfl (PX_x hX)) rfl rfl hl.1 rfl (lv_room (Nat.le_of_ble_eq_true rfl)) d_X_countOfOne_22 ⟨Nat.zero_le _, Nat.zero_le _⟩) hS (fun locs hS => ?_)
      rw [hr_7]
      refine lv_astore_n (lv' := [(2, .ref (gad x_3)), (0, .ref (xa 0)), (1, .int v)]) hx hb d_X_countOfOne_25 rfl hl (by decide) rfl (fun ls hl => ?_)
      refine lv_aload_n hx hb d_X_countOfOne_26 rfl (zl hl rfl) ?_
      refine lv_ifnull hx hb d_X_countOfOne_27 ?_
      refine lv_aload_n hx hb d_X_countOfOne_30 rfl (zl hl rfl) ?_
      refine z_get (C := R_G) (T := F_G) (N := 2) (v := .int (nI (cnt (pLent f (nI x_3)) n))) hx hb hts inT_G hown hK hP (PX_g hX (i := x_3) (by omega)) rfl 1 (by decide) tw_127 (fun _ h => h) rfl d_X_countOfOne_31 ?_
      have n0 := h5 0 (by decide)
      have n1 := h5 1 (by decide)
      have n2 := h5 2 (by decide)
      have n3 := h5 3 (by decide)
      have n4 := h5 4 (by decide)
      have w13 := win_sub13 v
      have w21 := win_sub21 v
      exact z_iret hx hb hr hlocks hS (by
        simp only [show nI 0 = 0 from rfl, show nI 1 = 1 from rfl, show nI 2 = 2 from rfl, show nI 3 = 3 from rfl, show nI 4 = 4 from rfl] at n0 n1 n2 n3 n4
        simp_all [mCount]) d_X_countOfOne_34
    · have bq_2 : sWithin (v - 13) 0 7 = false := by simpa using bq_2
      have hr_7 : gRef gad (v - 13) = none := by rw [gRef, if_neg (by rw [bq_2]; decide)]
      refine z_callq (va_runV (As := [.int (v - 13)]) (rest := []) ⟨hx, hb, hml, hown, hts⟩ (c_X_groupAt l hP hX (v - 13)) (cwV 1 hts (tt_V tw_219 tw_216 tw_218 tw_4 tw_30) rfl rfl rfl (by decide +kernel) ⟨Nat.le_of_ble_eq_true rfl, Nat.le_of_ble_eq_true rfl⟩) (zPc_V hKN hP (ci := 3) (q := (R_X, F_X, 5)) rfl (PX_x hX)) rfl rfl hl.1 rfl (lv_room (Nat.le_of_ble_eq_true rfl)) d_X_countOfOne_22 ⟨Nat.zero_le _, Nat.zero_le _⟩) hS (fun locs hS => ?_)
      rw [hr_7]
      refine lv_astore_nN (lv' := [(2, .null), (0, .ref (xa 0)), (1, .int v)]) hx hb d_X_countOfOne_25 rfl hl (by decide) rfl (fun ls hl => ?_)
      refine lv_aload_nN hx hb d_X_countOfOne_26 rfl (zl hl rfl) ?_
      refine lv_ifnullN (tgt := 35) hx hb d_X_countOfOne_27 (by decide) ?_
      refine lv_aload_n hx hb d_X_countOfOne_35 rfl (zl hl rfl) ?_
      refine lv_iload_n hx hb d_X_countOfOne_36 rfl (zl hl rfl) ?_
      refine lv_bipush (v := 21) hx hb d_X_countOfOne_37 (by decide) ?_
      refine lv_isub hx hb d_X_countOfOne_39 ?_
      by_cases bq_8 : sWithin (v - 21) 0 3 = true
      · obtain ⟨x_9, hx_10, he_12⟩ := sWithin_nI (h := 3) (by decide) bq_8
        have ht_11 : tx (nI x_9) = x_9 := tx_nI (by omega)
        have hr_13 : qRef qad (v - 21) = some (qad x_9) := by rw [he_12, qRef, if_pos (by rw [← he_12]; exact bq_8), ht_11]
        refine z_callq (va_runV (As := [.int (v - 21)]) (rest := []) ⟨hx, hb, hml, hown, hts⟩ (c_X_queueAt l hP hX (v - 21)) (cwV 1 hts (tt_V tw_226 tw_223 tw_225 tw_5 tw_30) rfl rfl rfl (by decide +kernel) ⟨Nat.le_of_ble_eq_true rfl, Nat.le_of_ble_eq_true rfl⟩) (zPc_V hKN hP (ci := 3) (q := (R_X, F_X, 5)) rfl (PX_x hX)) rfl rfl hl.1 rfl (lv_room (Nat.le_of_ble_eq_true rfl)) d_X_countOfOne_40 ⟨Nat.zero_le _, Nat.zero_le _⟩) hS (fun locs hS => ?_)
        rw [hr_13]
        refine lv_astore_n (lv' := [(3, .ref (qad x_9)), (2, .null), (0, .ref (xa 0)), (1, .int v)]) hx hb d_X_countOfOne_43 rfl hl (by decide) rfl (fun ls hl => ?_)
        refine lv_aload_n hx hb d_X_countOfOne_44 rfl (zl hl rfl) ?_
        refine lv_ifnonnull (tgt := 52) hx hb d_X_countOfOne_45 (by decide) ?_
        refine lv_aload_n hx hb d_X_countOfOne_52 rfl (zl hl rfl) ?_
        refine lv_aload_n hx hb d_X_countOfOne_53 rfl (zl hl rfl) ?_
        refine z_calli (va_runV (As := [.ref (qad x_9)]) (rest := []) ⟨hx, hb, hml, hown, hts⟩ (c_X_waitingIn l hP hX x_9 (by omega)) (cwV 1 hts (tt_V tw_288 tw_285 tw_287 tw_9 tw_30) rfl rfl rfl (by decide +kernel) ⟨Nat.le_of_ble_eq_true rfl, Nat.le_of_ble_eq_true rfl⟩) (zPc_V hKN hP (ci := 3) (q := (R_X, F_X, 5)) rfl (PX_x hX)) rfl rfl hl.1 rfl (lv_room (Nat.le_of_ble_eq_true rfl)) d_X_countOfOne_54 ⟨Nat.zero_le _, Nat.zero_le _⟩) hS (fun locs hS => ?_)
        have n0 := h5 0 (by decide)
        have n1 := h5 1 (by decide)
        have n2 := h5 2 (by decide)
        have n3 := h5 3 (by decide)
        have n4 := h5 4 (by decide)
        have w13 := win_sub13 v
        have w21 := win_sub21 v
        exact z_iret hx hb hr hlocks hS (by
          simp only [show nI 0 = 0 from rfl, show nI 1 = 1 from rfl, show nI 2 = 2 from rfl, show nI 3 = 3 from rfl, show nI 4 = 4 from rfl] at n0 n1 n2 n3 n4
          simp_all [mCount]) d_X_countOfOne_57
      · have bq_8 : sWithin (v - 21) 0 3 = false := by simpa using bq_8
        have hr_13 : qRef qad (v - 21) = none := by rw [qRef, if_neg (by rw [bq_8]; decide)]
        refine z_callq (va_runV (As := [.int (v - 21)]) (rest := []) ⟨hx, hb, hml, hown, hts⟩ (c_X_queueAt l hP hX (v - 21)) (cwV 1 hts (tt_V tw_226 tw_223 tw_225 tw_5 tw_30) rfl rfl rfl (by decide +kernel) ⟨Nat.le_of_ble_eq_true rfl, Nat.le_of_ble_eq_true rfl⟩) (zPc_V hKN hP (ci := 3) (q := (R_X, F_X, 5)) rfl (PX_x hX)) rfl rfl hl.1 rfl (lv_room (Nat.le_of_ble_eq_true rfl)) d_X_countOfOne_40 ⟨Nat.zero_le _, Nat.zero_le _⟩) hS (fun locs hS => ?_)
        rw [hr_13]
        refine lv_astore_nN (lv' := [(3, .null), (2, .null), (0, .ref (xa 0)), (1, .int v)]) hx hb d_X_countOfOne_43 rfl hl (by decide) rfl (fun ls hl => ?_)
        refine lv_aload_nN hx hb d_X_countOfOne_44 rfl (zl hl rfl) ?_
        refine lv_ifnonnullN hx hb d_X_countOfOne_45 ?_
        refine lv_iconst (v := (-1)) hx hb d_X_countOfOne_48 (by decide) ?_
        refine lv_goto (tgt := 57) hx hb d_X_countOfOne_49 (by decide) ?_
        have n0 := h5 0 (by decide)
        have n1 := h5 1 (by decide)
        have n2 := h5 2 (by decide)
        have n3 := h5 3 (by decide)
        have n4 := h5 4 (by decide)
        have w13 := win_sub13 v
        have w21 := win_sub21 v
        exact z_iret hx hb hr hlocks hS (by
          simp only [show nI 0 = 0 from rfl, show nI 1 = 1 from rfl, show nI 2 = 2 from rfl, show nI 3 = 3 from rfl, show nI 4 = 4 from rfl] at n0 n1 n2 n3 n4
          simp_all [mCount]) d_X_countOfOne_57
  · have b1 := zb_t c_1
    refine lv_aload_n hx hb d_X_countOfOne_9 rfl (zl hl rfl) ?_
    refine lv_iload_n hx hb d_X_countOfOne_10 rfl (zl hl rfl) ?_
    refine lv_iconst (v := 5) hx hb d_X_countOfOne_11 (by decide) ?_
    refine lv_isub hx hb d_X_countOfOne_12 ?_
    refine z_calli (va_runV (As := [.int (v - 5)]) (rest := []) ⟨hx, hb, hml, hown, hts⟩ (c_X_lentTo l hP hX (v - 5)) (cwV 1 hts (tt_V tw_284 tw_281 tw_283 tw_8 tw_30) rfl rfl rfl (by decide +kernel) ⟨Nat.le_of_ble_eq_true rfl, Nat.le_of_ble_eq_true rfl⟩) (zPc_V hKN hP (ci := 3) (q := (R_X, F_X, 5)) rfl (PX_x hX)) rfl rfl hl.1 rfl (lv_room (Nat.le_of_ble_eq_true rfl)) d_X_countOfOne_13 ⟨Nat.zero_le _, Nat.zero_le _⟩) hS (fun locs hS => ?_)
    have n0 := h5 0 (by decide)
    have n1 := h5 1 (by decide)
    have n2 := h5 2 (by decide)
    have n3 := h5 3 (by decide)
    have n4 := h5 4 (by decide)
    have w13 := win_sub13 v
    have w21 := win_sub21 v
    exact z_iret hx hb hr hlocks hS (by
      simp only [show nI 0 = 0 from rfl, show nI 1 = 1 from rfl, show nI 2 = 2 from rfl, show nI 3 = 3 from rfl, show nI 4 = 4 from rfl] at n0 n1 n2 n3 n4
      simp_all [mCount]) d_X_countOfOne_16
set_option maxHeartbeats 4000000 in
set_option maxRecDepth 100000 in
theorem c_X_count (l : Launch) {D : va_G} {ws : va_W} {H : Heap} (hP : va_P D vwCl ws H) {kk : Nat → ClassId} {xa qad gad tad : Nat → Nat} {e0 : Nat} {time tok : Int32} {n : Nat} {f : FF} {ky : Nat → Int64} {h : FF} {qar gar arr : Nat → Option Nat} {ea cap : Nat} {md : Int32} (hX : PX kk xa qad gad tad e0 time tok n f ky h qar gar arr ea cap md ws) (v : Int32) : Met l y_X_count (Cond.code y_X_count b_X_count 2 (some .int) :: TT) ({ frames := 6, cells := 0, slots := 0, locals := 360 }) (zPc [.ref (xa 0), .int v] H D vwCl (TY kk)) (zQi (mCount f time n v) H) 0 0 (fun _ => False) := by
  refine z_body (by decide) (Nat.le_of_ble_eq_true rfl) ?_
  intro p e s m below meth c ls C0 hH hKN hl
  obtain ⟨hx, hb, hr, hts, hown, hlocks, hml⟩ := C0
  subst hH
  have hK := hKN.1
  have hN := hKN.2
  have hS : va_S (fun _ => False) s.heap s.heap [] := va_S.rf
  have hn := PX_n hX
  have hl : lv_has ls 2 [(0, .ref (xa 0)), (1, .int v)] := hl
  refine lv_iload_n hx hb d_X_count_0 rfl (zl hl rfl) ?_
  rcases z_sw v 4 (by decide) with d_1 | ⟨k9, hk9, hkk⟩
  · have n_2 : ¬ v = 0 := fun h => absurd (h ▸ d_1) (by decide)
    have n_3 : ¬ v = 1 := fun h => absurd (h ▸ d_1) (by decide)
    have n_4 : ¬ v = 2 := fun h => absurd (h ▸ d_1) (by decide)
    have n_5 : ¬ v = 3 := fun h => absurd (h ▸ d_1) (by decide)
    have n_6 : ¬ v = 4 := fun h => absurd (h ▸ d_1) (by decide)
    refine lv_tableOut (tgt := 66) hx hb d_X_count_1 d_1 (by decide) ?_
    refine lv_aload_n hx hb d_X_count_66 rfl (zl hl rfl) ?_
    refine lv_iload_n hx hb d_X_count_67 rfl (zl hl rfl) ?_
    have h5 : ∀ k, k < 5 → ¬ v = nI k := by
      intro k hk
      rcases (show k = 0 ∨ k = 1 ∨ k = 2 ∨ k = 3 ∨ k = 4 by omega) with rfl | rfl | rfl | rfl | rfl <;> assumption
    refine z_calli (va_runV (As := [.int v]) (rest := []) ⟨hx, hb, hml, hown, hts⟩ (c_X_countOfOne l hP hX v h5) (cwV 1 hts (tt_V tw_277 tw_274 tw_276 tw_7 tw_30) rfl rfl rfl (by decide +kernel) ⟨Nat.le_of_ble_eq_true rfl, Nat.le_of_ble_eq_true rfl⟩) (zPc_V hKN hP (ci := 3) (q := (R_X, F_X, 5)) rfl (PX_x hX)) rfl rfl hl.1 rfl (lv_room (Nat.le_of_ble_eq_true rfl)) d_X_count_68 ⟨Nat.zero_le _, Nat.zero_le _⟩) hS (fun locs hS => ?_)
    exact z_iret hx hb hr hlocks hS (by first | rfl | simp [mCount, *]) d_X_count_71
  · obtain rfl | rfl | rfl | rfl | rfl : k9 = 0 ∨ k9 = 1 ∨ k9 = 2 ∨ k9 = 3 ∨ k9 = 4 := by omega
    · have e9 : v = 0 := hkk
      clear hkk
      subst e9
      refine lv_tableIn (tgt := 36) hx hb d_X_count_1 (by decide) (by decide) rfl (by decide) ?_
      refine lv_aload_n hx hb d_X_count_36 rfl (zl hl rfl) ?_
      refine z_get (C := R_X) (T := F_X) (N := 5) (v := .int time) hx hb hts inT_X hown hK hP (PX_x hX) rfl 3 (by decide) tw_136 (fun _ h => h) rfl d_X_count_37 ?_
      exact z_iret hx hb hr hlocks hS (by first | rfl | simp [mCount, *]) d_X_count_40
    · have e9 : v = 1 := hkk
      clear hkk
      subst e9
      refine lv_tableIn (tgt := 41) hx hb d_X_count_1 (by decide) (by decide) rfl (by decide) ?_
      refine lv_aload_n hx hb d_X_count_41 rfl (zl hl rfl) ?_
      refine z_get (C := R_X) (T := F_X) (N := 5) (v := .ref (xa 3)) hx hb hts inT_X hown hK hP (PX_x hX) rfl 2 (by decide) tw_135 (fun _ h => h) rfl d_X_count_42 ?_
      refine z_calli (va_runV (As := []) (rest := []) ⟨hx, hb, hml, hown, hts⟩ (c_A_size l hP (PX_l hX)) (cwV 0 hts (tt_V tw_160 tw_157 tw_158 tw_159 tw_33) rfl rfl rfl (by decide +kernel) ⟨Nat.le_of_ble_eq_true rfl, Nat.le_of_ble_eq_true rfl⟩) (zPc_V hKN hP (ci := 5) (q := (R_A, F_A, 3)) rfl (PX_l hX)) rfl rfl hl.1 rfl (lv_room (Nat.le_of_ble_eq_true rfl)) d_X_count_45 ⟨Nat.zero_le _, Nat.zero_le _⟩) hS (fun locs hS => ?_)
      exact z_iret hx hb hr hlocks hS (by first | rfl | simp [mCount, *]) d_X_count_48
    · have e9 : v = 2 := hkk
      clear hkk
      subst e9
      refine lv_tableIn (tgt := 49) hx hb d_X_count_1 (by decide) (by decide) rfl (by decide) ?_
      refine lv_aload_n hx hb d_X_count_49 rfl (zl hl rfl) ?_
      refine z_calli (va_runV (As := []) (rest := []) ⟨hx, hb, hml, hown, hts⟩ (c_X_liveTasks l hP hX) (cwV 0 hts (tt_V tw_202 tw_199 tw_201 tw_2 tw_30) rfl rfl rfl (by decide +kernel) ⟨Nat.le_of_ble_eq_true rfl, Nat.le_of_ble_eq_true rfl⟩) (zPc_V hKN hP (ci := 3) (q := (R_X, F_X, 5)) rfl (PX_x hX)) rfl rfl hl.1 rfl (lv_room (Nat.le_of_ble_eq_true rfl)) d_X_count_50 ⟨Nat.zero_le _, Nat.zero_le _⟩) hS (fun locs hS => ?_)
      exact z_iret hx hb hr hlocks hS (by first | rfl | simp [mCount, *]) d_X_count_53
    · have e9 : v = 3 := hkk
      clear hkk
      subst e9
      refine lv_tableIn (tgt := 54) hx hb d_X_count_1 (by decide) (by decide) rfl (by decide) ?_
      refine lv_aload_n hx hb d_X_count_54 rfl (zl hl rfl) ?_
      refine lv_iconst (v := 1) hx hb d_X_count_55 (by decide) ?_
      refine z_calli (va_runV (As := [.int 1]) (rest := []) ⟨hx, hb, hml, hown, hts⟩ (c_X_tasksThatAre l hP hX 1) (cwV 1 hts (tt_V tw_206 tw_203 tw_205 tw_3 tw_30) rfl rfl rfl (by decide +kernel) ⟨Nat.le_of_ble_eq_true rfl, Nat.le_of_ble_eq_true rfl⟩) (zPc_V hKN hP (ci := 3) (q := (R_X, F_X, 5)) rfl (PX_x hX)) rfl rfl hl.1 rfl (lv_room (Nat.le_of_ble_eq_true rfl)) d_X_count_56 ⟨Nat.zero_le _, Nat.zero_le _⟩) hS (fun locs hS => ?_)
      exact z_iret hx hb hr hlocks hS (by first | rfl | simp [mCount, *]) d_X_count_59
    · have e9 : v = 4 := hkk
      clear hkk
      subst e9
      refine lv_tableIn (tgt := 60) hx hb d_X_count_1 (by decide) (by decide) rfl (by decide) ?_
      refine lv_aload_n hx hb d_X_count_60 rfl (zl hl rfl) ?_
      refine lv_iconst (v := 3) hx hb d_X_count_61 (by decide) ?_
      refine z_calli (va_runV (As := [.int 3]) (rest := []) ⟨hx, hb, hml, hown, hts⟩ (c_X_tasksThatAre l hP hX 3) (cwV 1 hts (tt_V tw_206 tw_203 tw_205 tw_3 tw_30) rfl rfl rfl (by decide +kernel) ⟨Nat.le_of_ble_eq_true rfl, Nat.le_of_ble_eq_true rfl⟩) (zPc_V hKN hP (ci := 3) (q := (R_X, F_X, 5)) rfl (PX_x hX)) rfl rfl hl.1 rfl (lv_room (Nat.le_of_ble_eq_true rfl)) d_X_count_62 ⟨Nat.zero_le _, Nat.zero_le _⟩) hS (fun locs hS => ?_)
      exact z_iret hx hb hr hlocks hS (by first | rfl | simp [mCount, *]) d_X_count_65
end
section
theorem cnt_off {P Q : Nat → Bool} {k : Nat} (h : ∀ i, i ≠ k → P i = Q i) : ∀ {n : Nat}, k < n → cnt P n + (if Q k = true then 1 else 0) = cnt Q n + (if P k = true then 1 else 0)
  | 0, hk => by omega
  | n + 1, hk => by
    show cnt P n + (if P n = true then 1 else 0) + _ = cnt Q n + (if Q n = true then 1 else 0) + _
    by_cases e : k = n
    · subst e
      rw [cnt_congr k (fun i hi => h i (by omega))]
      omega
    · have ih := cnt_off h (n := n) (by omega)
      rw [h n (fun z => e z.symm)]
      omega
theorem nI_sub1 {a b : Nat} (h : a = b + 1) : nI a - 1 = nI b := by rw [h]; exact nI_pred b
theorem gNew_eq {f f' : FF} {k n : Nat} {v6 : Int32} (hk : k < n) (e6 : f' 6 k = v6) (e3 : f' 3 = f 3) (ho : ∀ i, i ≠ k → f' 6 i = f 6 i) : gNew (f 6 k) v6 (nI (cnt (pLent f (f 3 k)) n)) = nI (cnt (pLent f' (f 3 k)) n) := by
  have hc := cnt_off (P := pLent f (f 3 k)) (Q := pLent f' (f 3 k)) (k := k) (n := n) (fun i hi => by unfold pLent; rw [ho i hi, e3]) hk
  have p1 : pLent f (f 3 k) k = decide (f 6 k = 1) := by simp [pLent]
  have p2 : pLent f' (f 3 k) k = decide (v6 = 1) := by simp [pLent, e6, e3]
  rw [p1, p2] at hc
  unfold gNew
  by_cases a : f 6 k = 1
  · by_cases b : v6 = 1
    · simp only [a, b, decide_true, reduceIte] at hc ⊢
      rw [show cnt (pLent f' (f 3 k)) n = cnt (pLent f (f 3 k)) n by omega]
      exact Int32.sub_add_cancel _ _
    · simp only [a, b, decide_true, decide_false, reduceIte, Bool.false_eq_true] at hc ⊢
      exact nI_sub1 (by omega)
  · by_cases b : v6 = 1
    · simp only [a, b, decide_true, decide_false, reduceIte, Bool.false_eq_true] at hc ⊢
      rw [nI_1]
      congr 1
    · simp only [a, b, decide_false, reduceIte, Bool.false_eq_true] at hc ⊢
      rw [show cnt (pLent f (f 3 k)) n = cnt (pLent f' (f 3 k)) n by omega]
def kX (e : va_E) : Bool := match e with
  | .inl (_, _, .inr (.inr (.inr (.inr _)))) => true
  | .inr (c, _) => !(c == 4)
  | _ => false
def zfrX (ws ws' : va_W) : Prop := ∀ (b : Nat) (e : va_E), kX e = false → zin ws b e → zin ws' b e
theorem zfrX_rf {ws : va_W} : zfrX ws ws := fun _ _ _ h => h
theorem zfrX_tr {ws w1 w2 : va_W} (h1 : zfrX ws w1) (h2 : zfrX w1 w2) : zfrX ws w2 := fun b e hk hz => h2 b e hk (h1 b e hk hz)
theorem zfrX_up {A : Nat → Prop} {ws ws' : va_W} {a : Nat} {e0 e1 : va_E} (hD : va_D A ws) (hz : zin ws a e0) (hk : kX e0 = true) (u : zupd ws a e1 ws') : zfrX ws ws' := fun b e he hb => u.2 b e (zin_ne hD hb hz (fun z => by rw [z, hk] at he; cases he)) hb
theorem zfrX_T {A : Nat → Prop} {ws ws' : va_W} {a : Nat} {ga : Option Nat} {x : List Value} (hD : va_D A ws) (hz : zin ws a (.inr (2, x))) (hg : ∀ g, ga = some g → ∃ y, zin ws g (.inr (0, y))) (h : zfrT a ga ws ws') : zfrX ws ws' := fun b e he hb =>
  h b e (zin_ne hD hb hz (fun z => by rw [z] at he; cases he)) (fun z => by obtain ⟨y, hy⟩ := hg b z; rw [zin_fn hD hb hy] at he; cases he) hb
section PXT
variable {A : Nat → Prop} {kk : Nat → ClassId} {xa qad gad tad : Nat → Nat} {e0 : Nat} {time tok : Int32} {n : Nat} {f : FF} {ky : Nat → Int64} {h : FF} {qar gar arr : Nat → Option Nat} {ea cap : Nat} {md : Int32} {ws ws' : va_W}
def XR (kk : Nat → ClassId) (xa qad gad tad : Nat → Nat) (e0 : Nat) (time tok : Int32) (n : Nat) (f : FF) (ky : Nat → Int64) (qar gar arr : Nat → Option Nat) (ea cap : Nat) (md : Int32) (ws ws' : va_W) : Prop := (∃ h, PX kk xa qad gad tad e0 time tok n f ky h qar gar arr ea cap md ws') ∧ zfrX ws ws'
theorem PX_task {f' : FF} {k : Nat} (hD : va_D A ws) (hX : PX kk xa qad gad tad e0 time tok n f ky h qar gar arr ea cap md ws) (hk : k < n) {v6 v5 u0 u1 u2 u3 u4 : Int32}
    (hz : zin ws' (tad k) (.inr (2, [.int (nI k), .ref (qad (qx f k)), .int (f 2 k), va_rf (gref f gad k), .long (ky k), .int v6, .int v5, .int u0, .int u1, .int u2, .int u3, .int u4])))
    (hg : ∀ g, gref f gad k = some g → zin ws' g (.inr (0, [.int (f 11 (gx f k)), .int (gNew (f 6 k) v6 (nI (cnt (pLent f (f 3 k)) n)))]))) (hfr : zfrT (tad k) (gref f gad k) ws ws')
    (e6 : f' 6 k = v6) (e5 : f' 5 k = v5) (hcol : ∀ j, j ≠ 5 → j ≠ 6 → j ≠ 7 → j ≠ 8 → j ≠ 9 → f' j = f j) (hoth : ∀ i, i ≠ k → ∀ j, f' j i = f j i)
    (hrel : (v6 = 0 → u0 = f' 7 k) ∧ (v6 = 1 → u1 = f' 7 k ∧ u2 = f' 8 k ∧ u3 = f' 9 k) ∧ (v6 = 2 → u4 = f' 7 k)) : XR kk xa qad gad tad e0 time tok n f' ky qar gar arr ea cap md ws ws' := by
  have c1 : f' 1 = f 1 := hcol 1 (by decide) (by decide) (by decide) (by decide) (by decide)
  have c2 : f' 2 = f 2 := hcol 2 (by decide) (by decide) (by decide) (by decide) (by decide)
  have c3 : f' 3 = f 3 := hcol 3 (by decide) (by decide) (by decide) (by decide) (by decide)
  have c10 : f' 10 = f 10 := hcol 10 (by decide) (by decide) (by decide) (by decide) (by decide)
  have c11 : f' 11 = f 11 := hcol 11 (by decide) (by decide) (by decide) (by decide) (by decide)
  have eq : ∀ i, qx f' i = qx f i := fun i => by unfold qx; rw [c1]
  have eg : ∀ i, gx f' i = gx f i := fun i => by unfold gx; rw [c3]
  have er : ∀ i, gref f' gad i = gref f gad i := fun i => by unfold gref; rw [c3, eg]
  have hgg : ∀ g, gref f gad k = some g → ∃ y, zin ws g (.inr (0, y)) := fun g hg9 => ⟨_, PX_tg hX hk g hg9⟩
  have hzk := PX_t hX hk
  have keep : ∀ (b : Nat) (e : va_E), zin ws b e → (∀ x, e ≠ .inr (2, x)) → (∀ x, e ≠ .inr (0, x)) → zin ws' b e := fun b e hb h1 h2 =>
    hfr b e (zin_ne hD hb hzk (h1 _)) (fun z => by obtain ⟨y, hy⟩ := hgg b z; exact h2 y (zin_fn hD hb hy)) hb
  have h' : FF := fun j i => if i = k then (if j = 0 then u0 else if j = 1 then u1 else if j = 2 then u2 else if j = 3 then u3 else u4) else h j i
  refine ⟨⟨fun j i => if i = k then (if j = 0 then u0 else if j = 1 then u1 else if j = 2 then u2 else if j = 3 then u3 else u4) else h j i, keep _ _ (PX_x hX) (by intro x z; cases z) (by intro x z; cases z), keep _ _ (PX_qa hX) (by intro x z; cases z) (by intro x z; cases z), keep _ _ (PX_ga hX) (by intro x z; cases z) (by intro x z; cases z), keep _ _ (PX_l hX) (by intro x z; cases z) (by intro x z; cases z), ?_, ?_, ?_, ?_, ?_, ?_, ?_, PX_qi hX, PX_gi hX, PX_n hX⟩, zfrX_T hD hzk hgg hfr⟩
  · rcases hX.2.2.2.2.1 with z | z
    · exact Or.inl z
    · exact Or.inr ⟨keep _ _ z.1 (by intro x z; cases z) (by intro x z; cases z), z.2⟩
  · intro i hi
    refine ⟨PX_qr hX hi, ?_⟩
    have := keep _ _ (PX_q hX hi) (by intro x z; cases z) (by intro x z; cases z)
    unfold qcl
    rw [c10]
    exact this
  · intro i hi
    refine ⟨PX_gr hX hi, ?_⟩
    unfold gcl
    rw [c11]
    by_cases hgi : f 3 k = nI i
    · have hgx : gx f k = i := by unfold gx; rw [hgi]; exact nI_clamp (by omega)
      have hgr : gref f gad k = some (gad i) := by
        unfold gref
        rw [if_neg (by rw [hgi]; exact nI_m1 (by omega)), hgx]
      have h1 := hg _ hgr
      rw [gNew_eq hk e6 c3 (fun i hi => hoth i hi 6), hgx, hgi] at h1
      exact h1
    · have hc : cnt (pLent f' (nI i)) n = cnt (pLent f (nI i)) n := cnt_congr n (fun j hj => by
        unfold pLent
        rw [c3]
        by_cases e : j = k
        · subst e
          simp [hgi]
        · rw [hoth j e 6])
      rw [hc]
      refine hfr _ _ (zin_ne hD (PX_g hX hi) hzk (by intro z; cases z)) (fun z => ?_) (PX_g hX hi)
      unfold gref at z
      by_cases h3 : f 3 k = -1
      · rw [if_pos h3] at z
        cases z
      · rw [if_neg h3] at z
        obtain ⟨e1, e2⟩ := (PX_okg hX k hk).resolve_left h3
        have e4 := PX_gi hX _ _ e2 hi (Option.some.inj z)
        rw [e4] at e1
        exact hgi e1
  · intro i hi
    refine ⟨PX_tr hX hi, ?_⟩
    unfold tcl
    rw [eq, er, c2]
    by_cases e : i = k
    · subst e
      simp only [if_true]
      rw [e6, e5]
      exact hz
    · simp only [if_neg e]
      rw [hoth i e 6, hoth i e 5]
      have hzi := PX_t hX hi
      refine hfr _ _ (zin_ne hD hzi hzk (fun z => ?_)) (fun z => ?_) hzi
      · have z1 := (List.cons.inj (Prod.mk.inj (Sum.inr.inj z)).2).1
        exact e ((nI_eq (by have := PX_n hX; omega) (by have := PX_n hX; omega)).mp (Value.int.inj z1))
      · obtain ⟨y, hy⟩ := hgg _ z
        have := zin_fn hD hzi hy
        cases this
  · intro i hi
    rw [c1, eq]
    exact PX_okq hX i hi
  · intro i hi
    rw [c3, eg]
    exact PX_okg hX i hi
  · intro i hi
    by_cases e : i = k
    · subst e
      simp only [if_true]
      rw [e6]
      exact hrel
    · simp only [if_neg e]
      rw [hoth i e 6, hoth i e 7, hoth i e 8, hoth i e 9]
      exact PX_rel hX i hi
/-- the object's numbers written -/
theorem PX_wx {time' tok' : Int32} (hD : va_D A ws) (hX : PX kk xa qad gad tad e0 time tok n f ky h qar gar arr ea cap md ws) (u : zupd ws (xa 0) (.inr (3, [.ref (xa 1), .ref (xa 2), .ref (xa 3), .int time', .int tok'])) ws') : PX kk xa qad gad tad e0 time' tok' n f ky h qar gar arr ea cap md ws' := by
  have keep : ∀ (b : Nat) (e : va_E), zin ws b e → (∀ x, e ≠ .inr (3, x)) → zin ws' b e := fun b e hb h1 => u.2 b e (zin_ne hD hb (PX_x hX) (h1 _)) hb
  refine ⟨u.1, keep _ _ (PX_qa hX) (by intro x z; cases z), keep _ _ (PX_ga hX) (by intro x z; cases z), keep _ _ (PX_l hX) (by intro x z; cases z), ?_, fun i hi => ⟨PX_qr hX hi, keep _ _ (PX_q hX hi) (by intro x z; cases z)⟩, fun i hi => ⟨PX_gr hX hi, keep _ _ (PX_g hX hi) (by intro x z; cases z)⟩, fun i hi => ⟨PX_tr hX hi, keep _ _ (PX_t hX hi) (by intro x z; cases z)⟩, PX_okq hX, PX_okg hX, PX_rel hX, PX_qi hX, PX_gi hX, PX_n hX⟩
  rcases hX.2.2.2.2.1 with z | z
  · exact Or.inl z
  · exact Or.inr ⟨keep _ _ z.1 (by intro x z; cases z), z.2⟩
/-- a group's limit written -/
theorem PX_wg {f' : FF} {i : Nat} {v : Int32} (hD : va_D A ws) (hX : PX kk xa qad gad tad e0 time tok n f ky h qar gar arr ea cap md ws) (hi : i < 8) (hf : f' = w1 f 11 i v) (u : zupd ws (gad i) (.inr (0, [.int v, .int (nI (cnt (pLent f (nI i)) n))])) ws') : XR kk xa qad gad tad e0 time tok n f' ky qar gar arr ea cap md ws ws' := by
  subst hf
  have a1 : okq f n := PX_okq hX
  have a2 : okg f n := PX_okg hX
  have a3 : rel f h n := PX_rel hX
  have keep : ∀ (b : Nat) (e : va_E), zin ws b e → (∀ x, e ≠ .inr (0, x)) → zin ws' b e := fun b e hb h1 => u.2 b e (zin_ne hD hb (PX_g hX hi) (h1 _)) hb
  refine ⟨⟨h, keep _ _ (PX_x hX) (by intro x z; cases z), keep _ _ (PX_qa hX) (by intro x z; cases z), keep _ _ (PX_ga hX) (by intro x z; cases z), keep _ _ (PX_l hX) (by intro x z; cases z), ?_, fun j hj => ⟨PX_qr hX hj, keep _ _ (PX_q hX hj) (by intro x z; cases z)⟩, fun j hj => ⟨PX_gr hX hj, ?_⟩, fun j hj => ⟨PX_tr hX hj, keep _ _ (PX_t hX hj) (by intro x z; cases z)⟩, a1, a2, a3, PX_qi hX, PX_gi hX, PX_n hX⟩, zfrX_up hD (PX_g hX hi) rfl u⟩
  · rcases hX.2.2.2.2.1 with z | z
    · exact Or.inl z
    · exact Or.inr ⟨keep _ _ z.1 (by intro x z; cases z), z.2⟩
  · unfold gcl
    show zin ws' (gad j) (.inr (0, [.int (upd (f 11) i v j), .int (nI (cnt (pLent f (nI j)) n))]))
    by_cases e : j = i
    · subst e
      rw [show upd (f 11) j v j = v from if_pos rfl]
      exact u.1
    · rw [show upd (f 11) i v j = f 11 j from if_neg e]
      exact u.2 _ _ (fun z => e (PX_gi hX _ _ hj hi z)) (PX_g hX hj)
/-- a queue's number written -/
theorem PX_wq {f' : FF} {i c : Nat} {v : Int32} (hD : va_D A ws) (hX : PX kk xa qad gad tad e0 time tok n f ky h qar gar arr ea cap md ws) (hi : i < 4) (hc : c < 6) (hf : f' = w1 f 10 (6 * i + c) v) (u : zupd ws (qad i) (qcl f' i) ws') : XR kk xa qad gad tad e0 time tok n f' ky qar gar arr ea cap md ws ws' := by
  subst hf
  have a1 : okq f n := PX_okq hX
  have a2 : okg f n := PX_okg hX
  have a3 : rel f h n := PX_rel hX
  have keep : ∀ (b : Nat) (e : va_E), zin ws b e → (∀ x, e ≠ .inr (1, x)) → zin ws' b e := fun b e hb h1 => u.2 b e (zin_ne hD hb (PX_q hX hi) (h1 _)) hb
  refine ⟨⟨h, keep _ _ (PX_x hX) (by intro x z; cases z), keep _ _ (PX_qa hX) (by intro x z; cases z), keep _ _ (PX_ga hX) (by intro x z; cases z), keep _ _ (PX_l hX) (by intro x z; cases z), ?_, fun j hj => ⟨PX_qr hX hj, ?_⟩, fun j hj => ⟨PX_gr hX hj, keep _ _ (PX_g hX hj) (by intro x z; cases z)⟩, fun j hj => ⟨PX_tr hX hj, keep _ _ (PX_t hX hj) (by intro x z; cases z)⟩, a1, a2, a3, PX_qi hX, PX_gi hX, PX_n hX⟩, zfrX_up hD (PX_q hX hi) rfl u⟩
  · rcases hX.2.2.2.2.1 with z | z
    · exact Or.inl z
    · exact Or.inr ⟨keep _ _ z.1 (by intro x z; cases z), z.2⟩
  · by_cases e : j = i
    · subst e
      exact u.1
    · have hu : ∀ d, d < 6 → (w1 f 10 (6 * i + c) v) 10 (6 * j + d) = f 10 (6 * j + d) := fun d hd => if_neg (by omega)
      have h9 := u.2 _ _ (fun z => e (PX_qi hX _ _ hj hi z)) (PX_q hX hj)
      unfold qcl
      rw [show 6 * j = 6 * j + 0 from rfl, hu 0 (by decide), hu 1 (by decide), hu 2 (by decide), hu 3 (by decide), hu 4 (by decide), hu 5 (by decide)]
      exact h9
end PXT
end
section
def mXBeat (f : FF) (time : Int32) (t : Nat) : FF := w1 f 7 t (time + f 10 (6 * qx f t))
theorem w1_s {f : FF} {j t : Nat} {v : Int32} : w1 f j t v j t = v := by simp [w1, va_up, upd]
theorem w1_o {f : FF} {j t : Nat} {v : Int32} {i : Nat} (h : i ≠ t) (c : Nat) : w1 f j t v c i = f c i := by
  unfold w1 va_up
  by_cases e : c = j
  · rw [if_pos e, e]
    exact if_neg h
  · rw [if_neg e]
theorem w1_c {f : FF} {j t : Nat} {v : Int32} {c : Nat} (h : c ≠ j) : w1 f j t v c = f c := by
  unfold w1 va_up
  exact if_neg h
set_option maxHeartbeats 4000000 in
set_option maxRecDepth 100000 in
theorem c_X_cancel (l : Launch) {D : va_G} {ws : va_W} {H : Heap} (hP : va_P D vwCl ws H) {kk : Nat → ClassId} {xa qad gad tad : Nat → Nat} {e0 : Nat} {time tok : Int32} {n : Nat} {f : FF} {ky : Nat → Int64} {h : FF} {qar gar arr : Nat → Option Nat} {ea cap : Nat} {md : Int32} (hX : PX kk xa qad gad tad e0 time tok n f ky h qar gar arr ea cap md ws) {B : Nat} (hD : va_D (fun q => B ≤ q) ws) (v : Int32) : Met l y_X_cancel (Cond.code y_X_cancel b_X_cancel 3 (some .boolean) :: TT) ({ frames := 5, cells := 0, slots := 0, locals := 300 }) (zPc [.ref (xa 0), .int v] H D vwCl (TY kk)) (zR D vwCl B (some (.int (zb (cCan f n v)))) (fun ws' => XR kk xa qad gad tad e0 time tok n (mCan f n v) ky qar gar arr ea cap md ws ws')) 0 0 (fun q => B ≤ q) := by
  refine z_body (by decide) (Nat.le_of_ble_eq_true rfl) ?_
  intro p e s m below meth c ls C0 hH hKN hl
  obtain ⟨hx, hb, hr, hts, hown, hlocks, hml⟩ := C0
  subst hH
  have hK := hKN.1
  have hN := hKN.2
  have hS : va_S (fun q => B ≤ q) s.heap s.heap [] := va_S.rf
  have hn := PX_n hX
  have hl : lv_has ls 3 [(0, .ref (xa 0)), (1, .int v)] := hl
  refine lv_aload_n hx hb d_X_cancel_0 rfl (zl hl rfl) ?_
  refine lv_iload_n hx hb d_X_cancel_1 rfl (zl hl rfl) ?_
  by_cases bq_1 : sTask v n = true
  · obtain ⟨x_2, hx_3, rfl⟩ := sTask_t (by omega) bq_1
    have ht_4 : tx (nI x_2) = x_2 := tx_nI (by omega)
    have hr_5 : tRef tad n (nI x_2) = some (tad x_2) := by rw [tRef, if_pos bq_1, ht_4]
    refine z_callq (va_runV (As := [.int (nI x_2)]) (rest := []) ⟨hx, hb, hml, hown, hts⟩ (c_X_taskAt l hP hX (nI x_2)) (cwV 1 hts (tt_V tw_183 tw_180 tw_182 tw_1 tw_30) rfl rfl rfl (by decide +kernel) ⟨Nat.le_of_ble_eq_true rfl, Nat.le_of_ble_eq_true rfl⟩) (zPc_V hKN hP (ci := 3) (q := (R_X, F_X, 5)) rfl (PX_x hX)) rfl rfl hl.1 rfl (lv_room (Nat.le_of_ble_eq_true rfl)) d_X_cancel_2 ⟨Nat.zero_le _, Nat.zero_le _⟩) hS (fun locs hS => ?_)
    rw [hr_5]
    refine lv_astore_n (lv' := [(2, .ref (tad x_2)), (0, .ref (xa 0)), (1, .int (nI x_2))]) hx hb d_X_cancel_5 rfl hl (by decide) rfl (fun ls hl => ?_)
    refine lv_aload_n hx hb d_X_cancel_6 rfl (zl hl rfl) ?_
    refine lv_ifnull hx hb d_X_cancel_7 ?_
    refine lv_aload_n hx hb d_X_cancel_10 rfl (zl hl rfl) ?_
    refine z_calli (va_runV (As := []) (rest := []) ⟨hx, hb, hml, hown, hts⟩ (c_T_isLive l hP (PX_t hX (k := x_2) (by omega))) (cwV 0 hts (tt_V tw_190 tw_187 tw_188 tw_189 tw_44) rfl rfl rfl (by decide +kernel) ⟨Nat.le_of_ble_eq_true rfl, Nat.le_of_ble_eq_true rfl⟩) (zPc_V hKN hP (ci := 2) (q := (R_T, F_T, 12)) rfl (PX_t hX (k := x_2) (by omega))) rfl rfl hl.1 rfl (lv_room (Nat.le_of_ble_eq_true rfl)) d_X_cancel_11 ⟨Nat.zero_le _, Nat.zero_le _⟩) hS (fun locs hS => ?_)
    refine lv_if_ne (tgt := 19) hx hb d_X_cancel_14 (by decide) (fun c_6 => ?_) (fun c_6 => ?_)
    · have b2 := zb_t c_6
      refine lv_aload_n hx hb d_X_cancel_19 rfl (zl hl rfl) ?_
      refine lv_iconst (v := 4) hx hb d_X_cancel_20 (by decide) ?_
      have hD0 := hD
      refine z_call (va_runV (As := [.int 4]) (rest := []) ⟨hx, hb, hml, hown, hts⟩ (c_T_become l hP (PX_t hX (k := x_2) (by omega)) (PX_tg hX (k := x_2) (by omega)) hD 4) (cwV 1 hts (tt_V tw_194 tw_191 tw_192 tw_193 tw_44) rfl rfl rfl (by decide +kernel) ⟨Nat.le_of_ble_eq_true rfl, Nat.le_of_ble_eq_true rfl⟩) (zPc_V hKN hP (ci := 2) (q := (R_T, F_T, 12)) rfl (PX_t hX (k := x_2) (by omega))) rfl rfl hl.1 rfl (lv_room (Nat.le_of_ble_eq_true rfl)) d_X_cancel_21 ⟨Nat.le_of_ble_eq_true rfl, Nat.le_of_ble_eq_true rfl⟩) hS (fun ws H locs hR hP hD hz9 hS => ?_)
      obtain ⟨hz1, hg1, hFr⟩ := hR
      have hXR := PX_task (f' := w1 f 6 x_2 4) hD0 hX (by omega) hz1 hg1 hFr w1_s rfl (fun j h5 h6 h7 h8 h9 => by simp only [w1_c h5, w1_c h6, w1_c h7, w1_c h8, w1_c h9]) (fun i hi j => by simp only [w1_o hi]) ⟨fun h => absurd h (by decide), fun h => absurd h (by decide), fun h => absurd h (by decide)⟩
      refine lv_iconst (v := 1) hx hb d_X_cancel_24 (by decide) ?_
      exact z_zretR hx hb hr hlocks hP hD hS (by simp [cCan, zb, *]) (by rw [show mCan f n (nI x_2) = w1 f 6 x_2 4 by simp [mCan, cCan, *]]; exact hXR) d_X_cancel_25
    · have b2 := zb_f c_6
      refine lv_iconst (v := 0) hx hb d_X_cancel_17 (by decide) ?_
      exact z_zretR hx hb hr hlocks hP hD hS (by simp [cCan, zb, *]) (⟨⟨h, by first | (simp only [mCan, cCan, *, reduceIte, Bool.true_and, Bool.false_and, Bool.and_false, Bool.and_true, Bool.false_eq_true, Option.isSome]; done) | (simp only [mCan, cCan, *, reduceIte, Bool.true_and, Bool.false_and, Bool.and_false, Bool.and_true, Bool.false_eq_true]; exact hX)⟩, zfrX_rf⟩) d_X_cancel_18
  · have bq_1 : sTask v n = false := by simpa using bq_1
    have hr_5 : tRef tad n v = none := by rw [tRef, if_neg (by rw [bq_1]; decide)]
    refine z_callq (va_runV (As := [.int v]) (rest := []) ⟨hx, hb, hml, hown, hts⟩ (c_X_taskAt l hP hX v) (cwV 1 hts (tt_V tw_183 tw_180 tw_182 tw_1 tw_30) rfl rfl rfl (by decide +kernel) ⟨Nat.le_of_ble_eq_true rfl, Nat.le_of_ble_eq_true rfl⟩) (zPc_V hKN hP (ci := 3) (q := (R_X, F_X, 5)) rfl (PX_x hX)) rfl rfl hl.1 rfl (lv_room (Nat.le_of_ble_eq_true rfl)) d_X_cancel_2 ⟨Nat.zero_le _, Nat.zero_le _⟩) hS (fun locs hS => ?_)
    rw [hr_5]
    refine lv_astore_nN (lv' := [(2, .null), (0, .ref (xa 0)), (1, .int v)]) hx hb d_X_cancel_5 rfl hl (by decide) rfl (fun ls hl => ?_)
    refine lv_aload_nN hx hb d_X_cancel_6 rfl (zl hl rfl) ?_
    refine lv_ifnullN (tgt := 17) hx hb d_X_cancel_7 (by decide) ?_
    refine lv_iconst (v := 0) hx hb d_X_cancel_17 (by decide) ?_
    exact z_zretR hx hb hr hlocks hP hD hS (by simp [cCan, zb, *]) (⟨⟨h, by first | (simp only [mCan, cCan, *, reduceIte, Bool.true_and, Bool.false_and, Bool.and_false, Bool.and_true, Bool.false_eq_true, Option.isSome]; done) | (simp only [mCan, cCan, *, reduceIte, Bool.true_and, Bool.false_and, Bool.and_false, Bool.and_true, Bool.false_eq_true]; exact hX)⟩, zfrX_rf⟩) d_X_cancel_18
set_option maxHeartbeats 4000000 in
set_option maxRecDepth 100000 in
theorem c_X_beat (l : Launch) {D : va_G} {ws : va_W} {H : Heap} (hP : va_P D vwCl ws H) {kk : Nat → ClassId} {xa qad gad tad : Nat → Nat} {e0 : Nat} {time tok : Int32} {n : Nat} {f : FF} {ky : Nat → Int64} {h : FF} {qar gar arr : Nat → Option Nat} {ea cap : Nat} {md : Int32} (hX : PX kk xa qad gad tad e0 time tok n f ky h qar gar arr ea cap md ws) {B : Nat} (hD : va_D (fun q => B ≤ q) ws) (v : Int32) : Met l y_X_beat (Cond.code y_X_beat b_X_beat 3 (some .boolean) :: TT) ({ frames := 5, cells := 0, slots := 0, locals := 300 }) (zPc [.ref (xa 0), .int v] H D vwCl (TY kk)) (zR D vwCl B (some (.int (zb (fnd (pTok f v) 0 n).isSome))) (fun ws' => XR kk xa qad gad tad e0 time tok n (mBeat f time (fnd (pTok f v) 0 n)) ky qar gar arr ea cap md ws ws')) 0 0 (fun q => B ≤ q) := by
  refine z_body (by decide) (Nat.le_of_ble_eq_true rfl) ?_
  intro p e s m below meth c ls C0 hH hKN hl
  obtain ⟨hx, hb, hr, hts, hown, hlocks, hml⟩ := C0
  subst hH
  have hK := hKN.1
  have hN := hKN.2
  have hS : va_S (fun q => B ≤ q) s.heap s.heap [] := va_S.rf
  have hn := PX_n hX
  have hl : lv_has ls 3 [(0, .ref (xa 0)), (1, .int v)] := hl
  refine lv_aload_n hx hb d_X_beat_0 rfl (zl hl rfl) ?_
  refine lv_iload_n hx hb d_X_beat_1 rfl (zl hl rfl) ?_
  refine z_callq (va_runV (As := [.int v]) (rest := []) ⟨hx, hb, hml, hown, hts⟩ (c_X_lentWith l hP hX v) (cwV 1 hts (tt_V tw_156 tw_153 tw_155 tw_0 tw_30) rfl rfl rfl (by decide +kernel) ⟨Nat.le_of_ble_eq_true rfl, Nat.le_of_ble_eq_true rfl⟩) (zPc_V hKN hP (ci := 3) (q := (R_X, F_X, 5)) rfl (PX_x hX)) rfl rfl hl.1 rfl (lv_room (Nat.le_of_ble_eq_true rfl)) d_X_beat_2 ⟨Nat.zero_le _, Nat.zero_le _⟩) hS (fun locs hS => ?_)
  rcases ho : fnd (pTok f v) 0 n with _ | t
  · have hm1 : True := trivial
    refine lv_astore_nN (lv' := [(2, .null), (0, .ref (xa 0)), (1, .int v)]) hx hb d_X_beat_5 rfl hl (by decide) rfl (fun ls hl => ?_)
    refine lv_aload_nN hx hb d_X_beat_6 rfl (zl hl rfl) ?_
    refine lv_ifnonnullN hx hb d_X_beat_7 ?_
    refine lv_iconst (v := 0) hx hb d_X_beat_10 (by decide) ?_
    exact z_zretR hx hb hr hlocks hP hD hS rfl (⟨⟨h, hX⟩, zfrX_rf⟩) d_X_beat_11
  · have hto := fnd_some ho
    refine lv_astore_n (lv' := [(2, .ref (tad t)), (0, .ref (xa 0)), (1, .int v)]) hx hb d_X_beat_5 rfl hl (by decide) rfl (fun ls hl => ?_)
    refine lv_aload_n hx hb d_X_beat_6 rfl (zl hl rfl) ?_
    refine lv_ifnonnull (tgt := 12) hx hb d_X_beat_7 (by decide) ?_
    refine lv_aload_n hx hb d_X_beat_12 rfl (zl hl rfl) ?_
    refine lv_aload_n hx hb d_X_beat_13 rfl (zl hl rfl) ?_
    refine z_get (C := R_X) (T := F_X) (N := 5) (v := .int time) hx hb hts inT_X hown hK hP (PX_x hX) rfl 3 (by decide) tw_136 (fun _ h => h) rfl d_X_beat_14 ?_
    refine lv_aload_n hx hb d_X_beat_17 rfl (zl hl rfl) ?_
    refine z_get (C := R_T) (T := F_T) (N := 12) (v := .ref (qad (qx f t))) hx hb hts inT_T hown hK hP (PX_t hX (k := t) (by omega)) rfl 1 (by decide) tw_400 (fun _ h => h) rfl d_X_beat_18 ?_
    refine z_get (C := R_Q) (T := F_Q) (N := 6) (v := .int (f 10 (6 * (qx f t)))) hx hb hts inT_Q hown hK hP (PX_q hX (i := (qx f t)) (PX_okq hX t (by omega)).2) rfl 0 (by decide) tw_94 (fun _ h => h) rfl d_X_beat_21 ?_
    refine lv_iadd hx hb d_X_beat_24 ?_
    have hto1 : f 6 t = 1 := by have := hto.2.2; simp only [pTok, Bool.and_eq_true, decide_eq_true_eq] at this; exact this.1
    have hrl := (PX_rel hX t (by omega)).2.1 hto1
    have hD0 := hD
    refine z_put (C := R_T) (T := F_T) (N := 12) (v := .int (time + (f 10 (6 * (qx f t))))) hx hb hts inT_T ft_T ft_T_ok fn_T hown hK hP hD hS (PX_t hX (k := t) (by omega)) rfl 8 (by decide) tw_412 (fun _ h => h) rfl rfl rfl (by simp) d_X_beat_25 (fun ws H locs hP hD hS u => ?_)
    have hXR := PX_task (f' := mXBeat f time t) (v6 := f 6 t) (v5 := f 5 t) (u0 := h 0 t) (u1 := time + f 10 (6 * qx f t)) (u2 := h 2 t) (u3 := h 3 t) (u4 := h 4 t) hD0 hX (by omega) u.1 (fun g hg => by rw [hto1, show gNew 1 1 (nI (cnt (pLent f (f 3 t)) n)) = nI (cnt (pLent f (f 3 t)) n) from Int32.sub_add_cancel _ _]; exact u.2 _ _ (zin_ne hD0 (PX_tg hX (by omega) g hg) (PX_t hX (by omega)) (by intro h; cases h)) (PX_tg hX (by omega) g hg)) (zfrT_a zfrT_rf u) rfl rfl (fun j h5 h6 h7 h8 h9 => w1_c h7) (fun i hi j => w1_o hi j) ⟨fun h => absurd (h.symm.trans hto1) (by decide), fun _ => ⟨w1_s.symm, hrl.2.1, hrl.2.2⟩, fun h => absurd (h.symm.trans hto1) (by decide)⟩
    refine lv_iconst (v := 1) hx hb d_X_beat_28 (by decide) ?_
    exact z_zretR hx hb hr hlocks hP hD hS rfl hXR d_X_beat_29
end
section
theorem lv64 {c : Nat} (h : c ≤ 64) : nI c < 64 ↔ ¬ nI c = 64 := by
  have e1 : (64 : Int32) = nI 64 := by decide
  rw [e1, nI_ltI (by omega) (by decide), nI_eq (by omega) (by decide)]
  omega
theorem qcl_set {f : FF} {i c : Nat} {v : Int32} (hc : c < 6) : qcl (w1 f 10 (6 * i + c) v) i = .inr (1, ([.int (f 10 (6 * i)), .int (f 10 (6 * i + 1)), .int (f 10 (6 * i + 2)), .int (f 10 (6 * i + 3)), .int (f 10 (6 * i + 4)), .int (f 10 (6 * i + 5))] : List Value).set c (.int v)) := by
  have hu : ∀ d, (w1 f 10 (6 * i + c) v) 10 (6 * i + d) = if d = c then v else f 10 (6 * i + d) := fun d => by
    show (if 6 * i + d = 6 * i + c then v else f 10 (6 * i + d)) = _
    by_cases e : d = c
    · rw [if_pos e, if_pos (by omega)]
    · rw [if_neg e, if_neg (by omega)]
  unfold qcl
  rw [show (w1 f 10 (6 * i + c) v) 10 (6 * i) = _ from hu 0, hu 1, hu 2, hu 3, hu 4, hu 5]
  rcases (show c = 0 ∨ c = 1 ∨ c = 2 ∨ c = 3 ∨ c = 4 ∨ c = 5 by omega) with rfl | rfl | rfl | rfl | rfl | rfl <;> rfl
theorem set_eq {what which v : Int32} (h6 : ¬ what = 6) : cSet what which v = (sWithin which 0 3 && sMay what v) := by
  rcases z_sw what 5 (by decide) with hd | ⟨k, hk, rfl⟩
  · have n : ∀ k : Nat, k < 6 → ¬ what = nI k := fun k hk z => by
      rw [z, nI_toInt (by omega)] at hd
      omega
    have n0 : ¬ what = 0 := n 0 (by decide)
    have n1 : ¬ what = 1 := n 1 (by decide)
    have n2 : ¬ what = 2 := n 2 (by decide)
    have n3 : ¬ what = 3 := n 3 (by decide)
    have n4 : ¬ what = 4 := n 4 (by decide)
    have n5 : ¬ what = 5 := n 5 (by decide)
    have e1 : sWithin what 0 6 = false := by
      cases hw : sWithin what 0 6
      · rfl
      · obtain ⟨a, ha, rfl⟩ := sWithin_nI (h := 6) (by decide) hw
        rcases Nat.lt_or_ge a 6 with q | q
        · exact absurd rfl (n a q)
        · rw [show a = 6 by omega] at h6
          exact absurd rfl h6
    have e2 : sMay what v = false := by simp [sMay, n0, n1, n2, n3, n4, n5]
    simp [cSet, e1, e2]
  · rcases (show k = 0 ∨ k = 1 ∨ k = 2 ∨ k = 3 ∨ k = 4 ∨ k = 5 by omega) with rfl | rfl | rfl | rfl | rfl | rfl <;> rfl
theorem set_eq6 {which v : Int32} : cSet 6 which v = (sWithin which 0 7 && sWithin v 0 8) := rfl
set_option maxHeartbeats 4000000 in
set_option maxRecDepth 100000 in
theorem c_X_revive (l : Launch) {D : va_G} {ws : va_W} {H : Heap} (hP : va_P D vwCl ws H) {kk : Nat → ClassId} {xa qad gad tad : Nat → Nat} {e0 : Nat} {time tok : Int32} {n : Nat} {f : FF} {ky : Nat → Int64} {h : FF} {qar gar arr : Nat → Option Nat} {ea cap : Nat} {md : Int32} (hX : PX kk xa qad gad tad e0 time tok n f ky h qar gar arr ea cap md ws) {B : Nat} (hD : va_D (fun q => B ≤ q) ws) (v : Int32) (hlv : cnt (pLive f) n ≤ 64) : Met l y_X_revive (Cond.code y_X_revive b_X_revive 3 (some .boolean) :: TT) ({ frames := 6, cells := 0, slots := 0, locals := 360 }) (zPc [.ref (xa 0), .int v] H D vwCl (TY kk)) (zR D vwCl B (some (.int (zb (cRev f n v)))) (fun ws' => XR kk xa qad gad tad e0 time tok n (mRev f n time v) ky qar gar arr ea cap md ws ws')) 0 0 (fun q => B ≤ q) := by
  refine z_body (by decide) (Nat.le_of_ble_eq_true rfl) ?_
  intro p e s m below meth c ls C0 hH hKN hl
  obtain ⟨hx, hb, hr, hts, hown, hlocks, hml⟩ := C0
  subst hH
  have hK := hKN.1
  have hN := hKN.2
  have hS : va_S (fun q => B ≤ q) s.heap s.heap [] := va_S.rf
  have hn := PX_n hX
  have hl : lv_has ls 3 [(0, .ref (xa 0)), (1, .int v)] := hl
  refine lv_aload_n hx hb d_X_revive_0 rfl (zl hl rfl) ?_
  refine lv_iload_n hx hb d_X_revive_1 rfl (zl hl rfl) ?_
  by_cases bq_1 : sTask v n = true
  · obtain ⟨x_2, hx_3, rfl⟩ := sTask_t (by omega) bq_1
    have ht_4 : tx (nI x_2) = x_2 := tx_nI (by omega)
    have hr_5 : tRef tad n (nI x_2) = some (tad x_2) := by rw [tRef, if_pos bq_1, ht_4]
    refine z_callq (va_runV (As := [.int (nI x_2)]) (rest := []) ⟨hx, hb, hml, hown, hts⟩ (c_X_taskAt l hP hX (nI x_2)) (cwV 1 hts (tt_V tw_183 tw_180 tw_182 tw_1 tw_30) rfl rfl rfl (by decide +kernel) ⟨Nat.le_of_ble_eq_true rfl, Nat.le_of_ble_eq_true rfl⟩) (zPc_V hKN hP (ci := 3) (q := (R_X, F_X, 5)) rfl (PX_x hX)) rfl rfl hl.1 rfl (lv_room (Nat.le_of_ble_eq_true rfl)) d_X_revive_2 ⟨Nat.zero_le _, Nat.zero_le _⟩) hS (fun locs hS => ?_)
    rw [hr_5]
    refine lv_astore_n (lv' := [(2, .ref (tad x_2)), (0, .ref (xa 0)), (1, .int (nI x_2))]) hx hb d_X_revive_5 rfl hl (by decide) rfl (fun ls hl => ?_)
    refine lv_aload_n hx hb d_X_revive_6 rfl (zl hl rfl) ?_
    refine lv_ifnull hx hb d_X_revive_7 ?_
    refine lv_aload_n hx hb d_X_revive_10 rfl (zl hl rfl) ?_
    refine z_get (C := R_T) (T := F_T) (N := 12) (v := .int (f 6 x_2)) hx hb hts inT_T hown hK hP (PX_t hX (k := x_2) (by omega)) rfl 5 (by decide) tw_406 (fun _ h => h) rfl d_X_revive_11 ?_
    refine lv_iconst (v := 3) hx hb d_X_revive_14 (by decide) ?_
    refine lv_icmp_ne (tgt := 27) hx hb d_X_revive_15 (by decide) (fun c_6 => ?_) (fun c_6 => ?_)
    · refine lv_iconst (v := 0) hx hb d_X_revive_27 (by decide) ?_
      exact z_zretR hx hb hr hlocks hP hD hS (by simp [cRev, zb, *]) (⟨⟨h, by first | (simp only [mRev, cRev, *, reduceIte, Bool.true_and, Bool.false_and, Bool.and_false, Bool.and_true, Bool.false_eq_true, decide_true, decide_false, Bool.not_true, Option.isSome]; done) | (simp only [mRev, cRev, *, reduceIte, Bool.true_and, Bool.false_and, Bool.and_false, Bool.and_true, Bool.false_eq_true, decide_true, decide_false, Bool.not_true]; exact hX)⟩, zfrX_rf⟩) d_X_revive_28
    · refine lv_aload_n hx hb d_X_revive_18 rfl (zl hl rfl) ?_
      refine z_calli (va_runV (As := []) (rest := []) ⟨hx, hb, hml, hown, hts⟩ (c_X_liveTasks l hP hX) (cwV 0 hts (tt_V tw_202 tw_199 tw_201 tw_2 tw_30) rfl rfl rfl (by decide +kernel) ⟨Nat.le_of_ble_eq_true rfl, Nat.le_of_ble_eq_true rfl⟩) (zPc_V hKN hP (ci := 3) (q := (R_X, F_X, 5)) rfl (PX_x hX)) rfl rfl hl.1 rfl (lv_room (Nat.le_of_ble_eq_true rfl)) d_X_revive_19 ⟨Nat.zero_le _, Nat.zero_le _⟩) hS (fun locs hS => ?_)
      refine lv_bipush (v := 64) hx hb d_X_revive_22 (by decide) ?_
      refine lv_icmp_lt (tgt := 29) hx hb d_X_revive_24 (by decide) (fun c_7 => ?_) (fun c_7 => ?_)
      · have b3 := (lv64 hlv).mp c_7
        refine lv_aload_n hx hb d_X_revive_29 rfl (zl hl rfl) ?_
        refine lv_aload_n hx hb d_X_revive_30 rfl (zl hl rfl) ?_
        refine z_get (C := R_X) (T := F_X) (N := 5) (v := .int time) hx hb hts inT_X hown hK hP (PX_x hX) rfl 3 (by decide) tw_136 (fun _ h => h) rfl d_X_revive_31 ?_
        have hD0 := hD
        refine z_call (va_runV (As := [.int time]) (rest := []) ⟨hx, hb, hml, hown, hts⟩ (c_T_becomeWaiting l hP (PX_t hX (k := x_2) (by omega)) (PX_tg hX (k := x_2) (by omega)) hD time) (cwV 1 hts (tt_V tw_210 tw_207 tw_208 tw_209 tw_44) rfl rfl rfl (by decide +kernel) ⟨Nat.le_of_ble_eq_true rfl, Nat.le_of_ble_eq_true rfl⟩) (zPc_V hKN hP (ci := 2) (q := (R_T, F_T, 12)) rfl (PX_t hX (k := x_2) (by omega))) rfl rfl hl.1 rfl (lv_room (Nat.le_of_ble_eq_true rfl)) d_X_revive_34 ⟨Nat.le_of_ble_eq_true rfl, Nat.le_of_ble_eq_true rfl⟩) hS (fun ws H locs hR hP hD hz9 hS => ?_)
        obtain ⟨hz1, hg1, hFr⟩ := hR
        refine lv_aload_n hx hb d_X_revive_37 rfl (zl hl rfl) ?_
        refine lv_iconst (v := 0) hx hb d_X_revive_38 (by decide) ?_
        have hD1 := hD
        refine z_put (C := R_T) (T := F_T) (N := 12) (v := .int 0) hx hb hts inT_T ft_T ft_T_ok fn_T hown hK hP hD hS hz1 rfl 6 (by decide) tw_408 (fun _ h => h) rfl rfl rfl (by simp) d_X_revive_39 (fun ws H locs hP hD hS u => ?_)
        have hz1b := hz1
        have hg1 := fun g (hg : gref f gad x_2 = some g) => u.2 _ _ (zin_ne hD1 (hg1 g hg) hz1b (by intro h; cases h)) (hg1 g hg)
        have hFr := zfrT_a hFr u
        have hXR := PX_task (f' := w1 (w1 (w1 f 6 x_2 0) 7 x_2 time) 5 x_2 0) (v6 := 0) (v5 := 0) (u0 := time) (u1 := h 1 x_2) (u2 := h 2 x_2) (u3 := h 3 x_2) (u4 := h 4 x_2) hD0 hX (by omega) u.1 hg1 hFr (by rw [w1_c (by decide), w1_c (by decide), w1_s]) w1_s (fun j h5 h6 h7 h8 h9 => by simp only [w1_c h5, w1_c h6, w1_c h7, w1_c h8, w1_c h9]) (fun i hi j => by simp only [w1_o hi]) ⟨fun _ => (by rw [w1_c (by decide), w1_s]), fun h => absurd h (by decide), fun h => absurd h (by decide)⟩
        refine lv_iconst (v := 1) hx hb d_X_revive_42 (by decide) ?_
        exact z_zretR hx hb hr hlocks hP hD hS (by simp [cRev, zb, *]) (by rw [show mRev f n time (nI x_2) = w1 (w1 (w1 f 6 x_2 0) 7 x_2 time) 5 x_2 0 by simp [mRev, cRev, *]]; exact hXR) d_X_revive_43
      · have b3 : nI (cnt (pLive f) n) = 64 := Decidable.of_not_not (fun z => c_7 ((lv64 hlv).mpr z))
        refine lv_iconst (v := 0) hx hb d_X_revive_27 (by decide) ?_
        exact z_zretR hx hb hr hlocks hP hD hS (by simp [cRev, zb, *]) (⟨⟨h, by first | (simp only [mRev, cRev, *, reduceIte, Bool.true_and, Bool.false_and, Bool.and_false, Bool.and_true, Bool.false_eq_true, decide_true, decide_false, Bool.not_true, Option.isSome]; done) | (simp only [mRev, cRev, *, reduceIte, Bool.true_and, Bool.false_and, Bool.and_false, Bool.and_true, Bool.false_eq_true, decide_true, decide_false, Bool.not_true]; exact hX)⟩, zfrX_rf⟩) d_X_revive_28
  · have bq_1 : sTask v n = false := by simpa using bq_1
    have hr_5 : tRef tad n v = none := by rw [tRef, if_neg (by rw [bq_1]; decide)]
    refine z_callq (va_runV (As := [.int v]) (rest := []) ⟨hx, hb, hml, hown, hts⟩ (c_X_taskAt l hP hX v) (cwV 1 hts (tt_V tw_183 tw_180 tw_182 tw_1 tw_30) rfl rfl rfl (by decide +kernel) ⟨Nat.le_of_ble_eq_true rfl, Nat.le_of_ble_eq_true rfl⟩) (zPc_V hKN hP (ci := 3) (q := (R_X, F_X, 5)) rfl (PX_x hX)) rfl rfl hl.1 rfl (lv_room (Nat.le_of_ble_eq_true rfl)) d_X_revive_2 ⟨Nat.zero_le _, Nat.zero_le _⟩) hS (fun locs hS => ?_)
    rw [hr_5]
    refine lv_astore_nN (lv' := [(2, .null), (0, .ref (xa 0)), (1, .int v)]) hx hb d_X_revive_5 rfl hl (by decide) rfl (fun ls hl => ?_)
    refine lv_aload_nN hx hb d_X_revive_6 rfl (zl hl rfl) ?_
    refine lv_ifnullN (tgt := 27) hx hb d_X_revive_7 (by decide) ?_
    refine lv_iconst (v := 0) hx hb d_X_revive_27 (by decide) ?_
    exact z_zretR hx hb hr hlocks hP hD hS (by simp [cRev, zb, *]) (⟨⟨h, by first | (simp only [mRev, cRev, *, reduceIte, Bool.true_and, Bool.false_and, Bool.and_false, Bool.and_true, Bool.false_eq_true, decide_true, decide_false, Bool.not_true, Option.isSome]; done) | (simp only [mRev, cRev, *, reduceIte, Bool.true_and, Bool.false_and, Bool.and_false, Bool.and_true, Bool.false_eq_true, decide_true, decide_false, Bool.not_true]; exact hX)⟩, zfrX_rf⟩) d_X_revive_28
set_option maxHeartbeats 4000000 in
set_option maxRecDepth 100000 in
theorem c_Q_mayBe (l : Launch) {D : va_G} {tys : List (ClassId × FieldType)} {ws : va_W} {H : Heap} (hP : va_P D vwCl ws H) (what v : Int32) : Met l y_Q_mayBe (Cond.code y_Q_mayBe b_Q_mayBe 2 (some .boolean) :: TT) ({ frames := 2, cells := 0, slots := 0, locals := 120 }) (zPc [.int what, .int v] H D vwCl tys) (zQi (zb (sMay what v)) H) 0 0 (fun _ => False) := by
  refine z_body (by decide) (Nat.le_of_ble_eq_true rfl) ?_
  intro p e s m below meth c ls C0 hH hKN hl
  obtain ⟨hx, hb, hr, hts, hown, hlocks, hml⟩ := C0
  subst hH
  have hK := hKN.1
  have hN := hKN.2
  have hS : va_S (fun _ => False) s.heap s.heap [] := va_S.rf
  have hl : lv_has ls 2 [(0, .int what), (1, .int v)] := hl
  refine lv_iload_n hx hb d_Q_mayBe_0 rfl (zl hl rfl) ?_
  rcases z_sw what 5 (by decide) with d_1 | ⟨k9, hk9, hkk⟩
  · have n_2 : ¬ what = 0 := fun h => absurd (h ▸ d_1) (by decide)
    have n_3 : ¬ what = 1 := fun h => absurd (h ▸ d_1) (by decide)
    have n_4 : ¬ what = 2 := fun h => absurd (h ▸ d_1) (by decide)
    have n_5 : ¬ what = 3 := fun h => absurd (h ▸ d_1) (by decide)
    have n_6 : ¬ what = 4 := fun h => absurd (h ▸ d_1) (by decide)
    have n_7 : ¬ what = 5 := fun h => absurd (h ▸ d_1) (by decide)
    refine lv_tableOut (tgt := 91) hx hb d_Q_mayBe_1 d_1 (by decide) ?_
    refine lv_iconst (v := 0) hx hb d_Q_mayBe_91 (by decide) ?_
    exact z_zret hx hb hr hlocks hS (by first | rfl | simp [sMay, zb, *]) d_Q_mayBe_92
  · obtain rfl | rfl | rfl | rfl | rfl | rfl : k9 = 0 ∨ k9 = 1 ∨ k9 = 2 ∨ k9 = 3 ∨ k9 = 4 ∨ k9 = 5 := by omega
    · have e9 : what = 0 := hkk
      clear hkk
      subst e9
      refine lv_tableIn (tgt := 40) hx hb d_Q_mayBe_1 (by decide) (by decide) rfl (by decide) ?_
      refine lv_iload_n hx hb d_Q_mayBe_40 rfl (zl hl rfl) ?_
      refine lv_iconst (v := 1) hx hb d_Q_mayBe_41 (by decide) ?_
      refine lv_sipush (v := 200) hx hb d_Q_mayBe_42 (by decide) ?_
      refine z_calli (va_runSN (As := [.int v, .int 1, .int 200]) (rest := []) ⟨hx, hb, hml, hown, hts⟩ (c_X_within l hP v 1 200) ⟨va_cnB 3 hts (tt_in tw_186) rfl rfl rfl hN.2.2 (hts _ tw_30) (by decide +kernel) ⟨Nat.le_of_ble_eq_true rfl, Nat.le_of_ble_eq_true rfl⟩, hts _ tw_185, trivial⟩ (zPc_S hKN) rfl rfl hl.1 rfl (lv_room (Nat.le_of_ble_eq_true rfl)) d_Q_mayBe_45 ⟨Nat.zero_le _, Nat.zero_le _⟩) hS (fun locs hS => ?_)
      exact z_zret hx hb hr hlocks hS (by first | rfl | simp [sMay, zb, *]) d_Q_mayBe_48
    · have e9 : what = 1 := hkk
      clear hkk
      subst e9
      refine lv_tableIn (tgt := 49) hx hb d_Q_mayBe_1 (by decide) (by decide) rfl (by decide) ?_
      refine lv_iload_n hx hb d_Q_mayBe_49 rfl (zl hl rfl) ?_
      refine lv_iconst (v := 1) hx hb d_Q_mayBe_50 (by decide) ?_
      refine lv_bipush (v := 20) hx hb d_Q_mayBe_51 (by decide) ?_
      refine z_calli (va_runSN (As := [.int v, .int 1, .int 20]) (rest := []) ⟨hx, hb, hml, hown, hts⟩ (c_X_within l hP v 1 20) ⟨va_cnB 3 hts (tt_in tw_186) rfl rfl rfl hN.2.2 (hts _ tw_30) (by decide +kernel) ⟨Nat.le_of_ble_eq_true rfl, Nat.le_of_ble_eq_true rfl⟩, hts _ tw_185, trivial⟩ (zPc_S hKN) rfl rfl hl.1 rfl (lv_room (Nat.le_of_ble_eq_true rfl)) d_Q_mayBe_53 ⟨Nat.zero_le _, Nat.zero_le _⟩) hS (fun locs hS => ?_)
      exact z_zret hx hb hr hlocks hS (by first | rfl | simp [sMay, zb, *]) d_Q_mayBe_56
    · have e9 : what = 2 := hkk
      clear hkk
      subst e9
      refine lv_tableIn (tgt := 57) hx hb d_Q_mayBe_1 (by decide) (by decide) rfl (by decide) ?_
      refine lv_iload_n hx hb d_Q_mayBe_57 rfl (zl hl rfl) ?_
      refine lv_iconst (v := 1) hx hb d_Q_mayBe_58 (by decide) ?_
      refine lv_bipush (v := 100) hx hb d_Q_mayBe_59 (by decide) ?_
      refine z_calli (va_runSN (As := [.int v, .int 1, .int 100]) (rest := []) ⟨hx, hb, hml, hown, hts⟩ (c_X_within l hP v 1 100) ⟨va_cnB 3 hts (tt_in tw_186) rfl rfl rfl hN.2.2 (hts _ tw_30) (by decide +kernel) ⟨Nat.le_of_ble_eq_true rfl, Nat.le_of_ble_eq_true rfl⟩, hts _ tw_185, trivial⟩ (zPc_S hKN) rfl rfl hl.1 rfl (lv_room (Nat.le_of_ble_eq_true rfl)) d_Q_mayBe_61 ⟨Nat.zero_le _, Nat.zero_le _⟩) hS (fun locs hS => ?_)
      exact z_zret hx hb hr hlocks hS (by first | rfl | simp [sMay, zb, *]) d_Q_mayBe_64
    · have e9 : what = 3 := hkk
      clear hkk
      subst e9
      refine lv_tableIn (tgt := 65) hx hb d_Q_mayBe_1 (by decide) (by decide) rfl (by decide) ?_
      refine lv_iload_n hx hb d_Q_mayBe_65 rfl (zl hl rfl) ?_
      refine lv_iconst (v := 1) hx hb d_Q_mayBe_66 (by decide) ?_
      refine lv_sipush (v := 1000) hx hb d_Q_mayBe_67 (by decide) ?_
      refine z_calli (va_runSN (As := [.int v, .int 1, .int 1000]) (rest := []) ⟨hx, hb, hml, hown, hts⟩ (c_X_within l hP v 1 1000) ⟨va_cnB 3 hts (tt_in tw_186) rfl rfl rfl hN.2.2 (hts _ tw_30) (by decide +kernel) ⟨Nat.le_of_ble_eq_true rfl, Nat.le_of_ble_eq_true rfl⟩, hts _ tw_185, trivial⟩ (zPc_S hKN) rfl rfl hl.1 rfl (lv_room (Nat.le_of_ble_eq_true rfl)) d_Q_mayBe_70 ⟨Nat.zero_le _, Nat.zero_le _⟩) hS (fun locs hS => ?_)
      exact z_zret hx hb hr hlocks hS (by first | rfl | simp [sMay, zb, *]) d_Q_mayBe_73
    · have e9 : what = 4 := hkk
      clear hkk
      subst e9
      refine lv_tableIn (tgt := 74) hx hb d_Q_mayBe_1 (by decide) (by decide) rfl (by decide) ?_
      refine lv_iload_n hx hb d_Q_mayBe_74 rfl (zl hl rfl) ?_
      refine lv_iconst (v := 0) hx hb d_Q_mayBe_75 (by decide) ?_
      refine lv_bipush (v := 100) hx hb d_Q_mayBe_76 (by decide) ?_
      refine z_calli (va_runSN (As := [.int v, .int 0, .int 100]) (rest := []) ⟨hx, hb, hml, hown, hts⟩ (c_X_within l hP v 0 100) ⟨va_cnB 3 hts (tt_in tw_186) rfl rfl rfl hN.2.2 (hts _ tw_30) (by decide +kernel) ⟨Nat.le_of_ble_eq_true rfl, Nat.le_of_ble_eq_true rfl⟩, hts _ tw_185, trivial⟩ (zPc_S hKN) rfl rfl hl.1 rfl (lv_room (Nat.le_of_ble_eq_true rfl)) d_Q_mayBe_78 ⟨Nat.zero_le _, Nat.zero_le _⟩) hS (fun locs hS => ?_)
      exact z_zret hx hb hr hlocks hS (by first | rfl | simp [sMay, zb, *]) d_Q_mayBe_81
    · have e9 : what = 5 := hkk
      clear hkk
      subst e9
      refine lv_tableIn (tgt := 82) hx hb d_Q_mayBe_1 (by decide) (by decide) rfl (by decide) ?_
      refine lv_iload_n hx hb d_Q_mayBe_82 rfl (zl hl rfl) ?_
      refine lv_iconst (v := 0) hx hb d_Q_mayBe_83 (by decide) ?_
      refine lv_sipush (v := 1000) hx hb d_Q_mayBe_84 (by decide) ?_
      refine z_calli (va_runSN (As := [.int v, .int 0, .int 1000]) (rest := []) ⟨hx, hb, hml, hown, hts⟩ (c_X_within l hP v 0 1000) ⟨va_cnB 3 hts (tt_in tw_186) rfl rfl rfl hN.2.2 (hts _ tw_30) (by decide +kernel) ⟨Nat.le_of_ble_eq_true rfl, Nat.le_of_ble_eq_true rfl⟩, hts _ tw_185, trivial⟩ (zPc_S hKN) rfl rfl hl.1 rfl (lv_room (Nat.le_of_ble_eq_true rfl)) d_Q_mayBe_87 ⟨Nat.zero_le _, Nat.zero_le _⟩) hS (fun locs hS => ?_)
      exact z_zret hx hb hr hlocks hS (by first | rfl | simp [sMay, zb, *]) d_Q_mayBe_90
set_option maxHeartbeats 4000000 in
set_option maxRecDepth 100000 in
theorem c_Q_change (l : Launch) {D : va_G} {tys : List (ClassId × FieldType)} {ws : va_W} {H : Heap} (hP : va_P D vwCl ws H) {qa : Nat} {loan most base top growth memory : Int32} (hq : zin ws qa (.inr (1, [.int loan, .int most, .int base, .int top, .int growth, .int memory]))) {B : Nat} (hD : va_D (fun q => B ≤ q) ws) (what v : Int32) : Met l y_Q_change (Cond.code y_Q_change b_Q_change 3 (some .boolean) :: TT) ({ frames := 3, cells := 0, slots := 0, locals := 180 }) (zPc [.ref qa, .int what, .int v] H D vwCl tys) (zR D vwCl B (some (.int (zb (sMay what v)))) (fun ws' => (sMay what v = true ∧ tx what < 6 ∧ what = nI (tx what) ∧ zupd ws qa (.inr (1, ([.int loan, .int most, .int base, .int top, .int growth, .int memory] : List Value).set (tx what) (.int v))) ws') ∨ (sMay what v = false ∧ ws' = ws))) 0 0 (fun q => B ≤ q) := by
  refine z_body (by decide) (Nat.le_of_ble_eq_true rfl) ?_
  intro p e s m below meth c ls C0 hH hKN hl
  obtain ⟨hx, hb, hr, hts, hown, hlocks, hml⟩ := C0
  subst hH
  have hK := hKN.1
  have hN := hKN.2
  have hS : va_S (fun q => B ≤ q) s.heap s.heap [] := va_S.rf
  have hl : lv_has ls 3 [(0, .ref qa), (1, .int what), (2, .int v)] := hl
  refine lv_iload_n hx hb d_Q_change_0 rfl (zl hl rfl) ?_
  refine lv_iload_n hx hb d_Q_change_1 rfl (zl hl rfl) ?_
  refine z_calli (va_runS (As := [.int what, .int v]) (rest := []) ⟨hx, hb, hml, hown, hts⟩ (c_Q_mayBe l hP what v) (va_cwS 2 hts (tt_S tw_233 tw_231 tw_232 tw_34) rfl rfl rfl (by decide +kernel) ⟨Nat.le_of_ble_eq_true rfl, Nat.le_of_ble_eq_true rfl⟩) (zPc_S hKN) rfl rfl hl.1 rfl (lv_room (Nat.le_of_ble_eq_true rfl)) d_Q_change_2 ⟨Nat.zero_le _, Nat.zero_le _⟩) hS (fun locs hS => ?_)
  refine lv_if_ne (tgt := 10) hx hb d_Q_change_5 (by decide) (fun c_1 => ?_) (fun c_1 => ?_)
  · have b1 := zb_t c_1
    refine lv_iload_n hx hb d_Q_change_10 rfl (zl hl rfl) ?_
    rcases z_sw what 5 (by decide) with d_2 | ⟨k9, hk9, hkk⟩
    · have n_3 : ¬ what = 0 := fun h => absurd (h ▸ d_2) (by decide)
      have n_4 : ¬ what = 1 := fun h => absurd (h ▸ d_2) (by decide)
      have n_5 : ¬ what = 2 := fun h => absurd (h ▸ d_2) (by decide)
      have n_6 : ¬ what = 3 := fun h => absurd (h ▸ d_2) (by decide)
      have n_7 : ¬ what = 4 := fun h => absurd (h ▸ d_2) (by decide)
      have n_8 : ¬ what = 5 := fun h => absurd (h ▸ d_2) (by decide)
      refine lv_tableOut (tgt := 96) hx hb d_Q_change_11 d_2 (by decide) ?_
      exact absurd b1 (by simp [sMay, *])
    · obtain rfl | rfl | rfl | rfl | rfl | rfl : k9 = 0 ∨ k9 = 1 ∨ k9 = 2 ∨ k9 = 3 ∨ k9 = 4 ∨ k9 = 5 := by omega
      · have e9 : what = 0 := hkk
        clear hkk
        subst e9
        refine lv_tableIn (tgt := 48) hx hb d_Q_change_11 (by decide) (by decide) rfl (by decide) ?_
        refine lv_aload_n hx hb d_Q_change_48 rfl (zl hl rfl) ?_
        refine lv_iload_n hx hb d_Q_change_49 rfl (zl hl rfl) ?_
        refine z_put (C := R_Q) (T := F_Q) (N := 6) (v := .int v) hx hb hts inT_Q ft_Q ft_Q_ok fn_Q hown hK hP hD hS hq rfl 0 (by decide) tw_93 (fun _ h => h) rfl rfl rfl (by simp) d_Q_change_50 (fun ws H locs hP hD hS u_9 => ?_)
        refine lv_goto (tgt := 98) hx hb d_Q_change_53 (by decide) ?_
        refine lv_iconst (v := 1) hx hb d_Q_change_98 (by decide) ?_
        exact z_zretR hx hb hr hlocks hP hD hS (by rw [b1]; rfl) (Or.inl ⟨b1, by decide, by decide, u_9⟩) d_Q_change_99
      · have e9 : what = 1 := hkk
        clear hkk
        subst e9
        refine lv_tableIn (tgt := 56) hx hb d_Q_change_11 (by decide) (by decide) rfl (by decide) ?_
        refine lv_aload_n hx hb d_Q_change_56 rfl (zl hl rfl) ?_
        refine lv_iload_n hx hb d_Q_change_57 rfl (zl hl rfl) ?_
        refine z_put (C := R_Q) (T := F_Q) (N := 6) (v := .int v) hx hb hts inT_Q ft_Q ft_Q_ok fn_Q hown hK hP hD hS hq rfl 1 (by decide) tw_96 (fun _ h => h) rfl rfl rfl (by simp) d_Q_change_58 (fun ws H locs hP hD hS u_10 => ?_)
        refine lv_goto (tgt := 98) hx hb d_Q_change_61 (by decide) ?_
        refine lv_iconst (v := 1) hx hb d_Q_change_98 (by decide) ?_
        exact z_zretR hx hb hr hlocks hP hD hS (by rw [b1]; rfl) (Or.inl ⟨b1, by decide, by decide, u_10⟩) d_Q_change_99
      · have e9 : what = 2 := hkk
        clear hkk
        subst e9
        refine lv_tableIn (tgt := 64) hx hb d_Q_change_11 (by decide) (by decide) rfl (by decide) ?_
        refine lv_aload_n hx hb d_Q_change_64 rfl (zl hl rfl) ?_
        refine lv_iload_n hx hb d_Q_change_65 rfl (zl hl rfl) ?_
        refine z_put (C := R_Q) (T := F_Q) (N := 6) (v := .int v) hx hb hts inT_Q ft_Q ft_Q_ok fn_Q hown hK hP hD hS hq rfl 2 (by decide) tw_98 (fun _ h => h) rfl rfl rfl (by simp) d_Q_change_66 (fun ws H locs hP hD hS u_11 => ?_)
        refine lv_goto (tgt := 98) hx hb d_Q_change_69 (by decide) ?_
        refine lv_iconst (v := 1) hx hb d_Q_change_98 (by decide) ?_
        exact z_zretR hx hb hr hlocks hP hD hS (by rw [b1]; rfl) (Or.inl ⟨b1, by decide, by decide, u_11⟩) d_Q_change_99
      · have e9 : what = 3 := hkk
        clear hkk
        subst e9
        refine lv_tableIn (tgt := 72) hx hb d_Q_change_11 (by decide) (by decide) rfl (by decide) ?_
        refine lv_aload_n hx hb d_Q_change_72 rfl (zl hl rfl) ?_
        refine lv_iload_n hx hb d_Q_change_73 rfl (zl hl rfl) ?_
        refine z_put (C := R_Q) (T := F_Q) (N := 6) (v := .int v) hx hb hts inT_Q ft_Q ft_Q_ok fn_Q hown hK hP hD hS hq rfl 3 (by decide) tw_99 (fun _ h => h) rfl rfl rfl (by simp) d_Q_change_74 (fun ws H locs hP hD hS u_12 => ?_)
        refine lv_goto (tgt := 98) hx hb d_Q_change_77 (by decide) ?_
        refine lv_iconst (v := 1) hx hb d_Q_change_98 (by decide) ?_
        exact z_zretR hx hb hr hlocks hP hD hS (by rw [b1]; rfl) (Or.inl ⟨b1, by decide, by decide, u_12⟩) d_Q_change_99
      · have e9 : what = 4 := hkk
        clear hkk
        subst e9
        refine lv_tableIn (tgt := 80) hx hb d_Q_change_11 (by decide) (by decide) rfl (by decide) ?_
        refine lv_aload_n hx hb d_Q_change_80 rfl (zl hl rfl) ?_
        refine lv_iload_n hx hb d_Q_change_81 rfl (zl hl rfl) ?_
        refine z_put (C := R_Q) (T := F_Q) (N := 6) (v := .int v) hx hb hts inT_Q ft_Q ft_Q_ok fn_Q hown hK hP hD hS hq rfl 4 (by decide) tw_100 (fun _ h => h) rfl rfl rfl (by simp) d_Q_change_82 (fun ws H locs hP hD hS u_13 => ?_)
        refine lv_goto (tgt := 98) hx hb d_Q_change_85 (by decide) ?_
        refine lv_iconst (v := 1) hx hb d_Q_change_98 (by decide) ?_
        exact z_zretR hx hb hr hlocks hP hD hS (by rw [b1]; rfl) (Or.inl ⟨b1, by decide, by decide, u_13⟩) d_Q_change_99
      · have e9 : what = 5 := hkk
        clear hkk
        subst e9
        refine lv_tableIn (tgt := 88) hx hb d_Q_change_11 (by decide) (by decide) rfl (by decide) ?_
        refine lv_aload_n hx hb d_Q_change_88 rfl (zl hl rfl) ?_
        refine lv_iload_n hx hb d_Q_change_89 rfl (zl hl rfl) ?_
        refine z_put (C := R_Q) (T := F_Q) (N := 6) (v := .int v) hx hb hts inT_Q ft_Q ft_Q_ok fn_Q hown hK hP hD hS hq rfl 5 (by decide) tw_102 (fun _ h => h) rfl rfl rfl (by simp) d_Q_change_90 (fun ws H locs hP hD hS u_14 => ?_)
        refine lv_goto (tgt := 98) hx hb d_Q_change_93 (by decide) ?_
        refine lv_iconst (v := 1) hx hb d_Q_change_98 (by decide) ?_
        exact z_zretR hx hb hr hlocks hP hD hS (by rw [b1]; rfl) (Or.inl ⟨b1, by decide, by decide, u_14⟩) d_Q_change_99
  · have b1 := zb_f c_1
    refine lv_iconst (v := 0) hx hb d_Q_change_8 (by decide) ?_
    exact z_zretR hx hb hr hlocks hP hD hS (by rw [b1]; rfl) (Or.inr ⟨b1, rfl⟩) d_Q_change_9
set_option maxHeartbeats 4000000 in
set_option maxRecDepth 100000 in
theorem c_X_changeLimitN (l : Launch) {D : va_G} {tys : List (ClassId × FieldType)} {ws : va_W} {H : Heap} (hP : va_P D vwCl ws H) (v : Int32) : Met l y_X_changeLimit (Cond.code y_X_changeLimit b_X_changeLimit 2 (some .boolean) :: TT) ({ frames := 2, cells := 0, slots := 0, locals := 120 }) (zPc [.null, .int v] H D vwCl tys) (zQi (zb false) H) 0 0 (fun _ => False) := by
  refine z_body (by decide) (Nat.le_of_ble_eq_true rfl) ?_
  intro p e s m below meth c ls C0 hH hKN hl
  obtain ⟨hx, hb, hr, hts, hown, hlocks, hml⟩ := C0
  subst hH
  have hK := hKN.1
  have hN := hKN.2
  have hS : va_S (fun _ => False) s.heap s.heap [] := va_S.rf
  have hl : lv_has ls 2 [(0, .null), (1, .int v)] := hl
  refine lv_aload_nN hx hb d_X_changeLimit_0 rfl (zl hl rfl) ?_
  refine lv_ifnullN (tgt := 14) hx hb d_X_changeLimit_1 (by decide) ?_
  refine lv_iconst (v := 0) hx hb d_X_changeLimit_14 (by decide) ?_
  exact z_zret hx hb hr hlocks hS (rfl) d_X_changeLimit_15
set_option maxHeartbeats 4000000 in
set_option maxRecDepth 100000 in
theorem c_X_changeLimit (l : Launch) {D : va_G} {tys : List (ClassId × FieldType)} {ws : va_W} {H : Heap} (hP : va_P D vwCl ws H) {g : Nat} {limit lent : Int32} (hg : zin ws g (.inr (0, [.int limit, .int lent]))) {B : Nat} (hD : va_D (fun q => B ≤ q) ws) (v : Int32) : Met l y_X_changeLimit (Cond.code y_X_changeLimit b_X_changeLimit 2 (some .boolean) :: TT) ({ frames := 2, cells := 0, slots := 0, locals := 120 }) (zPc [.ref g, .int v] H D vwCl tys) (zR D vwCl B (some (.int (zb (sWithin v 0 8)))) (fun ws' => (sWithin v 0 8 = true ∧ zupd ws g (.inr (0, [.int v, .int lent])) ws') ∨ (sWithin v 0 8 = false ∧ ws' = ws))) 0 0 (fun q => B ≤ q) := by
  refine z_body (by decide) (Nat.le_of_ble_eq_true rfl) ?_
  intro p e s m below meth c ls C0 hH hKN hl
  obtain ⟨hx, hb, hr, hts, hown, hlocks, hml⟩ := C0
  subst hH
  have hK := hKN.1
  have hN := hKN.2
  have hS : va_S (fun q => B ≤ q) s.heap s.heap [] := va_S.rf
  have hl : lv_has ls 2 [(0, .ref g), (1, .int v)] := hl
  refine lv_aload_n hx hb d_X_changeLimit_0 rfl (zl hl rfl) ?_
  refine lv_ifnull hx hb d_X_changeLimit_1 ?_
  refine lv_iload_n hx hb d_X_changeLimit_4 rfl (zl hl rfl) ?_
  refine lv_iconst (v := 0) hx hb d_X_changeLimit_5 (by decide) ?_
  refine lv_bipush (v := 8) hx hb d_X_changeLimit_6 (by decide) ?_
  refine z_calli (va_runS (As := [.int v, .int 0, .int 8]) (rest := []) ⟨hx, hb, hml, hown, hts⟩ (c_X_within l hP v 0 8) (va_cwS 3 hts (tt_S tw_186 tw_184 tw_185 tw_30) rfl rfl rfl (by decide +kernel) ⟨Nat.le_of_ble_eq_true rfl, Nat.le_of_ble_eq_true rfl⟩) (zPc_S hKN) rfl rfl hl.1 rfl (lv_room (Nat.le_of_ble_eq_true rfl)) d_X_changeLimit_8 ⟨Nat.zero_le _, Nat.zero_le _⟩) hS (fun locs hS => ?_)
  refine lv_if_ne (tgt := 16) hx hb d_X_changeLimit_11 (by decide) (fun c_1 => ?_) (fun c_1 => ?_)
  · have b1 := zb_t c_1
    refine lv_aload_n hx hb d_X_changeLimit_16 rfl (zl hl rfl) ?_
    refine lv_iload_n hx hb d_X_changeLimit_17 rfl (zl hl rfl) ?_
    refine z_put (C := R_G) (T := F_G) (N := 2) (v := .int v) hx hb hts inT_G ft_G ft_G_ok fn_G hown hK hP hD hS hg rfl 0 (by decide) tw_124 (fun _ h => h) rfl rfl rfl (by simp) d_X_changeLimit_18 (fun ws H locs hP hD hS u => ?_)
    refine lv_iconst (v := 1) hx hb d_X_changeLimit_21 (by decide) ?_
    exact z_zretR hx hb hr hlocks hP hD hS (by rw [b1]; rfl) (Or.inl ⟨b1, u⟩) d_X_changeLimit_22
  · have b1 := zb_f c_1
    refine lv_iconst (v := 0) hx hb d_X_changeLimit_14 (by decide) ?_
    exact z_zretR hx hb hr hlocks hP hD hS (by rw [b1]; rfl) (Or.inr ⟨b1, rfl⟩) d_X_changeLimit_15
set_option maxHeartbeats 4000000 in
set_option maxRecDepth 100000 in
theorem c_X_set (l : Launch) {D : va_G} {ws : va_W} {H : Heap} (hP : va_P D vwCl ws H) {kk : Nat → ClassId} {xa qad gad tad : Nat → Nat} {e0 : Nat} {time tok : Int32} {n : Nat} {f : FF} {ky : Nat → Int64} {h : FF} {qar gar arr : Nat → Option Nat} {ea cap : Nat} {md : Int32} (hX : PX kk xa qad gad tad e0 time tok n f ky h qar gar arr ea cap md ws) {B : Nat} (hD : va_D (fun q => B ≤ q) ws) (what which v : Int32) : Met l y_X_set (Cond.code y_X_set b_X_set 5 (some .boolean) :: TT) ({ frames := 4, cells := 0, slots := 0, locals := 240 }) (zPc [.ref (xa 0), .int what, .int which, .int v] H D vwCl (TY kk)) (zR D vwCl B (some (.int (zb (cSet what which v)))) (fun ws' => XR kk xa qad gad tad e0 time tok n (mSet f what which v) ky qar gar arr ea cap md ws ws')) 0 0 (fun q => B ≤ q) := by
  refine z_body (by decide) (Nat.le_of_ble_eq_true rfl) ?_
  intro p e s m below meth c ls C0 hH hKN hl
  obtain ⟨hx, hb, hr, hts, hown, hlocks, hml⟩ := C0
  subst hH
  have hK := hKN.1
  have hN := hKN.2
  have hS : va_S (fun q => B ≤ q) s.heap s.heap [] := va_S.rf
  have hn := PX_n hX
  have hl : lv_has ls 5 [(0, .ref (xa 0)), (1, .int what), (2, .int which), (3, .int v)] := hl
  refine lv_iload_n hx hb d_X_set_0 rfl (zl hl rfl) ?_
  refine lv_bipush (v := 6) hx hb d_X_set_1 (by decide) ?_
  refine lv_icmp_ne (tgt := 16) hx hb d_X_set_3 (by decide) (fun c_1 => ?_) (fun c_1 => ?_)
  · have b6 : ¬ what = 6 := c_1
    refine lv_aload_n hx hb d_X_set_16 rfl (zl hl rfl) ?_
    refine lv_iload_n hx hb d_X_set_17 rfl (zl hl rfl) ?_
    by_cases bQ : sWithin which 0 3 = true
    · obtain ⟨x_2, hx_3, rfl⟩ := sWithin_nI (h := 3) (by decide) bQ
      have hT : tx (nI x_2) = x_2 := tx_nI (by omega)
      have hr_4 : qRef qad (nI x_2) = some (qad x_2) := by rw [qRef, if_pos bQ, hT]
      refine z_callq (va_runV (As := [.int (nI x_2)]) (rest := []) ⟨hx, hb, hml, hown, hts⟩ (c_X_queueAt l hP hX (nI x_2)) (cwV 1 hts (tt_V tw_226 tw_223 tw_225 tw_5 tw_30) rfl rfl rfl (by decide +kernel) ⟨Nat.le_of_ble_eq_true rfl, Nat.le_of_ble_eq_true rfl⟩) (zPc_V hKN hP (ci := 3) (q := (R_X, F_X, 5)) rfl (PX_x hX)) rfl rfl hl.1 rfl (lv_room (Nat.le_of_ble_eq_true rfl)) d_X_set_18 ⟨Nat.zero_le _, Nat.zero_le _⟩) hS (fun locs hS => ?_)
      rw [hr_4]
      refine lv_astore (lv' := [(4, .ref (qad x_2)), (0, .ref (xa 0)), (1, .int what), (2, .int (nI x_2)), (3, .int v)]) hx hb d_X_set_21 hl (by decide) rfl (fun ls hl => ?_)
      refine lv_aload hx hb d_X_set_23 (zl hl rfl) ?_
      refine lv_ifnull hx hb d_X_set_25 ?_
      refine lv_aload hx hb d_X_set_28 (zl hl rfl) ?_
      refine lv_iload_n hx hb d_X_set_30 rfl (zl hl rfl) ?_
      refine lv_iload_n hx hb d_X_set_31 rfl (zl hl rfl) ?_
      have hD0 := hD
      refine z_call (va_runV (As := [.int what, .int v]) (rest := []) ⟨hx, hb, hml, hown, hts⟩ (c_Q_change l hP (PX_q hX (i := x_2) (by omega)) hD what v) (cwV 2 hts (tt_V tw_230 tw_227 tw_228 tw_229 tw_34) rfl rfl rfl (by decide +kernel) ⟨Nat.le_of_ble_eq_true rfl, Nat.le_of_ble_eq_true rfl⟩) (zPc_V hKN hP (ci := 1) (q := (R_Q, F_Q, 6)) rfl (PX_q hX (i := x_2) (by omega))) rfl rfl hl.1 rfl (lv_room (Nat.le_of_ble_eq_true rfl)) d_X_set_32 ⟨Nat.le_of_ble_eq_true rfl, Nat.le_of_ble_eq_true rfl⟩) hS (fun ws H locs hR hP hD hz9 hS => ?_)
      refine lv_if_eq (tgt := 42) hx hb d_X_set_35 (by decide) (fun c_5 => ?_) (fun c_5 => ?_)
      · have b9 := zb_f c_5
        refine lv_iconst (v := 0) hx hb d_X_set_42 (by decide) ?_
        rcases hR with ⟨r1, r2⟩ | ⟨r1, r2⟩
        · rw [r1] at b9
          cases b9
        · exact z_zretR hx hb hr hlocks hP hD hS (by rw [set_eq b6, r1, Bool.and_false]; rfl) (by rw [r2, show mSet f what (nI x_2) v = f by unfold mSet; rw [if_neg (by rw [set_eq b6, r1, Bool.and_false]; decide)]]; exact ⟨⟨h, hX⟩, zfrX_rf⟩) d_X_set_43
      · have b9 := zb_t c_5
        refine lv_iconst (v := 1) hx hb d_X_set_38 (by decide) ?_
        refine lv_goto (tgt := 43) hx hb d_X_set_39 (by decide) ?_
        rcases hR with ⟨r1, r2, r3, r4⟩ | ⟨r1, r2⟩
        · exact z_zretR hx hb hr hlocks hP hD hS (by rw [set_eq b6, bQ, r1]; rfl) (by rw [show mSet f what (nI x_2) v = w1 f 10 (6 * x_2 + tx what) v by unfold mSet; rw [if_pos (by rw [set_eq b6, bQ, r1]; rfl), if_neg (by intro z; rw [r3] at z; exact absurd ((nI_leI (a := 6) (by decide) (by omega)).mp z) (by omega)), hT]]; exact PX_wq hD0 hX (by omega) r2 rfl (by rw [qcl_set r2]; exact r4)) d_X_set_43
        · rw [r1] at b9
          cases b9
    · have bQ : sWithin which 0 3 = false := by simpa using bQ
      have hr_4 : qRef qad which = none := by rw [qRef, if_neg (by rw [bQ]; decide)]
      refine z_callq (va_runV (As := [.int which]) (rest := []) ⟨hx, hb, hml, hown, hts⟩ (c_X_queueAt l hP hX which) (cwV 1 hts (tt_V tw_226 tw_223 tw_225 tw_5 tw_30) rfl rfl rfl (by decide +kernel) ⟨Nat.le_of_ble_eq_true rfl, Nat.le_of_ble_eq_true rfl⟩) (zPc_V hKN hP (ci := 3) (q := (R_X, F_X, 5)) rfl (PX_x hX)) rfl rfl hl.1 rfl (lv_room (Nat.le_of_ble_eq_true rfl)) d_X_set_18 ⟨Nat.zero_le _, Nat.zero_le _⟩) hS (fun locs hS => ?_)
      rw [hr_4]
      refine lv_astoreN (lv' := [(4, .null), (0, .ref (xa 0)), (1, .int what), (2, .int which), (3, .int v)]) hx hb d_X_set_21 hl (by decide) rfl (fun ls hl => ?_)
      refine lv_aloadN hx hb d_X_set_23 (zl hl rfl) ?_
      refine lv_ifnullN (tgt := 42) hx hb d_X_set_25 (by decide) ?_
      refine lv_iconst (v := 0) hx hb d_X_set_42 (by decide) ?_
      exact z_zretR hx hb hr hlocks hP hD hS (by rw [set_eq b6, bQ]; rfl) (by rw [show mSet f what which v = f by unfold mSet; rw [if_neg (by rw [set_eq b6, bQ, Bool.false_and]; decide)]]; exact ⟨⟨h, hX⟩, zfrX_rf⟩) d_X_set_43
  · have e6 : what = 6 := c_1
    subst e6
    refine lv_aload_n hx hb d_X_set_6 rfl (zl hl rfl) ?_
    refine lv_iload_n hx hb d_X_set_7 rfl (zl hl rfl) ?_
    by_cases bG : sWithin which 0 7 = true
    · obtain ⟨x_6, hx_7, rfl⟩ := sWithin_nI (h := 7) (by decide) bG
      have hT : tx (nI x_6) = x_6 := tx_nI (by omega)
      have hr_8 : gRef gad (nI x_6) = some (gad x_6) := by rw [gRef, if_pos bG, hT]
      refine z_callq (va_runV (As := [.int (nI x_6)]) (rest := []) ⟨hx, hb, hml, hown, hts⟩ (c_X_groupAt l hP hX (nI x_6)) (cwV 1 hts (tt_V tw_219 tw_216 tw_218 tw_4 tw_30) rfl rfl rfl (by decide +kernel) ⟨Nat.le_of_ble_eq_true rfl, Nat.le_of_ble_eq_true rfl⟩) (zPc_V hKN hP (ci := 3) (q := (R_X, F_X, 5)) rfl (PX_x hX)) rfl rfl hl.1 rfl (lv_room (Nat.le_of_ble_eq_true rfl)) d_X_set_8 ⟨Nat.zero_le _, Nat.zero_le _⟩) hS (fun locs hS => ?_)
      rw [hr_8]
      refine lv_iload_n hx hb d_X_set_11 rfl (zl hl rfl) ?_
      have hD0 := hD
      refine z_call (va_runS (As := [.ref (gad x_6), .int v]) (rest := []) ⟨hx, hb, hml, hown, hts⟩ (c_X_changeLimit l hP (PX_g hX (i := x_6) (by omega)) hD v) (va_cwS 2 hts (tt_S tw_222 tw_220 tw_221 tw_30) rfl rfl rfl (by decide +kernel) ⟨Nat.le_of_ble_eq_true rfl, Nat.le_of_ble_eq_true rfl⟩) (zPc_S hKN) rfl rfl hl.1 rfl (lv_room (Nat.le_of_ble_eq_true rfl)) d_X_set_12 ⟨Nat.le_of_ble_eq_true rfl, Nat.le_of_ble_eq_true rfl⟩) hS (fun ws H locs hR hP hD hz9 hS => ?_)
      rcases hR with ⟨r1, r2⟩ | ⟨r1, r2⟩
      · exact z_zretR hx hb hr hlocks hP hD hS (by rw [set_eq6, bG, Bool.true_and]) (by rw [show mSet f 6 (nI x_6) v = w1 f 11 x_6 v by unfold mSet; rw [if_pos (by rw [set_eq6, bG, r1]; rfl), if_pos (by decide), hT]]; exact PX_wg hD0 hX (by omega) rfl r2) d_X_set_15
      · exact z_zretR hx hb hr hlocks hP hD hS (by rw [set_eq6, bG, Bool.true_and]) (by rw [r2, show mSet f 6 (nI x_6) v = f by unfold mSet; rw [if_neg (by rw [set_eq6, r1, Bool.and_false]; decide)]]; exact ⟨⟨h, hX⟩, zfrX_rf⟩) d_X_set_15
    · have bG : sWithin which 0 7 = false := by simpa using bG
      have hr_8 : gRef gad which = none := by rw [gRef, if_neg (by rw [bG]; decide)]
      refine z_callq (va_runV (As := [.int which]) (rest := []) ⟨hx, hb, hml, hown, hts⟩ (c_X_groupAt l hP hX which) (cwV 1 hts (tt_V tw_219 tw_216 tw_218 tw_4 tw_30) rfl rfl rfl (by decide +kernel) ⟨Nat.le_of_ble_eq_true rfl, Nat.le_of_ble_eq_true rfl⟩) (zPc_V hKN hP (ci := 3) (q := (R_X, F_X, 5)) rfl (PX_x hX)) rfl rfl hl.1 rfl (lv_room (Nat.le_of_ble_eq_true rfl)) d_X_set_8 ⟨Nat.zero_le _, Nat.zero_le _⟩) hS (fun locs hS => ?_)
      rw [hr_8]
      refine lv_iload_n hx hb d_X_set_11 rfl (zl hl rfl) ?_
      refine z_calli (va_runS (As := [.null, .int v]) (rest := []) ⟨hx, hb, hml, hown, hts⟩ (c_X_changeLimitN l hP v) (va_cwS 2 hts (tt_S tw_222 tw_220 tw_221 tw_30) rfl rfl rfl (by decide +kernel) ⟨Nat.le_of_ble_eq_true rfl, Nat.le_of_ble_eq_true rfl⟩) (zPc_S hKN) rfl rfl hl.1 rfl (lv_room (Nat.le_of_ble_eq_true rfl)) d_X_set_12 ⟨Nat.zero_le _, Nat.zero_le _⟩) hS (fun locs hS => ?_)
      exact z_zretR hx hb hr hlocks hP hD hS (by rw [set_eq6, bG]; rfl) (by rw [show mSet f 6 which v = f by unfold mSet; rw [if_neg (by rw [set_eq6, bG, Bool.false_and]; decide)]]; exact ⟨⟨h, hX⟩, zfrX_rf⟩) d_X_set_15
end
section
-- the wait that grows: the reference's loop, the class's shift
theorem dwl_eq {tp : Nat} (htp : tp < 2 ^ 30) : ∀ (r b : Nat), b * 2 ^ r < 2 ^ 30 → (b * 2 ^ r < tp → dwl (nI tp) r (nI b) = nI (b * 2 ^ r)) ∧ (tp ≤ b * 2 ^ r → ¬ dwl (nI tp) r (nI b) < nI tp)
  | 0, b, hb => by
    simp only [Nat.pow_zero, Nat.mul_one] at hb ⊢
    exact ⟨fun _ => rfl, fun h => nI_nlt h (by omega)⟩
  | r + 1, b, hb => by
    have h1 : b ≤ b * 2 ^ (r + 1) := Nat.le_mul_of_pos_right b (Nat.two_pow_pos _)
    have h2 : b * 2 ^ (r + 1) = (b * 2) * 2 ^ r := by rw [Nat.pow_succ, Nat.mul_assoc, Nat.mul_comm (2 ^ r) 2]
    have e2 : nI b * 2 = nI (b * 2) := by rw [show (2 : Int32) = nI 2 by decide, pk_mul]
    by_cases hlt : b < tp
    · have ih := dwl_eq htp r (b * 2) (by rw [← h2]; exact hb)
      have e : dwl (nI tp) (r + 1) (nI b) = dwl (nI tp) r (nI (b * 2)) := by
        show (if nI b < nI tp then dwl (nI tp) r (nI b * 2) else nI b) = _
        rw [if_pos (nI_lt hlt (by omega)), e2]
      rw [e, h2]
      exact ih
    · have e : dwl (nI tp) (r + 1) (nI b) = nI b := by
        show (if nI b < nI tp then dwl (nI tp) r (nI b * 2) else nI b) = _
        rw [if_neg (nI_nlt (by omega) (by omega))]
      rw [e]
      exact ⟨fun h => absurd h (by omega), fun _ => nI_nlt (by omega) (by omega)⟩
theorem sh_k : ∀ k, k < 32 → (((nI k) &&& 31 : Int32).toBitVec.smod 32).toNat = k := by decide +kernel
theorem pause_eq {b tp tr : Nat} (hb : b ≤ 100) (htp : tp ≤ 1000) (h1 : 1 ≤ tr) (h2 : tr ≤ 20) : sPause (nI b) (nI tp) (nI tr) = (if dwl (nI tp) (tr - 1) (nI b) < nI tp then dwl (nI tp) (tr - 1) (nI b) else nI tp) := by
  obtain ⟨k, rfl⟩ : ∃ k, tr = k + 1 := ⟨tr - 1, by omega⟩
  have hk : 2 ^ k ≤ 2 ^ 19 := Nat.pow_le_pow_right (by decide) (by omega)
  have hbk : b * 2 ^ k < 2 ^ 30 := by
    have : b * 2 ^ k ≤ 100 * 2 ^ 19 := Nat.mul_le_mul hb hk
    omega
  have e1 : nI b <<< ((nI (k + 1) - 1) &&& 31) = nI (b * 2 ^ k) := by
    rw [nI_pred]
    exact pk_shlN _ k (sh_k k (by omega)) (by omega)
  unfold sPause
  rw [e1, Nat.add_sub_cancel]
  obtain ⟨d1, d2⟩ := dwl_eq (tp := tp) (by omega) k b hbk
  by_cases h : b * 2 ^ k < tp
  · rw [d1 h, if_neg (nI_nlt (by omega) (by omega)), if_pos (nI_lt h (by omega))]
  · rw [if_neg (d2 (by omega))]
    by_cases h3 : tp < b * 2 ^ k
    · rw [if_pos (nI_lt h3 (by omega))]
    · rw [if_neg (nI_nlt (by omega) (by omega)), show b * 2 ^ k = tp by omega]
-- ticks one by one, and all at once
theorem mAgain_o {f : FF} {time : Int32} {t i : Nat} (h : i ≠ t) (c : Nat) : mAgain f time t c i = f c i := by
  unfold mAgain
  split
  · rw [w1_o h, w1_o h]
  · rw [w1_o h]
/-- what a task is behind a try at time tm, out of its own columns alone -/
theorem mAgain_congr {f g : FF} {tm : Int32} {t : Nat} (hc : ∀ c, f c t = g c t) (h10 : f 10 = g 10) (c : Nat) (hcn : c ≠ 10) : mAgain f tm t c t = mAgain g tm t c t := by
  have eq : qx f t = qx g t := by unfold qx; rw [hc 1]
  have ew : mWait f t = mWait g t := by unfold mWait; rw [eq, h10, hc 5]
  unfold mAgain
  rw [eq, ew, h10, hc 5]
  split
  · by_cases h7 : c = 7
    · rw [h7, w1_s, w1_s]
    · rw [w1_c h7, w1_c h7]
      by_cases h6 : c = 6
      · rw [h6, w1_s, w1_s]
      · rw [w1_c h6, w1_c h6]
        exact hc c
  · by_cases h6 : c = 6
    · rw [h6, w1_s, w1_s]
    · rw [w1_c h6, w1_c h6]
      exact hc c
theorem inn_10 {f : FF} {T : Int32} : ∀ k, inn f T k 10 = f 10
  | 0 => rfl
  | k + 1 => by
    show aStep _ _ _ 10 = _
    unfold aStep
    split
    · rw [mAgain_j 10 (by decide) (by decide)]
      exact inn_10 k
    · exact inn_10 k
theorem inn_at {f : FF} {T : Int32} : ∀ (k i c : Nat), c ≠ 10 → inn f T k c i = if i < k ∧ aC f T i = true then mAgain f T i c i else f c i
  | 0, i, c, hc => by
    rw [if_neg (by omega)]
    rfl
  | k + 1, i, c, hc => by
    have ihk : ∀ c, c ≠ 10 → inn f T k c k = f c k := fun c hc => by rw [inn_at k k c hc, if_neg (by omega)]
    have hall : ∀ c, inn f T k c k = f c k := fun c => by
      by_cases h : c = 10
      · rw [h, inn_10]
      · exact ihk c h
    have hac : aC (inn f T k) T k = aC f T k := by unfold aC; rw [hall 6, hall 7]
    by_cases hi : i = k
    · subst hi
      by_cases ha : aC f T i = true
      · rw [inn_t (by rw [hac]; exact ha), if_pos ⟨by omega, ha⟩]
        exact mAgain_congr hall (inn_10 i) c hc
      · have hf : aC (inn f T i) T i = false := by rw [hac]; simpa using ha
        rw [inn_f hf, if_neg (fun z => ha z.2)]
        exact hall c
    · have h1 : inn f T (k + 1) c i = inn f T k c i := by
        show aStep _ _ _ c i = _
        unfold aStep
        split
        · exact mAgain_o hi c
        · rfl
      rw [h1, inn_at k i c hc]
      by_cases ha : aC f T i = true
      · by_cases hk : i < k
        · rw [if_pos ⟨hk, ha⟩, if_pos ⟨by omega, ha⟩]
        · rw [if_neg (fun z => hk z.1), if_neg (fun z => hk (by omega))]
      · rw [if_neg (fun z => ha z.2), if_neg (fun z => ha z.2)]
theorem innC_eq {f : FF} {T : Int32} : ∀ k, innC f T k = cnt (aC f T) k
  | 0 => rfl
  | k + 1 => by
    have hac : aC (inn f T k) T k = aC f T k := by
      unfold aC
      rw [inn_at k k 6 (by decide), if_neg (by omega), inn_at k k 7 (by decide), if_neg (by omega)]
    show innC f T k + _ = cnt (aC f T) k + _
    rw [innC_eq k, hac]
theorem mAgain_st {f : FF} {tm : Int32} {t : Nat} : ¬ mAgain f tm t 6 t = 1 := by
  rw [mAgain_6, if_pos rfl]
  split <;> decide
theorem nI_tm {tm a b : Nat} (h : tm + a < 2 ^ 31) : nI tm + nI a = nI (tm + a) := nI_add tm a
/-- a task that is lent runs out at a time that is still to come -/
def okE (f : FF) (tm n : Nat) : Prop := ∀ k, k < n → f 6 k = 1 → ∃ e : Nat, f 7 k = nI e ∧ tm < e ∧ e ≤ tm + 200
theorem outF_10 {f : FF} {T : Int32} {n : Nat} : ∀ j, outF f T n j 10 = f 10
  | 0 => rfl
  | j + 1 => by
    show inn _ _ _ 10 = _
    rw [inn_10]
    exact outF_10 j
theorem outF_at {f : FF} {tm n : Nat} (hE : okE f tm n) (htm : tm < 2 ^ 29) : ∀ (j : Nat), j ≤ 1000 → ∀ (k c : Nat), k < n → c ≠ 10 → outF f (nI tm) n j c k = if aC f (nI (tm + j)) k = true then mAgain f (f 7 k) k c k else f c k
  | 0, _, k, c, hk, hc => by
    have ha : aC f (nI (tm + 0)) k = false := by
      unfold aC
      by_cases h6 : f 6 k = 1
      · obtain ⟨e, h7, h1, h2⟩ := hE k hk h6
        rw [h7]
        have : ¬ nI e ≤ nI (tm + 0) := fun z => by have := (nI_leI (by omega) (by omega)).mp z; omega
        rw [decide_eq_false this, Bool.and_false]
      · simp [h6]
    rw [if_neg (by rw [ha]; decide)]
    rfl
  | j + 1, hj, k, c, hk, hc => by
    have ih := outF_at hE htm j (by omega)
    have hT : nI tm + nI (j + 1) = nI (tm + (j + 1)) := nI_add _ _
    show inn (outF f (nI tm) n j) (nI tm + nI (j + 1)) n c k = _
    rw [hT, inn_at n k c hc]
    by_cases h6 : f 6 k = 1
    · obtain ⟨e, h7, h1, h2⟩ := hE k hk h6
      have a1 : aC f (nI (tm + j)) k = decide (e ≤ tm + j) := by
        unfold aC
        rw [h6, h7, Bool.eq_iff_iff]
        simp [nI_leI (a := e) (b := tm + j) (by omega) (by omega)]
      have a2 : aC f (nI (tm + (j + 1))) k = decide (e ≤ tm + (j + 1)) := by
        unfold aC
        rw [h6, h7, Bool.eq_iff_iff]
        simp [nI_leI (a := e) (b := tm + (j + 1)) (by omega) (by omega)]
      by_cases hle : e ≤ tm + j
      · have hb : ¬ aC (outF f (nI tm) n j) (nI (tm + (j + 1))) k = true := by
          unfold aC
          rw [ih k 6 hk (by decide), if_pos (by rw [a1]; simp [hle])]
          simp [mAgain_st]
        rw [if_neg (fun z => hb z.2), ih k c hk hc, if_pos (by rw [a1]; simp [hle]), if_pos (by rw [a2]; simp; omega)]
      · have hall : ∀ c, outF f (nI tm) n j c k = f c k := fun c => by
          by_cases h : c = 10
          · rw [h, outF_10]
          · rw [ih k c hk h, if_neg (by rw [a1]; simp [hle])]
        have hac : aC (outF f (nI tm) n j) (nI (tm + (j + 1))) k = aC f (nI (tm + (j + 1))) k := by unfold aC; rw [hall 6, hall 7]
        rw [hac, a2]
        by_cases h3 : e ≤ tm + (j + 1)
        · have he : e = tm + (j + 1) := by omega
          rw [if_pos ⟨hk, by simp [h3]⟩, if_pos (by simp [h3]), h7, ← he]
          exact mAgain_congr hall (outF_10 j) c hc
        · rw [if_neg (fun z => h3 (by simpa using z.2)), if_neg (by simp [h3])]
          exact hall c
    · have hn : ∀ T, aC f T k = false := fun T => by unfold aC; simp [h6]
      have hall : outF f (nI tm) n j 6 k = f 6 k := by rw [ih k 6 hk (by decide), if_neg (by rw [hn]; decide)]
      have hac : aC (outF f (nI tm) n j) (nI (tm + (j + 1))) k = false := by unfold aC; rw [hall]; simp [h6]
      rw [if_neg (fun z => by rw [hac] at z; cases z.2), if_neg (by rw [hn]; decide), ih k c hk hc, if_neg (by rw [hn]; decide)]
theorem cnt_add {P Q R : Nat → Bool} : ∀ n, (∀ k, k < n → (if R k = true then 1 else 0) = (if P k = true then 1 else 0) + (if Q k = true then (1 : Nat) else 0)) → cnt R n = cnt P n + cnt Q n
  | 0, _ => rfl
  | n + 1, h => by
    show cnt R n + _ = (cnt P n + _) + (cnt Q n + _)
    rw [cnt_add n (fun k hk => h k (by omega)), h n (by omega)]
    omega
theorem outC_eq {f : FF} {tm n : Nat} (hE : okE f tm n) (htm : tm < 2 ^ 29) : ∀ (j : Nat), j ≤ 1000 → outC f (nI tm) n j = cnt (aC f (nI (tm + j))) n
  | 0, _ => by
    have : ∀ k, k < n → aC f (nI (tm + 0)) k = false := fun k hk => by
      unfold aC
      by_cases h6 : f 6 k = 1
      · obtain ⟨e, h7, h1, h2⟩ := hE k hk h6
        rw [h7]
        have : ¬ nI e ≤ nI (tm + 0) := fun z => by have := (nI_leI (by omega) (by omega)).mp z; omega
        rw [decide_eq_false this, Bool.and_false]
      · simp [h6]
    rw [cnt_congr n this]
    show 0 = _
    clear this hE
    induction n with
    | zero => rfl
    | succ n ih => show 0 = cnt _ n + _; rw [← ih]; rfl
  | j + 1, hj => by
    have ih := outC_eq hE htm j (by omega)
    have hT : nI tm + nI (j + 1) = nI (tm + (j + 1)) := nI_add _ _
    show outC f (nI tm) n j + innC (outF f (nI tm) n j) (nI tm + nI (j + 1)) n = _
    rw [ih, innC_eq, hT]
    refine (cnt_add n (fun k hk => ?_)).symm
    have oa := outF_at hE htm j (by omega) k
    by_cases h6 : f 6 k = 1
    · obtain ⟨e, h7, h1, h2⟩ := hE k hk h6
      have a1 : aC f (nI (tm + j)) k = decide (e ≤ tm + j) := by
        unfold aC
        rw [h6, h7, Bool.eq_iff_iff]
        simp [nI_leI (a := e) (b := tm + j) (by omega) (by omega)]
      have a2 : aC f (nI (tm + (j + 1))) k = decide (e ≤ tm + (j + 1)) := by
        unfold aC
        rw [h6, h7, Bool.eq_iff_iff]
        simp [nI_leI (a := e) (b := tm + (j + 1)) (by omega) (by omega)]
      by_cases hle : e ≤ tm + j
      · have hb : aC (outF f (nI tm) n j) (nI (tm + (j + 1))) k = false := by
          unfold aC
          rw [oa 6 hk (by decide), if_pos (by rw [a1]; simp [hle])]
          simp [mAgain_st]
        rw [a1, a2, hb]
        simp [hle, show e ≤ tm + (j + 1) by omega]
      · have hb : aC (outF f (nI tm) n j) (nI (tm + (j + 1))) k = decide (e ≤ tm + (j + 1)) := by
          rw [← a2]
          unfold aC
          rw [oa 6 hk (by decide), if_neg (by rw [a1]; simp [hle]), oa 7 hk (by decide), if_neg (by rw [a1]; simp [hle])]
        rw [a1, a2, hb]
        simp [hle]
    · have hn : ∀ T, aC f T k = false := fun T => by unfold aC; simp [h6]
      have hb : aC (outF f (nI tm) n j) (nI (tm + (j + 1))) k = false := by
        unfold aC
        rw [oa 6 hk (by decide), if_neg (by rw [hn]; decide)]
        simp [h6]
      rw [hn, hn, hb]
      simp
end
