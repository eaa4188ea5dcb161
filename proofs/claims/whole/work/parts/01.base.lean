-- ===== PART A: goes FIRST, ahead of the names: the tables' words, and 'selects' of the private methods out of them =====
/-- a private method of a class that the tables say can be made, by its rows of tables_1 -/
def lw_okq (q : MethodName × Nat) : Prop := (q.1.cls ≠ "java/lang/invoke/MethodHandle" ∧ q.1.cls ≠ "java/lang/invoke/VarHandle") ∧ Cond.instantiable q.1.cls q.2 ∈ tables_1 ∧ Cond.privateMethod q.1 ∈ tables_1 ∧ Cond.instanceMethod q.1 ∈ tables_1
theorem lw_p0 : lw_okq (⟨"StateExplore$Explorer", "begin", "()V"⟩, 11) := ⟨⟨by decide +kernel, by decide +kernel⟩, List.mem_of_getElem? (i := 132) (by decide +kernel), List.mem_of_getElem? (i := 244) (by decide +kernel), List.mem_of_getElem? (i := 245) (by decide +kernel)⟩
theorem lw_p1 : lw_okq (⟨"StateExplore$Draft", "statesBy", "(I)J"⟩, 8) := ⟨⟨by decide +kernel, by decide +kernel⟩, List.mem_of_getElem? (i := 138) (by decide +kernel), List.mem_of_getElem? (i := 268) (by decide +kernel), List.mem_of_getElem? (i := 269) (by decide +kernel)⟩
theorem lw_p2 : lw_okq (⟨"StateExplore$Draft", "codesBy", "(I)J"⟩, 8) := ⟨⟨by decide +kernel, by decide +kernel⟩, List.mem_of_getElem? (i := 138) (by decide +kernel), List.mem_of_getElem? (i := 272) (by decide +kernel), List.mem_of_getElem? (i := 273) (by decide +kernel)⟩
theorem lw_p3 : lw_okq (⟨"StateExplore$Explorer", "take", "(III)V"⟩, 11) := ⟨⟨by decide +kernel, by decide +kernel⟩, List.mem_of_getElem? (i := 132) (by decide +kernel), List.mem_of_getElem? (i := 281) (by decide +kernel), List.mem_of_getElem? (i := 282) (by decide +kernel)⟩
theorem lw_p4 : lw_okq (⟨"StateExplore$Explorer", "goThrough", "(I)V"⟩, 11) := ⟨⟨by decide +kernel, by decide +kernel⟩, List.mem_of_getElem? (i := 132) (by decide +kernel), List.mem_of_getElem? (i := 301) (by decide +kernel), List.mem_of_getElem? (i := 302) (by decide +kernel)⟩
theorem lw_p5 : lw_okq (⟨"StateExplore$Explorer", "tryRule", "(II)V"⟩, 11) := ⟨⟨by decide +kernel, by decide +kernel⟩, List.mem_of_getElem? (i := 132) (by decide +kernel), List.mem_of_getElem? (i := 305) (by decide +kernel), List.mem_of_getElem? (i := 306) (by decide +kernel)⟩
theorem lw_p6 : lw_okq (⟨"StateExplore$Explorer", "makeStep", "(III)V"⟩, 11) := ⟨⟨by decide +kernel, by decide +kernel⟩, List.mem_of_getElem? (i := 132) (by decide +kernel), List.mem_of_getElem? (i := 309) (by decide +kernel), List.mem_of_getElem? (i := 310) (by decide +kernel)⟩
theorem lw_p7 : lw_okq (⟨"StateExplore$Explorer", "send", "(III)V"⟩, 11) := ⟨⟨by decide +kernel, by decide +kernel⟩, List.mem_of_getElem? (i := 132) (by decide +kernel), List.mem_of_getElem? (i := 324) (by decide +kernel), List.mem_of_getElem? (i := 325) (by decide +kernel)⟩
theorem lw_p8 : lw_okq (⟨"java/lang/Throwable", "fillInStackTrace", "(I)Ljava/lang/Throwable;"⟩, 6) := ⟨⟨by decide +kernel, by decide +kernel⟩, List.mem_of_getElem? (i := 401) (by decide +kernel), List.mem_of_getElem? (i := 399) (by decide +kernel), List.mem_of_getElem? (i := 400) (by decide +kernel)⟩
theorem lw_p9 : lw_okq (⟨"StateExploreModel", "throwing", "(ZZ)Z"⟩, 34) := ⟨⟨by decide +kernel, by decide +kernel⟩, List.mem_of_getElem? (i := 579) (by decide +kernel), List.mem_of_getElem? (i := 698) (by decide +kernel), List.mem_of_getElem? (i := 699) (by decide +kernel)⟩
theorem lw_p10 : lw_okq (⟨"StateExploreModel", "forget", "()V"⟩, 34) := ⟨⟨by decide +kernel, by decide +kernel⟩, List.mem_of_getElem? (i := 579) (by decide +kernel), List.mem_of_getElem? (i := 702) (by decide +kernel), List.mem_of_getElem? (i := 703) (by decide +kernel)⟩
theorem lw_p11 : lw_okq (⟨"StateExploreModel", "begin", "()V"⟩, 34) := ⟨⟨by decide +kernel, by decide +kernel⟩, List.mem_of_getElem? (i := 579) (by decide +kernel), List.mem_of_getElem? (i := 729) (by decide +kernel), List.mem_of_getElem? (i := 730) (by decide +kernel)⟩
theorem lw_p12 : lw_okq (⟨"StateExploreModel", "form", "()V"⟩, 34) := ⟨⟨by decide +kernel, by decide +kernel⟩, List.mem_of_getElem? (i := 579) (by decide +kernel), List.mem_of_getElem? (i := 733) (by decide +kernel), List.mem_of_getElem? (i := 734) (by decide +kernel)⟩
theorem lw_p13 : lw_okq (⟨"StateExploreModel", "number", "(I)V"⟩, 34) := ⟨⟨by decide +kernel, by decide +kernel⟩, List.mem_of_getElem? (i := 579) (by decide +kernel), List.mem_of_getElem? (i := 737) (by decide +kernel), List.mem_of_getElem? (i := 738) (by decide +kernel)⟩
theorem lw_p14 : lw_okq (⟨"StateExploreModel", "add", "([II)V"⟩, 34) := ⟨⟨by decide +kernel, by decide +kernel⟩, List.mem_of_getElem? (i := 579) (by decide +kernel), List.mem_of_getElem? (i := 741) (by decide +kernel), List.mem_of_getElem? (i := 742) (by decide +kernel)⟩
theorem lw_p15 : lw_okq (⟨"StateExploreModel", "come", "(II)V"⟩, 34) := ⟨⟨by decide +kernel, by decide +kernel⟩, List.mem_of_getElem? (i := 579) (by decide +kernel), List.mem_of_getElem? (i := 748) (by decide +kernel), List.mem_of_getElem? (i := 749) (by decide +kernel)⟩
def lw_privs_1 : List (MethodName × Nat) := [(⟨"StateExplore$Explorer", "begin", "()V"⟩, 11), (⟨"StateExplore$Draft", "statesBy", "(I)J"⟩, 8), (⟨"StateExplore$Draft", "codesBy", "(I)J"⟩, 8), (⟨"StateExplore$Explorer", "take", "(III)V"⟩, 11), (⟨"StateExplore$Explorer", "goThrough", "(I)V"⟩, 11), (⟨"StateExplore$Explorer", "tryRule", "(II)V"⟩, 11), (⟨"StateExplore$Explorer", "makeStep", "(III)V"⟩, 11), (⟨"StateExplore$Explorer", "send", "(III)V"⟩, 11), (⟨"java/lang/Throwable", "fillInStackTrace", "(I)Ljava/lang/Throwable;"⟩, 6), (⟨"StateExploreModel", "throwing", "(ZZ)Z"⟩, 34), (⟨"StateExploreModel", "forget", "()V"⟩, 34), (⟨"StateExploreModel", "begin", "()V"⟩, 34), (⟨"StateExploreModel", "form", "()V"⟩, 34), (⟨"StateExploreModel", "number", "(I)V"⟩, 34), (⟨"StateExploreModel", "add", "([II)V"⟩, 34), (⟨"StateExploreModel", "come", "(II)V"⟩, 34)]
theorem lw_r1 : ∀ q ∈ lw_privs_1, lw_okq q := List.forall_mem_cons.mpr ⟨lw_p0, List.forall_mem_cons.mpr ⟨lw_p1, List.forall_mem_cons.mpr ⟨lw_p2, List.forall_mem_cons.mpr ⟨lw_p3, List.forall_mem_cons.mpr ⟨lw_p4, List.forall_mem_cons.mpr ⟨lw_p5, List.forall_mem_cons.mpr ⟨lw_p6, List.forall_mem_cons.mpr ⟨lw_p7, List.forall_mem_cons.mpr ⟨lw_p8, List.forall_mem_cons.mpr ⟨lw_p9, List.forall_mem_cons.mpr ⟨lw_p10, List.forall_mem_cons.mpr ⟨lw_p11, List.forall_mem_cons.mpr ⟨lw_p12, List.forall_mem_cons.mpr ⟨lw_p13, List.forall_mem_cons.mpr ⟨lw_p14, List.forall_mem_cons.mpr ⟨lw_p15, fun _ h => absurd h List.not_mem_nil⟩⟩⟩⟩⟩⟩⟩⟩⟩⟩⟩⟩⟩⟩⟩⟩
theorem lw_p16 : lw_okq (⟨"StateExploreModel", "isBad", "()Z"⟩, 34) := ⟨⟨by decide +kernel, by decide +kernel⟩, List.mem_of_getElem? (i := 579) (by decide +kernel), List.mem_of_getElem? (i := 752) (by decide +kernel), List.mem_of_getElem? (i := 753) (by decide +kernel)⟩
theorem lw_p17 : lw_okq (⟨"StateExploreModel", "goThrough", "()V"⟩, 34) := ⟨⟨by decide +kernel, by decide +kernel⟩, List.mem_of_getElem? (i := 579) (by decide +kernel), List.mem_of_getElem? (i := 756) (by decide +kernel), List.mem_of_getElem? (i := 757) (by decide +kernel)⟩
theorem lw_p18 : lw_okq (⟨"StateExploreModel", "allSteps", "(III)I"⟩, 34) := ⟨⟨by decide +kernel, by decide +kernel⟩, List.mem_of_getElem? (i := 579) (by decide +kernel), List.mem_of_getElem? (i := 760) (by decide +kernel), List.mem_of_getElem? (i := 761) (by decide +kernel)⟩
theorem lw_p19 : lw_okq (⟨"StateExploreModel", "make", "(IIII)Z"⟩, 34) := ⟨⟨by decide +kernel, by decide +kernel⟩, List.mem_of_getElem? (i := 579) (by decide +kernel), List.mem_of_getElem? (i := 764) (by decide +kernel), List.mem_of_getElem? (i := 765) (by decide +kernel)⟩
theorem lw_p20 : lw_okq (⟨"StateExploreModel", "step", "(II)Z"⟩, 34) := ⟨⟨by decide +kernel, by decide +kernel⟩, List.mem_of_getElem? (i := 579) (by decide +kernel), List.mem_of_getElem? (i := 768) (by decide +kernel), List.mem_of_getElem? (i := 769) (by decide +kernel)⟩
theorem lw_p21 : lw_okq (⟨"StateExploreModel", "isThere", "()Z"⟩, 34) := ⟨⟨by decide +kernel, by decide +kernel⟩, List.mem_of_getElem? (i := 579) (by decide +kernel), List.mem_of_getElem? (i := 772) (by decide +kernel), List.mem_of_getElem? (i := 773) (by decide +kernel)⟩
theorem lw_p22 : lw_okq (⟨"StateExploreModel", "compareRow", "(I)I"⟩, 34) := ⟨⟨by decide +kernel, by decide +kernel⟩, List.mem_of_getElem? (i := 579) (by decide +kernel), List.mem_of_getElem? (i := 776) (by decide +kernel), List.mem_of_getElem? (i := 777) (by decide +kernel)⟩
theorem lw_p23 : lw_okq (⟨"StateExploreModel", "greatestLevel", "()I"⟩, 34) := ⟨⟨by decide +kernel, by decide +kernel⟩, List.mem_of_getElem? (i := 579) (by decide +kernel), List.mem_of_getElem? (i := 808) (by decide +kernel), List.mem_of_getElem? (i := 809) (by decide +kernel)⟩
theorem lw_p24 : lw_okq (⟨"StateExploreModel", "sums", "()I"⟩, 34) := ⟨⟨by decide +kernel, by decide +kernel⟩, List.mem_of_getElem? (i := 579) (by decide +kernel), List.mem_of_getElem? (i := 812) (by decide +kernel), List.mem_of_getElem? (i := 813) (by decide +kernel)⟩
def lw_privs_2 : List (MethodName × Nat) := [(⟨"StateExploreModel", "isBad", "()Z"⟩, 34), (⟨"StateExploreModel", "goThrough", "()V"⟩, 34), (⟨"StateExploreModel", "allSteps", "(III)I"⟩, 34), (⟨"StateExploreModel", "make", "(IIII)Z"⟩, 34), (⟨"StateExploreModel", "step", "(II)Z"⟩, 34), (⟨"StateExploreModel", "isThere", "()Z"⟩, 34), (⟨"StateExploreModel", "compareRow", "(I)I"⟩, 34), (⟨"StateExploreModel", "greatestLevel", "()I"⟩, 34), (⟨"StateExploreModel", "sums", "()I"⟩, 34)]
theorem lw_r2 : ∀ q ∈ lw_privs_2, lw_okq q := List.forall_mem_cons.mpr ⟨lw_p16, List.forall_mem_cons.mpr ⟨lw_p17, List.forall_mem_cons.mpr ⟨lw_p18, List.forall_mem_cons.mpr ⟨lw_p19, List.forall_mem_cons.mpr ⟨lw_p20, List.forall_mem_cons.mpr ⟨lw_p21, List.forall_mem_cons.mpr ⟨lw_p22, List.forall_mem_cons.mpr ⟨lw_p23, List.forall_mem_cons.mpr ⟨lw_p24, fun _ h => absurd h List.not_mem_nil⟩⟩⟩⟩⟩⟩⟩⟩⟩
def lw_privs : List (MethodName × Nat) := lw_privs_1 ++ (lw_privs_2)
def lw_tbl : List Cond := k2_sels lw_privs ++ tables_1
theorem lw_privs_ok : ∀ q ∈ lw_privs, lw_okq q := by
  show ∀ q ∈ lw_privs_1 ++ (lw_privs_2), lw_okq q
  exact List.forall_mem_append.mpr ⟨lw_r1, lw_r2⟩

/-! ===== names: classes, fields, methods ===== -/
def R_SE : String := "StateExplore"
def R_Mo : String := "StateExplore$Model"
def R_Dr : String := "StateExplore$Draft"
def R_St : String := "StateExplore$Store"
def R_Ex : String := "StateExplore$Explorer"
def R_RM : String := "StateExploreModel"
def R_La : String := "StateExploreLaw"
def R_Ma : String := "java/lang/Math"
def R_Ar : String := "java/util/Arrays"
def R_Ob : String := "java/lang/Object"
def F_SE : u_T := fun k => match k with
  | 0 => ("StateExplore", "model", "LStateExplore$Model;", true)
  | 1 => ("StateExplore", "store", "LStateExplore$Store;", true)
  | _ => ("StateExplore", "explorer", "LStateExplore$Explorer;", true)
def t_SE : Nat → FieldType := fun k => match k with
  | 0 => .object "StateExplore$Model"
  | 1 => .object "StateExplore$Store"
  | _ => .object "StateExplore$Explorer"
theorem n_SE : ∀ a, a < 3 → ∀ b, b < 3 → a ≠ b → (F_SE a).2.1 ≠ (F_SE b).2.1 := by decide +kernel
theorem t_SE_ok : ∀ k, k < 3 → parseFieldDescriptor (F_SE k).2.2.1 = some (t_SE k) := by decide +kernel
def F_Mo : u_T := fun k => match k with
  | 0 => ("StateExplore$Model", "nodes", "I", true)
  | 1 => ("StateExplore$Model", "states", "I", false)
  | 2 => ("StateExplore$Model", "kinds", "I", false)
  | 3 => ("StateExplore$Model", "rules", "I", false)
  | 4 => ("StateExplore$Model", "starts", "[I", true)
  | 5 => ("StateExplore$Model", "events", "[I", true)
  | 6 => ("StateExplore$Model", "targets", "[I", true)
  | 7 => ("StateExplore$Model", "sends", "[I", true)
  | 8 => ("StateExplore$Model", "sentKinds", "[I", true)
  | 9 => ("StateExplore$Model", "sentWhom", "[I", true)
  | 10 => ("StateExplore$Model", "growths", "[I", true)
  | _ => ("StateExplore$Model", "badPairs", "J", false)
def t_Mo : Nat → FieldType := fun k => match k with
  | 0 => .int
  | 1 => .int
  | 2 => .int
  | 3 => .int
  | 4 => .array .int
  | 5 => .array .int
  | 6 => .array .int
  | 7 => .array .int
  | 8 => .array .int
  | 9 => .array .int
  | 10 => .array .int
  | _ => .long
theorem n_Mo : ∀ a, a < 12 → ∀ b, b < 12 → a ≠ b → (F_Mo a).2.1 ≠ (F_Mo b).2.1 := by decide +kernel
theorem t_Mo_ok : ∀ k, k < 12 → parseFieldDescriptor (F_Mo k).2.2.1 = some (t_Mo k) := by decide +kernel
def F_St : u_T := fun k => match k with
  | 0 => ("StateExplore$Store", "size", "I", false)
  | 1 => ("StateExplore$Store", "forms", "[J", true)
  | 2 => ("StateExplore$Store", "levels", "[I", true)
  | 3 => ("StateExplore$Store", "origins", "[I", true)
  | 4 => ("StateExplore$Store", "rules", "[I", true)
  | 5 => ("StateExplore$Store", "steps", "[I", true)
  | 6 => ("StateExplore$Store", "symmetries", "[I", true)
  | _ => ("StateExplore$Store", "slots", "[I", true)
def t_St : Nat → FieldType := fun k => match k with
  | 0 => .int
  | 1 => .array .long
  | 2 => .array .int
  | 3 => .array .int
  | 4 => .array .int
  | 5 => .array .int
  | 6 => .array .int
  | _ => .array .int
theorem n_St : ∀ a, a < 8 → ∀ b, b < 8 → a ≠ b → (F_St a).2.1 ≠ (F_St b).2.1 := by decide +kernel
theorem t_St_ok : ∀ k, k < 8 → parseFieldDescriptor (F_St k).2.2.1 = some (t_St k) := by decide +kernel
def F_Ex : u_T := fun k => match k with
  | 0 => ("StateExplore$Explorer", "model", "LStateExplore$Model;", true)
  | 1 => ("StateExplore$Explorer", "store", "LStateExplore$Store;", true)
  | 2 => ("StateExplore$Explorer", "ending", "I", false)
  | 3 => ("StateExplore$Explorer", "gone", "I", false)
  | 4 => ("StateExplore$Explorer", "steps", "I", false)
  | 5 => ("StateExplore$Explorer", "stepsBack", "I", false)
  | 6 => ("StateExplore$Explorer", "stuck", "I", false)
  | 7 => ("StateExplore$Explorer", "stoodFor", "I", false)
  | 8 => ("StateExplore$Explorer", "stepsHere", "I", false)
  | 9 => ("StateExplore$Explorer", "source", "LStateExplore$Draft;", true)
  | _ => ("StateExplore$Explorer", "result", "LStateExplore$Draft;", true)
def t_Ex : Nat → FieldType := fun k => match k with
  | 0 => .object "StateExplore$Model"
  | 1 => .object "StateExplore$Store"
  | 2 => .int
  | 3 => .int
  | 4 => .int
  | 5 => .int
  | 6 => .int
  | 7 => .int
  | 8 => .int
  | 9 => .object "StateExplore$Draft"
  | _ => .object "StateExplore$Draft"
theorem n_Ex : ∀ a, a < 11 → ∀ b, b < 11 → a ≠ b → (F_Ex a).2.1 ≠ (F_Ex b).2.1 := by decide +kernel
theorem t_Ex_ok : ∀ k, k < 11 → parseFieldDescriptor (F_Ex k).2.2.1 = some (t_Ex k) := by decide +kernel
def F_Dr : u_T := fun k => match k with
  | 0 => ("StateExplore$Draft", "nodes", "I", true)
  | 1 => ("StateExplore$Draft", "numberings", "I", true)
  | 2 => ("StateExplore$Draft", "states", "[I", true)
  | 3 => ("StateExplore$Draft", "codes", "[I", true)
  | 4 => ("StateExplore$Draft", "size", "I", false)
  | 5 => ("StateExplore$Draft", "form", "J", false)
  | 6 => ("StateExplore$Draft", "symmetries", "I", false)
  | _ => ("StateExplore$Draft", "sorted", "[I", true)
def t_Dr : Nat → FieldType := fun k => match k with
  | 0 => .int
  | 1 => .int
  | 2 => .array .int
  | 3 => .array .int
  | 4 => .int
  | 5 => .long
  | 6 => .int
  | _ => .array .int
theorem n_Dr : ∀ a, a < 8 → ∀ b, b < 8 → a ≠ b → (F_Dr a).2.1 ≠ (F_Dr b).2.1 := by decide +kernel
theorem t_Dr_ok : ∀ k, k < 8 → parseFieldDescriptor (F_Dr k).2.2.1 = some (t_Dr k) := by decide +kernel
def F_RM : u_T := fun k => match k with
  | 0 => ("StateExploreModel", "thrown", "I", false)
  | 1 => ("StateExploreModel", "nodes", "I", true)
  | 2 => ("StateExploreModel", "room", "I", true)
  | 3 => ("StateExploreModel", "states", "I", false)
  | 4 => ("StateExploreModel", "kinds", "I", false)
  | 5 => ("StateExploreModel", "rules", "I", false)
  | 6 => ("StateExploreModel", "from", "[I", true)
  | 7 => ("StateExploreModel", "event", "[I", true)
  | 8 => ("StateExploreModel", "to", "[I", true)
  | 9 => ("StateExploreModel", "sentMany", "[I", true)
  | 10 => ("StateExploreModel", "sentKind", "[I", true)
  | 11 => ("StateExploreModel", "sentWhom", "[I", true)
  | 12 => ("StateExploreModel", "bad", "[Z", true)
  | 13 => ("StateExploreModel", "numbering", "[I", true)
  | 14 => ("StateExploreModel", "numberings", "I", false)
  | 15 => ("StateExploreModel", "wholes", "I", false)
  | 16 => ("StateExploreModel", "gone", "I", false)
  | 17 => ("StateExploreModel", "steps", "I", false)
  | 18 => ("StateExploreModel", "old", "I", false)
  | 19 => ("StateExploreModel", "stuck", "I", false)
  | 20 => ("StateExploreModel", "answer", "I", false)
  | 21 => ("StateExploreModel", "badWhole", "I", false)
  | 22 => ("StateExploreModel", "rows", "[I", true)
  | 23 => ("StateExploreModel", "order", "[I", true)
  | 24 => ("StateExploreModel", "level", "[I", true)
  | 25 => ("StateExploreModel", "parent", "[I", true)
  | 26 => ("StateExploreModel", "byRule", "[I", true)
  | 27 => ("StateExploreModel", "stepsOf", "[I", true)
  | 28 => ("StateExploreModel", "alike", "[I", true)
  | 29 => ("StateExploreModel", "next", "[I", true)
  | 30 => ("StateExploreModel", "other", "[I", true)
  | 31 => ("StateExploreModel", "least", "[I", true)
  | 32 => ("StateExploreModel", "same", "I", false)
  | _ => ("StateExploreModel", "at", "I", false)
def t_RM : Nat → FieldType := fun k => match k with
  | 0 => .int
  | 1 => .int
  | 2 => .int
  | 3 => .int
  | 4 => .int
  | 5 => .int
  | 6 => .array .int
  | 7 => .array .int
  | 8 => .array .int
  | 9 => .array .int
  | 10 => .array .int
  | 11 => .array .int
  | 12 => .array .boolean
  | 13 => .array .int
  | 14 => .int
  | 15 => .int
  | 16 => .int
  | 17 => .int
  | 18 => .int
  | 19 => .int
  | 20 => .int
  | 21 => .int
  | 22 => .array .int
  | 23 => .array .int
  | 24 => .array .int
  | 25 => .array .int
  | 26 => .array .int
  | 27 => .array .int
  | 28 => .array .int
  | 29 => .array .int
  | 30 => .array .int
  | 31 => .array .int
  | 32 => .int
  | _ => .int
theorem n_RM : ∀ a, a < 34 → ∀ b, b < 34 → a ≠ b → (F_RM a).2.1 ≠ (F_RM b).2.1 := by decide +kernel
theorem t_RM_ok : ∀ k, k < 34 → parseFieldDescriptor (F_RM k).2.2.1 = some (t_RM k) := by decide +kernel
abbrev classes : List vw_C := [(R_SE, F_SE, 3), (R_Mo, F_Mo, 12), (R_St, F_St, 8), (R_Ex, F_Ex, 11), (R_Dr, F_Dr, 8), (R_RM, F_RM, 34)]
abbrev b_SE_init : ByteArray := prog_1_method_1_code
def y_SE_init : MethodName := ⟨R_SE, "<init>", "(II)V"⟩
abbrev b_SE_state : ByteArray := prog_1_method_2_code
def y_SE_state : MethodName := ⟨R_SE, "state", "()I"⟩
abbrev b_SE_message : ByteArray := prog_1_method_3_code
def y_SE_message : MethodName := ⟨R_SE, "message", "()I"⟩
abbrev b_SE_rule : ByteArray := prog_1_method_4_code
def y_SE_rule : MethodName := ⟨R_SE, "rule", "(III)I"⟩
abbrev b_SE_sends : ByteArray := prog_1_method_5_code
def y_SE_sends : MethodName := ⟨R_SE, "sends", "(III)I"⟩
abbrev b_SE_bad : ByteArray := prog_1_method_6_code
def y_SE_bad : MethodName := ⟨R_SE, "bad", "(II)Z"⟩
abbrev b_SE_run : ByteArray := prog_1_method_7_code
def y_SE_run : MethodName := ⟨R_SE, "run", "()I"⟩
abbrev b_SE_go : ByteArray := prog_1_method_8_code
def y_SE_go : MethodName := ⟨R_SE, "go", "(I)I"⟩
abbrev b_SE_node : ByteArray := prog_1_method_9_code
def y_SE_node : MethodName := ⟨R_SE, "node", "(II)I"⟩
abbrev b_SE_code : ByteArray := prog_1_method_10_code
def y_SE_code : MethodName := ⟨R_SE, "code", "(II)I"⟩
abbrev b_SE_whole : ByteArray := prog_1_method_11_code
def y_SE_whole : MethodName := ⟨R_SE, "whole", "(II)I"⟩
abbrev b_SE_way : ByteArray := prog_1_method_12_code
def y_SE_way : MethodName := ⟨R_SE, "way", "()I"⟩
abbrev b_SE_wayAt : ByteArray := prog_1_method_13_code
def y_SE_wayAt : MethodName := ⟨R_SE, "wayAt", "(I)I"⟩
abbrev b_SE_count : ByteArray := prog_1_method_14_code
def y_SE_count : MethodName := ⟨R_SE, "count", "(I)I"⟩
abbrev b_SE_stateIn : ByteArray := prog_1_method_15_code
def y_SE_stateIn : MethodName := ⟨R_SE, "stateIn", "(JI)I"⟩
abbrev b_SE_codeIn : ByteArray := prog_1_method_16_code
def y_SE_codeIn : MethodName := ⟨R_SE, "codeIn", "(JI)I"⟩
abbrev b_SE_codesIn : ByteArray := prog_1_method_17_code
def y_SE_codesIn : MethodName := ⟨R_SE, "codesIn", "(J)I"⟩
abbrev b_SE_numberingsOf : ByteArray := prog_1_method_18_code
def y_SE_numberingsOf : MethodName := ⟨R_SE, "numberingsOf", "(I)I"⟩
abbrev b_Mo_init : ByteArray := prog_4_method_1_code
def y_Mo_init : MethodName := ⟨R_Mo, "<init>", "(I)V"⟩
abbrev b_Mo_hasState : ByteArray := prog_4_method_2_code
def y_Mo_hasState : MethodName := ⟨R_Mo, "hasState", "(I)Z"⟩
abbrev b_Mo_hasKind : ByteArray := prog_4_method_3_code
def y_Mo_hasKind : MethodName := ⟨R_Mo, "hasKind", "(I)Z"⟩
abbrev b_Mo_addRule : ByteArray := prog_4_method_4_code
def y_Mo_addRule : MethodName := ⟨R_Mo, "addRule", "(III)I"⟩
abbrev b_Mo_addSend : ByteArray := prog_4_method_5_code
def y_Mo_addSend : MethodName := ⟨R_Mo, "addSend", "(III)I"⟩
abbrev b_Mo_isBadPair : ByteArray := prog_4_method_6_code
def y_Mo_isBadPair : MethodName := ⟨R_Mo, "isBadPair", "(II)Z"⟩
abbrev b_Mo_addBadPair : ByteArray := prog_4_method_7_code
def y_Mo_addBadPair : MethodName := ⟨R_Mo, "addBadPair", "(II)V"⟩
abbrev b_Mo_isBadWhole : ByteArray := prog_4_method_8_code
def y_Mo_isBadWhole : MethodName := ⟨R_Mo, "isBadWhole", "(LStateExplore$Draft;)Z"⟩
abbrev b_St_init : ByteArray := prog_5_method_1_code
def y_St_init : MethodName := ⟨R_St, "<init>", "(I)V"⟩
abbrev b_St_slotsFor : ByteArray := prog_5_method_2_code
def y_St_slotsFor : MethodName := ⟨R_St, "slotsFor", "(I)I"⟩
abbrev b_St_has : ByteArray := prog_5_method_3_code
def y_St_has : MethodName := ⟨R_St, "has", "(I)Z"⟩
abbrev b_St_isFull : ByteArray := prog_5_method_4_code
def y_St_isFull : MethodName := ⟨R_St, "isFull", "()Z"⟩
abbrev b_St_clear : ByteArray := prog_5_method_5_code
def y_St_clear : MethodName := ⟨R_St, "clear", "()V"⟩
abbrev b_St_slotOf : ByteArray := prog_5_method_6_code
def y_St_slotOf : MethodName := ⟨R_St, "slotOf", "(J)I"⟩
abbrev b_St_isTaken : ByteArray := prog_5_method_7_code
def y_St_isTaken : MethodName := ⟨R_St, "isTaken", "(I)Z"⟩
abbrev b_St_add : ByteArray := prog_5_method_8_code
def y_St_add : MethodName := ⟨R_St, "add", "(ILStateExplore$Draft;II)V"⟩
abbrev b_St_greatestLevel : ByteArray := prog_5_method_9_code
def y_St_greatestLevel : MethodName := ⟨R_St, "greatestLevel", "()I"⟩
abbrev b_St_beforeLast : ByteArray := prog_5_method_10_code
def y_St_beforeLast : MethodName := ⟨R_St, "beforeLast", "(I)I"⟩
abbrev b_Ex_init : ByteArray := prog_3_method_1_code
def y_Ex_init : MethodName := ⟨R_Ex, "<init>", "(LStateExplore$Model;LStateExplore$Store;)V"⟩
abbrev b_Ex_forget : ByteArray := prog_3_method_2_code
def y_Ex_forget : MethodName := ⟨R_Ex, "forget", "()V"⟩
abbrev b_Ex_goOn : ByteArray := prog_3_method_3_code
def y_Ex_goOn : MethodName := ⟨R_Ex, "goOn", "(I)V"⟩
abbrev b_Ex_begin : ByteArray := prog_3_method_4_code
def y_Ex_begin : MethodName := ⟨R_Ex, "begin", "()V"⟩
abbrev b_Ex_goThrough : ByteArray := prog_3_method_5_code
def y_Ex_goThrough : MethodName := ⟨R_Ex, "goThrough", "(I)V"⟩
abbrev b_Ex_tryRule : ByteArray := prog_3_method_6_code
def y_Ex_tryRule : MethodName := ⟨R_Ex, "tryRule", "(II)V"⟩
abbrev b_Ex_makeStep : ByteArray := prog_3_method_7_code
def y_Ex_makeStep : MethodName := ⟨R_Ex, "makeStep", "(III)V"⟩
abbrev b_Ex_send : ByteArray := prog_3_method_8_code
def y_Ex_send : MethodName := ⟨R_Ex, "send", "(III)V"⟩
abbrev b_Ex_take : ByteArray := prog_3_method_9_code
def y_Ex_take : MethodName := ⟨R_Ex, "take", "(III)V"⟩
abbrev b_Dr_init : ByteArray := prog_2_method_1_code
def y_Dr_init : MethodName := ⟨R_Dr, "<init>", "(I)V"⟩
abbrev b_Dr_load : ByteArray := prog_2_method_2_code
def y_Dr_load : MethodName := ⟨R_Dr, "load", "(J)V"⟩
abbrev b_Dr_copyOf : ByteArray := prog_2_method_3_code
def y_Dr_copyOf : MethodName := ⟨R_Dr, "copyOf", "(LStateExplore$Draft;)V"⟩
abbrev b_Dr_removeCode : ByteArray := prog_2_method_4_code
def y_Dr_removeCode : MethodName := ⟨R_Dr, "removeCode", "(I)V"⟩
abbrev b_Dr_addCode : ByteArray := prog_2_method_5_code
def y_Dr_addCode : MethodName := ⟨R_Dr, "addCode", "(III)V"⟩
abbrev b_Dr_settle : ByteArray := prog_2_method_6_code
def y_Dr_settle : MethodName := ⟨R_Dr, "settle", "()V"⟩
abbrev b_Dr_statesBy : ByteArray := prog_2_method_7_code
def y_Dr_statesBy : MethodName := ⟨R_Dr, "statesBy", "(I)J"⟩
abbrev b_Dr_codesBy : ByteArray := prog_2_method_8_code
def y_Dr_codesBy : MethodName := ⟨R_Dr, "codesBy", "(I)J"⟩
abbrev b_RM_init : ByteArray := prog_7_method_1_code
def y_RM_init : MethodName := ⟨R_RM, "<init>", "(II)V"⟩
abbrev b_RM_thrown : ByteArray := prog_7_method_2_code
def y_RM_thrown : MethodName := ⟨R_RM, "thrown", "()I"⟩
abbrev b_RM_throwing : ByteArray := prog_7_method_3_code
def y_RM_throwing : MethodName := ⟨R_RM, "throwing", "(ZZ)Z"⟩
abbrev b_RM_isOf : ByteArray := prog_7_method_4_code
def y_RM_isOf : MethodName := ⟨R_RM, "isOf", "(II)Z"⟩
abbrev b_RM_forget : ByteArray := prog_7_method_5_code
def y_RM_forget : MethodName := ⟨R_RM, "forget", "()V"⟩
abbrev b_RM_state : ByteArray := prog_7_method_6_code
def y_RM_state : MethodName := ⟨R_RM, "state", "()I"⟩
abbrev b_RM_message : ByteArray := prog_7_method_7_code
def y_RM_message : MethodName := ⟨R_RM, "message", "()I"⟩
abbrev b_RM_rule : ByteArray := prog_7_method_8_code
def y_RM_rule : MethodName := ⟨R_RM, "rule", "(III)I"⟩
abbrev b_RM_sends : ByteArray := prog_7_method_9_code
def y_RM_sends : MethodName := ⟨R_RM, "sends", "(III)I"⟩
abbrev b_RM_bad : ByteArray := prog_7_method_10_code
def y_RM_bad : MethodName := ⟨R_RM, "bad", "(II)Z"⟩
abbrev b_RM_add : ByteArray := prog_7_method_11_code
def y_RM_add : MethodName := ⟨R_RM, "add", "([II)V"⟩
abbrev b_RM_compare : ByteArray := prog_7_method_12_code
def y_RM_compare : MethodName := ⟨R_RM, "compare", "([I[II)I"⟩
abbrev b_RM_number : ByteArray := prog_7_method_13_code
def y_RM_number : MethodName := ⟨R_RM, "number", "(I)V"⟩
abbrev b_RM_form : ByteArray := prog_7_method_14_code
def y_RM_form : MethodName := ⟨R_RM, "form", "()V"⟩
abbrev b_RM_compareRow : ByteArray := prog_7_method_15_code
def y_RM_compareRow : MethodName := ⟨R_RM, "compareRow", "(I)I"⟩
abbrev b_RM_isThere : ByteArray := prog_7_method_16_code
def y_RM_isThere : MethodName := ⟨R_RM, "isThere", "()Z"⟩
abbrev b_RM_isBad : ByteArray := prog_7_method_17_code
def y_RM_isBad : MethodName := ⟨R_RM, "isBad", "()Z"⟩
abbrev b_RM_come : ByteArray := prog_7_method_18_code
def y_RM_come : MethodName := ⟨R_RM, "come", "(II)V"⟩
abbrev b_RM_begin : ByteArray := prog_7_method_19_code
def y_RM_begin : MethodName := ⟨R_RM, "begin", "()V"⟩
abbrev b_RM_make : ByteArray := prog_7_method_20_code
def y_RM_make : MethodName := ⟨R_RM, "make", "(IIII)Z"⟩
abbrev b_RM_step : ByteArray := prog_7_method_21_code
def y_RM_step : MethodName := ⟨R_RM, "step", "(II)Z"⟩
abbrev b_RM_allSteps : ByteArray := prog_7_method_22_code
def y_RM_allSteps : MethodName := ⟨R_RM, "allSteps", "(III)I"⟩
abbrev b_RM_goThrough : ByteArray := prog_7_method_23_code
def y_RM_goThrough : MethodName := ⟨R_RM, "goThrough", "()V"⟩
abbrev b_RM_run : ByteArray := prog_7_method_24_code
def y_RM_run : MethodName := ⟨R_RM, "run", "()I"⟩
abbrev b_RM_go : ByteArray := prog_7_method_25_code
def y_RM_go : MethodName := ⟨R_RM, "go", "(I)I"⟩
abbrev b_RM_node : ByteArray := prog_7_method_26_code
def y_RM_node : MethodName := ⟨R_RM, "node", "(II)I"⟩
abbrev b_RM_code : ByteArray := prog_7_method_27_code
def y_RM_code : MethodName := ⟨R_RM, "code", "(II)I"⟩
abbrev b_RM_whole : ByteArray := prog_7_method_28_code
def y_RM_whole : MethodName := ⟨R_RM, "whole", "(II)I"⟩
abbrev b_RM_way : ByteArray := prog_7_method_29_code
def y_RM_way : MethodName := ⟨R_RM, "way", "()I"⟩
abbrev b_RM_wayAt : ByteArray := prog_7_method_30_code
def y_RM_wayAt : MethodName := ⟨R_RM, "wayAt", "(I)I"⟩
abbrev b_RM_greatestLevel : ByteArray := prog_7_method_31_code
def y_RM_greatestLevel : MethodName := ⟨R_RM, "greatestLevel", "()I"⟩
abbrev b_RM_sums : ByteArray := prog_7_method_32_code
def y_RM_sums : MethodName := ⟨R_RM, "sums", "()I"⟩
abbrev b_RM_count : ByteArray := prog_7_method_33_code
def y_RM_count : MethodName := ⟨R_RM, "count", "(I)I"⟩
abbrev b_La_cell : ByteArray := method_2_code
def y_La_cell : MethodName := ⟨R_La, "cell", "([II)I"⟩
abbrev b_La_state : ByteArray := method_3_code
def y_La_state : MethodName := ⟨R_La, "state", "(LStateExplore;[J)I"⟩
abbrev b_La_message : ByteArray := method_4_code
def y_La_message : MethodName := ⟨R_La, "message", "(LStateExplore;[J)I"⟩
abbrev b_La_rule : ByteArray := method_5_code
def y_La_rule : MethodName := ⟨R_La, "rule", "(LStateExplore;III[J)I"⟩
abbrev b_La_sends : ByteArray := method_6_code
def y_La_sends : MethodName := ⟨R_La, "sends", "(LStateExplore;III[J)I"⟩
abbrev b_La_bad : ByteArray := method_7_code
def y_La_bad : MethodName := ⟨R_La, "bad", "(LStateExplore;II[J)I"⟩
abbrev b_La_go : ByteArray := method_8_code
def y_La_go : MethodName := ⟨R_La, "go", "(LStateExplore;I[J)I"⟩
abbrev b_La_node : ByteArray := method_9_code
def y_La_node : MethodName := ⟨R_La, "node", "(LStateExplore;II[J)I"⟩
abbrev b_La_code : ByteArray := method_10_code
def y_La_code : MethodName := ⟨R_La, "code", "(LStateExplore;II[J)I"⟩
abbrev b_La_whole : ByteArray := method_11_code
def y_La_whole : MethodName := ⟨R_La, "whole", "(LStateExplore;II[J)I"⟩
abbrev b_La_wayAt : ByteArray := method_12_code
def y_La_wayAt : MethodName := ⟨R_La, "wayAt", "(LStateExplore;I[J)I"⟩
abbrev b_Ma_floorMod : ByteArray := prog_11_method_50_code
def y_Ma_floorMod : MethodName := ⟨R_Ma, "floorMod", "(II)I"⟩
abbrev b_Ar_fill : ByteArray := prog_17_method_103_code
def y_Ar_fill : MethodName := ⟨R_Ar, "fill", "([II)V"⟩
/-! ===== the words that stay ===== -/
def am_T : List Cond := lw_tbl.filter goodWord
theorem am_in {w : Cond} (i : Nat) (h : lw_tbl[i]? = some w) (hg : goodWord w = true) : w ∈ am_T := List.mem_filter.mpr ⟨List.mem_of_getElem? h, hg⟩
theorem am_ins {ws : List Cond} (h : ∀ w ∈ ws, w ∈ lw_tbl) (hg : ∀ w ∈ ws, goodWord w = true) : ∀ w ∈ ws, w ∈ am_T := fun w hw => List.mem_filter.mpr ⟨h w hw, hg w hw⟩
/-! ===== what stays of the start: private links of nest mates, the static table ===== -/
def am_NM : List (String × Nat × MethodName × String) := [("StateExplore$Draft", 35, ⟨"StateExplore", "numberingsOf", "(I)I"⟩, "StateExplore"), ("StateExplore$Draft", 42, ⟨"StateExplore", "stateIn", "(JI)I"⟩, "StateExplore"), ("StateExplore$Draft", 46, ⟨"StateExplore", "codesIn", "(J)I"⟩, "StateExplore"), ("StateExplore$Draft", 50, ⟨"StateExplore", "codeIn", "(JI)I"⟩, "StateExplore")]
def am_NF : List (String × Nat × String × String × String × String) := [("StateExplore$Draft", 63, "StateExplore", "NUMBERINGS", "[I", "StateExplore")]
def am_numL : List Nat := [12816, 12801, 12576, 12546, 12321, 12306, 8976, 8961, 8496, 8451, 8241, 8211, 4896, 4866, 4656, 4611, 4146, 4131, 801, 786, 561, 531, 306, 291]
def am_num (j : Nat) : Int32 := nI (am_numL.getD j 0)
def am_E (_ : Nat → Prop) (_ : State) : Prop := True
def am_F (A : Nat → Prop) (U : State) : Prop :=
  (∀ q ∈ am_NM, va_Nw (.methodLinkNest q.1 q.2.1 q.2.2.1 q.2.2.2) U) ∧ (∀ q ∈ am_NF, va_Nw (.fieldLinkNest q.1 q.2.1 q.2.2.1 q.2.2.2.1 q.2.2.2.2.1 q.2.2.2.2.2) U) ∧
  (∃ t : Nat, va_Z "StateExplore" "NUMBERINGS" "[I" (.ref t) A U U.heap ∧ va_T .int t 24 (fun j => .int (am_num j)) A U U.heap) ∧ am_E A U
theorem am_F.to {A B : Nat → Prop} {s U : State} (h : am_F A s) (hA : ∀ q, B q → A q) (hW : s.WarmedH U.vm) (hq : ∀ q, q < s.heap.size → ¬ A q → U.heap[q]? = s.heap[q]?) : am_F B U := by
  obtain ⟨h1, h2, ⟨t, hZ, hT⟩, h4⟩ := h
  refine ⟨fun q hq9 => va_Nw.warmM hW (h1 q hq9), fun q hq9 => va_Nw.warmF hW (h2 q hq9), ⟨t, ?_, ?_⟩, trivial⟩
  · exact ((va_Z.moved hW.alike hZ).kept hq).narrow hA
  · exact ((va_T.moved hW.alike hT).kept hq).narrow hA
theorem am_F.blind {A : Nat → Prop} {U V : State} (h : am_F A U) (hvm : U.vm = V.vm) (hh : U.heap = V.heap) : am_F A V := by
  obtain ⟨h1, h2, ⟨t, hZ, hT⟩, h4⟩ := h
  have ha : U.vm.Alike V.vm := hvm ▸ Vm.Alike.refl U.vm
  refine ⟨fun q hq9 => va_Nw.same rfl hvm (h1 q hq9), fun q hq9 => va_Nw.same rfl hvm (h2 q hq9), ⟨t, ?_, ?_⟩, trivial⟩
  · rw [← hh]; exact va_Z.moved ha hZ
  · rw [← hh]; exact va_T.moved ha hT
