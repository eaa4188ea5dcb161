section
-- ===== PART A: goes FIRST, ahead of the names: the tables' words, and 'selects' of the private methods out of them =====
/-- a private method of a class that the tables say can be made, by its rows of tables_1 -/
def lw_okq (q : MethodName × Nat) : Prop := (q.1.cls ≠ "java/lang/invoke/MethodHandle" ∧ q.1.cls ≠ "java/lang/invoke/VarHandle") ∧ Cond.instantiable q.1.cls q.2 ∈ tables_1 ∧ Cond.privateMethod q.1 ∈ tables_1 ∧ Cond.instanceMethod q.1 ∈ tables_1
theorem lw_p0 : lw_okq (⟨"StateExplore$Explorer", "begin", "()V"⟩, 11) := ⟨⟨by decide +kernel, by decide +kernel⟩, List.mem_of_getElem? (i := 132) (by decide +kernel), List.mem_of_getElem? (i := 244) (by decide +kernel), List.mem_of_getElem? (i := 245) (by decide +kernel)⟩
theorem lw_p1 : lw_okq (⟨"StateExplore$Draft", "statesBy", "(I)J"⟩, 8) := ⟨⟨by decide +kernel, by decide +kernel⟩, List.mem_of_getElem? (i := 138) (by decide +kernel), List.mem_of_getElem? (i := 268) (by decide +kernel), List.mem_of_getElem? (i := 269) (by decide +kernel)⟩
theorem lw_p2 : lw_okq (⟨"StateExplore$Draft", "codesBy", "(I)J"⟩, 8) := ⟨⟨by decide +kernel, by decide +kernel⟩, List.mem_of_getElem? (i := 138) (by decide +kernel), List.mem_of_getElem? (i := 272) (by decide +kernel), List.mem_of_getElem? (i := 273) (by decide +kernel)⟩
theorem lw_p3 : lw_okq (⟨"StateExplore$Explorer", "take", "(III)V"⟩, 11) := ⟨⟨by decide +kernel, by decide +kernel⟩, List.mem_of_getElem? (i := 132) (by decide +kernel), List.mem_of_getElem? (i := 281) (by decide +kernel), List.mem_of_getElem? (i := 282) (by decide +kernel)⟩
theorem lw_p4 : lw_okq (⟨"StateExplore$Explorer", "goThrough", "(I)V"⟩, 11) := ⟨⟨by decide +kernel, by decide +kernel⟩, List.mem_of_getElem? (i := 132) (by decide +kernel), List.mem_of_getElem? (i := 301) (by decide +kernel), List.mem_of_getElem? (i := 302) (by decide +kernel)⟩
theorem lw_p5 : lw_okq (⟨"StateExplore$Explorer", "tryRule", "(II)V"⟩, 11) := ⟨⟨by decide +kernel, by decide +kernel⟩, List.mem_of_getElem? (i := 132) (by decide +kernel), List.mem_of_getElem? (i := 305) (by decide +kernel), List.mem_of_getElem? (i := 306) (by decide +kernel)⟩
theorem lw_p6 : lw_okq (⟨"StateExplore$Explorer", "makeStep", "(III)V"⟩, 11) := ⟨⟨by decide +kernel, by decide +kernel⟩, List.mem_of_getElem? (i := 132) (by decide +kernel), List.mem_of_getElem? (i := 309) (by decide +kernel), List.mem_of_getElem? (i := 310) (by decide +kernel)⟩
theorem lw_p7 : lw_okq (⟨"StateExplore$Explorer", "send", "(III)V"⟩, 11) := ⟨⟨by decide +kernel, by decide +kernel⟩, List.mem_of_getElem? (i := 132) (by decide +kernel), List.mem_of_getElem? (i := 324) (by decide +kernel), List.mem_of_getElem? (i := 325) (by decide +kernel)⟩
theorem lw_p8 : lw_okq (⟨"java/lang/Throwable", "fillInStackTrace", "(I)Ljava/lang/Throwable;"⟩, 6) := ⟨⟨by decide +kernel, by decide +kernel⟩, List.mem_of_getElem? (i := 401) (by decide +kernel), List.mem_of_getElem? (i := 399) (by decide +kernel), List.mem_of_getElem? (i := 400) (by decide +kernel)⟩
theorem lw_p9 : lw_okq (⟨"StateExploreModel", "throwing", "(ZZ)Z"⟩, 34) := ⟨⟨by decide +kernel, by decide +kernel⟩, List.mem_of_getElem? (i := 579) (by decide +kernel), List.mem_of_getElem? (i := 698) (by decide +kernel), List.mem_of_getElem? (i := 699) (by decide +kernel)⟩
theorem lw_p10 : lw_okq (⟨"StateExploreModel", "forget", "()V"⟩, 34) := ⟨⟨by decide +kernel, by decide +kernel⟩, List.mem_of_getElem? (i := 579) (by decide +kernel), List.mem_of_getElem? (i := 702) (by decide +kernel), List.mem_of_getElem? (i := 703) (by decide +kernel)⟩
theorem lw_p11 : lw_okq (⟨"StateExploreModel", "begin", "()V"⟩, 34) := ⟨⟨by decide +kernel, by decide +kernel⟩, List.mem_of_getElem? (i := 579) (by decide +kernel), List.mem_of_getElem? (i := 729) (by decide +kernel), List.mem_of_getElem? (i := 730) (by decide +kernel)⟩
theorem lw_p12 : lw_okq (⟨"StateExploreModel", "form", "()V"⟩, 34) := ⟨⟨by decide +kernel, by decide +kernel⟩, List.mem_of_getElem? (i := 579) (by decide +kernel), List.mem_of_getElem? (i := 733) (by decide +kernel), List.mem_of_getElem? (i := 734) (by decide +kernel)⟩
theorem lw_p13 : lw_okq (⟨"StateExploreModel", "number", "(I)V"⟩, 34) := ⟨⟨by decide +kernel, by decide +kernel⟩, List.mem_of_getElem? (i := 579) (by decide +kernel), List.mem_of_getElem? (i := 737) (by decide +kernel), List.mem_of_getElem? (i := 738) (by decide +kernel)⟩
theorem lw_p14 : lw_okq (⟨"StateExploreModel", "add", "([II)V"⟩, 34) := ⟨⟨by decide +kernel, by decide +kernel⟩, List.mem_of_getElem? (i := 579) (by decide +kernel), List.mem_of_getElem? (i := 741) (by decide +kernel), List.mem_of_getElem? (i := 742) (by decide +kernel)⟩
theorem lw_p15 : lw_okq (⟨"StateExploreModel", "come", "(II)V"⟩, 34) := ⟨⟨by decide +kernel, by decide +kernel⟩, List.mem_of_getElem? (i := 579) (by decide +kernel), List.mem_of_getElem? (i := 748) (by decide +kernel), List.mem_of_getElem? (i := 749) (by decide +kernel)⟩
def lw_privs_1 : List (MethodName × Nat) := [(⟨"StateExplore$Explorer", "begin", "()V"⟩, 11), (⟨"StateExplore$Draft", "statesBy", "(I)J"⟩, 8), (⟨"StateExplore$Draft", "codesBy", "(I)J"⟩, 8), (⟨"StateExplore$Explorer", "take", "(III)V"⟩, 11), (⟨"StateExplore$Explorer", "goThrough", "(I)V"⟩, 11), (⟨"StateExplore$Explorer", "tryRule", "(II)V"⟩, 11), (⟨"StateExplore$Explorer", "makeStep", "(III)V"⟩, 11), (⟨"StateExplore$Explorer", "send", "(III)V"⟩, 11), (⟨"java/lang/Throwable", "fillInStackTrace", "(I)Ljava/lang/Throwable;"⟩, 6), (⟨"StateExploreModel", "throwing", "(ZZ)Z"⟩, 34), (⟨"StateExploreModel", "forget", "()V"⟩, 34), (⟨"StateExploreModel", "begin", "()V"⟩, 34), (⟨"StateExploreModel", "form", "()V"⟩, 34), (⟨"StateExploreModel", "number", "(I)V"⟩, 34), (⟨"StateExploreModel", "add", "([II)V"⟩, 34), (⟨"StateExploreModel", "come", "(II)V"⟩, 34)]
theorem lw_r1 : ∀ q ∈ lw_privs_1, lw_okq q := List.forall_mem_cons.mpr ⟨lw_p0, List.forall_mem_cons.mpr ⟨lw_p1, List.forall_mem_cons.mpr ⟨lw_p2, List.forall_mem_cons.mpr ⟨lw_p3, List.forall_mem_cons.mpr ⟨lw_p4, List.forall_mem_cons.mpr ⟨lw_p5, List.forall_mem_cons.mpr ⟨lw_p6, List.forall_mem_cons.mpr ⟨lw_p7, List.forall_mem_cons.mpr ⟨lw_p8, List.forall_mem_cons.mpr ⟨lw_p9, List.forall_mem_cons.mpr ⟨lw_p10, List.forall_mem_cons.mpr ⟨lw_p11, List.forall_mem_cons.mpr ⟨lw_p12, List.forall_mem_cons.mpr ⟨lw_p13, List.forall_mem_cons.mpr ⟨lw_p14, List.forall_mem_cons.mpr ⟨lw_p15, fun _ h => absurd h List.not_mem_nil⟩⟩⟩⟩⟩⟩⟩⟩⟩⟩⟩⟩⟩⟩⟩⟩
theorem lw_p16 : lw_okq (⟨"StateExploreModel", "isBad", "()Z"⟩, 34) := ⟨⟨by decide +kernel, by decide +kernel⟩, List.mem_of_getElem? (i := 579) (by decide +kernel), List.mem_of_getElem? (i := 752) (by decide +kernel), List.mem_of_getElem? (i := 753) (by decide +kernel)⟩
theorem lw_p17 : lw_okq (⟨"StateExploreModel", "goThrough", "()V"⟩, 34) := ⟨⟨by decide +kernel, by decide +kernel⟩, List.mem_of_getElem? (i := 579) (by decide +kernel), List.mem_of_getElem? (i := 756) (by decide +kernel), List.mem_of_getElem? (i := 757) (by decide +kernel)⟩
theorem lw_p18 : lw_okq (⟨"StateExploreModel", "allSteps", "(III)I"⟩, 34) := ⟨⟨by decide +kernel, by decide +kernel⟩, List.mem_of_getElem? (i := 579) (by decide +kernel), List.mem_of_getElem? (i := 760) (by decide +kernel), List.mem_of_getElem? (i := 761) (by decide +kernel)⟩
theorem lw_p19 : lw_okq (⟨"StateExploreModel", "make", "(IIII)Z"⟩, 34) := ⟨⟨by decide +kernel, by decide +kernel⟩, List.mem_of_getElem? (i := 579) (by decide +kernel), List.mem_of_getElem? (i := 764) (by decide +kernel), List.mem_of_getElem? (i := 765) (by decide +kernel)⟩
theorem lw_p20 : lw_okq (⟨"StateExploreModel", "step", "(II)Z"⟩, 34) := ⟨⟨by decide +kernel, by decide +kernel⟩, List.mem_of_getElem? (i := 579) (by decide +kernel), List.mem_of_getElem? (i := 768) (by decide +kernel), List.mem_of_getElem? (i := 769) (by decide +kernel)⟩
theorem lw_p21 : lw_okq (⟨"StateExploreModel", "isThere", "()Z"⟩, 34) := ⟨⟨by decide +kernel, by decide +kernel⟩, List.mem_of_getElem? (i := 579) (by decide +kernel), List.mem_of_getElem? (i := 772) (by decide +kernel), List.mem_of_getElem? (i := 773) (by decide +kernel)⟩
theorem lw_p22 : lw_okq (⟨"StateExploreModel", "compareRow", "(I)I"⟩, 34) := ⟨⟨by decide +kernel, by decide +kernel⟩, List.mem_of_getElem? (i := 579) (by decide +kernel), List.mem_of_getElem? (i := 776) (by decide +kernel), List.mem_of_getElem? (i := 777) (by decide +kernel)⟩
theorem lw_p23 : lw_okq (⟨"StateExploreModel", "greatestLevel", "()I"⟩, 34) := ⟨⟨by decide +kernel, by decide +kernel⟩, List.mem_of_getElem? (i := 579) (by decide +kernel), List.mem_of_getElem? (i := 808) (by decide +kernel), List.mem_of_getElem? (i := 809) (by decide +kernel)⟩
theorem lw_p24 : lw_okq (⟨"StateExploreModel", "sums", "()I"⟩, 34) := ⟨⟨by decide +kernel, by decide +kernel⟩, List.mem_of_getElem? (i := 579) (by decide +kernel), List.mem_of_getElem? (i := 812) (by decide +kernel), List.mem_of_getElem? (i := 813) (by decide +kernel)⟩
def lw_privs_2 : List (MethodName × Nat) := [(⟨"StateExploreModel", "isBad", "()Z"⟩, 34), (⟨"StateExploreModel", "goThrough", "()V"⟩, 34), (⟨"StateExploreModel", "allSteps", "(III)I"⟩, 34), (⟨"StateExploreModel", "make", "(IIII)Z"⟩, 34), (⟨"StateExploreModel", "step", "(II)Z"⟩, 34), (⟨"StateExploreModel", "isThere", "()Z"⟩, 34), (⟨"StateExploreModel", "compareRow", "(I)I"⟩, 34), (⟨"StateExploreModel", "greatestLevel", "()I"⟩, 34), (⟨"StateExploreModel", "sums", "()I"⟩, 34)]
theorem lw_r2 : ∀ q ∈ lw_privs_2, lw_okq q := List.forall_mem_cons.mpr ⟨lw_p16, List.forall_mem_cons.mpr ⟨lw_p17, List.forall_mem_cons.mpr ⟨lw_p18, List.forall_mem_cons.mpr ⟨lw_p19, List.forall_mem_cons.mpr ⟨lw_p20, List.forall_mem_cons.mpr ⟨lw_p21, List.forall_mem_cons.mpr ⟨lw_p22, List.forall_mem_cons.mpr ⟨lw_p23, List.forall_mem_cons.mpr ⟨lw_p24, fun _ h => absurd h List.not_mem_nil⟩⟩⟩⟩⟩⟩⟩⟩⟩
def lw_privs : List (MethodName × Nat) := lw_privs_1 ++ (lw_privs_2)
def lw_tbl : List Cond := k2_sels lw_privs ++ tables_1
theorem lw_privs_ok : ∀ q ∈ lw_privs, lw_okq q := by
  show ∀ q ∈ lw_privs_1 ++ (lw_privs_2), lw_okq q
  exact List.forall_mem_append.mpr ⟨lw_r1, lw_r2⟩

/-! ===== names: classes, fields, methods ===== -/
def R_SE : String := "StateExplore"
def R_Mo : String := "StateExplore$Model"
def R_Dr : String := "StateExplore$Draft"
def R_St : String := "StateExplore$Store"
def R_Ex : String := "StateExplore$Explorer"
def R_RM : String := "StateExploreModel"
def R_La : String := "StateExploreLaw"
def R_Ma : String := "java/lang/Math"
def R_Ar : String := "java/util/Arrays"
def R_Ob : String := "java/lang/Object"
def F_SE : u_T := fun k => match k with
  | 0 => ("StateExplore", "model", "LStateExplore$Model;", true)
  | 1 => ("StateExplore", "store", "LStateExplore$Store;", true)
  | _ => ("StateExplore", "explorer", "LStateExplore$Explorer;", true)
def t_SE : Nat → FieldType := fun k => match k with
  | 0 => .object "StateExplore$Model"
  | 1 => .object "StateExplore$Store"
  | _ => .object "StateExplore$Explorer"
theorem n_SE : ∀ a, a < 3 → ∀ b, b < 3 → a ≠ b → (F_SE a).2.1 ≠ (F_SE b).2.1 := by decide +kernel
theorem t_SE_ok : ∀ k, k < 3 → parseFieldDescriptor (F_SE k).2.2.1 = some (t_SE k) := by decide +kernel
def F_Mo : u_T := fun k => match k with
  | 0 => ("StateExplore$Model", "nodes", "I", true)
  | 1 => ("StateExplore$Model", "states", "I", false)
  | 2 => ("StateExplore$Model", "kinds", "I", false)
  | 3 => ("StateExplore$Model", "rules", "I", false)
  | 4 => ("StateExplore$Model", "starts", "[I", true)
  | 5 => ("StateExplore$Model", "events", "[I", true)
  | 6 => ("StateExplore$Model", "targets", "[I", true)
  | 7 => ("StateExplore$Model", "sends", "[I", true)
  | 8 => ("StateExplore$Model", "sentKinds", "[I", true)
  | 9 => ("StateExplore$Model", "sentWhom", "[I", true)
  | 10 => ("StateExplore$Model", "growths", "[I", true)
  | _ => ("StateExplore$Model", "badPairs", "J", false)
def t_Mo : Nat → FieldType := fun k => match k with
  | 0 => .int
  | 1 => .int
  | 2 => .int
  | 3 => .int
  | 4 => .array .int
  | 5 => .array .int
  | 6 => .array .int
  | 7 => .array .int
  | 8 => .array .int
  | 9 => .array .int
  | 10 => .array .int
  | _ => .long
theorem n_Mo : ∀ a, a < 12 → ∀ b, b < 12 → a ≠ b → (F_Mo a).2.1 ≠ (F_Mo b).2.1 := by decide +kernel
theorem t_Mo_ok : ∀ k, k < 12 → parseFieldDescriptor (F_Mo k).2.2.1 = some (t_Mo k) := by decide +kernel
def F_St : u_T := fun k => match k with
  | 0 => ("StateExplore$Store", "size", "I", false)
  | 1 => ("StateExplore$Store", "forms", "[J", true)
  | 2 => ("StateExplore$Store", "levels", "[I", true)
  | 3 => ("StateExplore$Store", "origins", "[I", true)
  | 4 => ("StateExplore$Store", "rules", "[I", true)
  | 5 => ("StateExplore$Store", "steps", "[I", true)
  | 6 => ("StateExplore$Store", "symmetries", "[I", true)
  | _ => ("StateExplore$Store", "slots", "[I", true)
def t_St : Nat → FieldType := fun k => match k with
  | 0 => .int
  | 1 => .array .long
  | 2 => .array .int
  | 3 => .array .int
  | 4 => .array .int
  | 5 => .array .int
  | 6 => .array .int
  | _ => .array .int
theorem n_St : ∀ a, a < 8 → ∀ b, b < 8 → a ≠ b → (F_St a).2.1 ≠ (F_St b).2.1 := by decide +kernel
theorem t_St_ok : ∀ k, k < 8 → parseFieldDescriptor (F_St k).2.2.1 = some (t_St k) := by decide +kernel
def F_Ex : u_T := fun k => match k with
  | 0 => ("StateExplore$Explorer", "model", "LStateExplore$Model;", true)
  | 1 => ("StateExplore$Explorer", "store", "LStateExplore$Store;", true)
  | 2 => ("StateExplore$Explorer", "ending", "I", false)
  | 3 => ("StateExplore$Explorer", "gone", "I", false)
  | 4 => ("StateExplore$Explorer", "steps", "I", false)
  | 5 => ("StateExplore$Explorer", "stepsBack", "I", false)
  | 6 => ("StateExplore$Explorer", "stuck", "I", false)
  | 7 => ("StateExplore$Explorer", "stoodFor", "I", false)
  | 8 => ("StateExplore$Explorer", "stepsHere", "I", false)
  | 9 => ("StateExplore$Explorer", "source", "LStateExplore$Draft;", true)
  | _ => ("StateExplore$Explorer", "result", "LStateExplore$Draft;", true)
def t_Ex : Nat → FieldType := fun k => match k with
  | 0 => .object "StateExplore$Model"
  | 1 => .object "StateExplore$Store"
  | 2 => .int
  | 3 => .int
  | 4 => .int
  | 5 => .int
  | 6 => .int
  | 7 => .int
  | 8 => .int
  | 9 => .object "StateExplore$Draft"
  | _ => .object "StateExplore$Draft"
theorem n_Ex : ∀ a, a < 11 → ∀ b, b < 11 → a ≠ b → (F_Ex a).2.1 ≠ (F_Ex b).2.1 := by decide +kernel
theorem t_Ex_ok : ∀ k, k < 11 → parseFieldDescriptor (F_Ex k).2.2.1 = some (t_Ex k) := by decide +kernel
def F_Dr : u_T := fun k => match k with
  | 0 => ("StateExplore$Draft", "nodes", "I", true)
  | 1 => ("StateExplore$Draft", "numberings", "I", true)
  | 2 => ("StateExplore$Draft", "states", "[I", true)
  | 3 => ("StateExplore$Draft", "codes", "[I", true)
  | 4 => ("StateExplore$Draft", "size", "I", false)
  | 5 => ("StateExplore$Draft", "form", "J", false)
  | 6 => ("StateExplore$Draft", "symmetries", "I", false)
  | _ => ("StateExplore$Draft", "sorted", "[I", true)
def t_Dr : Nat → FieldType := fun k => match k with
  | 0 => .int
  | 1 => .int
  | 2 => .array .int
  | 3 => .array .int
  | 4 => .int
  | 5 => .long
  | 6 => .int
  | _ => .array .int
theorem n_Dr : ∀ a, a < 8 → ∀ b, b < 8 → a ≠ b → (F_Dr a).2.1 ≠ (F_Dr b).2.1 := by decide +kernel
theorem t_Dr_ok : ∀ k, k < 8 → parseFieldDescriptor (F_Dr k).2.2.1 = some (t_Dr k) := by decide +kernel
def F_RM : u_T := fun k => match k with
  | 0 => ("StateExploreModel", "thrown", "I", false)
  | 1 => ("StateExploreModel", "nodes", "I", true)
  | 2 => ("StateExploreModel", "room", "I", true)
  | 3 => ("StateExploreModel", "states", "I", false)
  | 4 => ("StateExploreModel", "kinds", "I", false)
  | 5 => ("StateExploreModel", "rules", "I", false)
  | 6 => ("StateExploreModel", "from", "[I", true)
  | 7 => ("StateExploreModel", "event", "[I", true)
  | 8 => ("StateExploreModel", "to", "[I", true)
  | 9 => ("StateExploreModel", "sentMany", "[I", true)
  | 10 => ("StateExploreModel", "sentKind", "[I", true)
  | 11 => ("StateExploreModel", "sentWhom", "[I", true)
  | 12 => ("StateExploreModel", "bad", "[Z", true)
  | 13 => ("StateExploreModel", "numbering", "[I", true)
  | 14 => ("StateExploreModel", "numberings", "I", false)
  | 15 => ("StateExploreModel", "wholes", "I", false)
  | 16 => ("StateExploreModel", "gone", "I", false)
  | 17 => ("StateExploreModel", "steps", "I", false)
  | 18 => ("StateExploreModel", "old", "I", false)
  | 19 => ("StateExploreModel", "stuck", "I", false)
  | 20 => ("StateExploreModel", "answer", "I", false)
  | 21 => ("StateExploreModel", "badWhole", "I", false)
  | 22 => ("StateExploreModel", "rows", "[I", true)
  | 23 => ("StateExploreModel", "order", "[I", true)
  | 24 => ("StateExploreModel", "level", "[I", true)
  | 25 => ("StateExploreModel", "parent", "[I", true)
  | 26 => ("StateExploreModel", "byRule", "[I", true)
  | 27 => ("StateExploreModel", "stepsOf", "[I", true)
  | 28 => ("StateExploreModel", "alike", "[I", true)
  | 29 => ("StateExploreModel", "next", "[I", true)
  | 30 => ("StateExploreModel", "other", "[I", true)
  | 31 => ("StateExploreModel", "least", "[I", true)
  | 32 => ("StateExploreModel", "same", "I", false)
  | _ => ("StateExploreModel", "at", "I", false)
def t_RM : Nat → FieldType := fun k => match k with
  | 0 => .int
  | 1 => .int
  | 2 => .int
  | 3 => .int
  | 4 => .int
  | 5 => .int
  | 6 => .array .int
  | 7 => .array .int
  | 8 => .array .int
  | 9 => .array .int
  | 10 => .array .int
  | 11 => .array .int
  | 12 => .array .boolean
  | 13 => .array .int
  | 14 => .int
  | 15 => .int
  | 16 => .int
  | 17 => .int
  | 18 => .int
  | 19 => .int
  | 20 => .int
  | 21 => .int
  | 22 => .array .int
  | 23 => .array .int
  | 24 => .array .int
  | 25 => .array .int
  | 26 => .array .int
  | 27 => .array .int
  | 28 => .array .int
  | 29 => .array .int
  | 30 => .array .int
  | 31 => .array .int
  | 32 => .int
  | _ => .int
theorem n_RM : ∀ a, a < 34 → ∀ b, b < 34 → a ≠ b → (F_RM a).2.1 ≠ (F_RM b).2.1 := by decide +kernel
theorem t_RM_ok : ∀ k, k < 34 → parseFieldDescriptor (F_RM k).2.2.1 = some (t_RM k) := by decide +kernel
abbrev classes : List vw_C := [(R_SE, F_SE, 3), (R_Mo, F_Mo, 12), (R_St, F_St, 8), (R_Ex, F_Ex, 11), (R_Dr, F_Dr, 8), (R_RM, F_RM, 34)]
abbrev b_SE_init : ByteArray := prog_1_method_1_code
def y_SE_init : MethodName := ⟨R_SE, "<init>", "(II)V"⟩
abbrev b_SE_state : ByteArray := prog_1_method_2_code
def y_SE_state : MethodName := ⟨R_SE, "state", "()I"⟩
abbrev b_SE_message : ByteArray := prog_1_method_3_code
def y_SE_message : MethodName := ⟨R_SE, "message", "()I"⟩
abbrev b_SE_rule : ByteArray := prog_1_method_4_code
def y_SE_rule : MethodName := ⟨R_SE, "rule", "(III)I"⟩
abbrev b_SE_sends : ByteArray := prog_1_method_5_code
def y_SE_sends : MethodName := ⟨R_SE, "sends", "(III)I"⟩
abbrev b_SE_bad : ByteArray := prog_1_method_6_code
def y_SE_bad : MethodName := ⟨R_SE, "bad", "(II)Z"⟩
abbrev b_SE_run : ByteArray := prog_1_method_7_code
def y_SE_run : MethodName := ⟨R_SE, "run", "()I"⟩
abbrev b_SE_go : ByteArray := prog_1_method_8_code
def y_SE_go : MethodName := ⟨R_SE, "go", "(I)I"⟩
abbrev b_SE_node : ByteArray := prog_1_method_9_code
def y_SE_node : MethodName := ⟨R_SE, "node", "(II)I"⟩
abbrev b_SE_code : ByteArray := prog_1_method_10_code
def y_SE_code : MethodName := ⟨R_SE, "code", "(II)I"⟩
abbrev b_SE_whole : ByteArray := prog_1_method_11_code
def y_SE_whole : MethodName := ⟨R_SE, "whole", "(II)I"⟩
abbrev b_SE_way : ByteArray := prog_1_method_12_code
def y_SE_way : MethodName := ⟨R_SE, "way", "()I"⟩
abbrev b_SE_wayAt : ByteArray := prog_1_method_13_code
def y_SE_wayAt : MethodName := ⟨R_SE, "wayAt", "(I)I"⟩
abbrev b_SE_count : ByteArray := prog_1_method_14_code
def y_SE_count : MethodName := ⟨R_SE, "count", "(I)I"⟩
abbrev b_SE_stateIn : ByteArray := prog_1_method_15_code
def y_SE_stateIn : MethodName := ⟨R_SE, "stateIn", "(JI)I"⟩
abbrev b_SE_codeIn : ByteArray := prog_1_method_16_code
def y_SE_codeIn : MethodName := ⟨R_SE, "codeIn", "(JI)I"⟩
abbrev b_SE_codesIn : ByteArray := prog_1_method_17_code
def y_SE_codesIn : MethodName := ⟨R_SE, "codesIn", "(J)I"⟩
abbrev b_SE_numberingsOf : ByteArray := prog_1_method_18_code
def y_SE_numberingsOf : MethodName := ⟨R_SE, "numberingsOf", "(I)I"⟩
abbrev b_Mo_init : ByteArray := prog_4_method_1_code
def y_Mo_init : MethodName := ⟨R_Mo, "<init>", "(I)V"⟩
abbrev b_Mo_hasState : ByteArray := prog_4_method_2_code
def y_Mo_hasState : MethodName := ⟨R_Mo, "hasState", "(I)Z"⟩
abbrev b_Mo_hasKind : ByteArray := prog_4_method_3_code
def y_Mo_hasKind : MethodName := ⟨R_Mo, "hasKind", "(I)Z"⟩
abbrev b_Mo_addRule : ByteArray := prog_4_method_4_code
def y_Mo_addRule : MethodName := ⟨R_Mo, "addRule", "(III)I"⟩
abbrev b_Mo_addSend : ByteArray := prog_4_method_5_code
def y_Mo_addSend : MethodName := ⟨R_Mo, "addSend", "(III)I"⟩
abbrev b_Mo_isBadPair : ByteArray := prog_4_method_6_code
def y_Mo_isBadPair : MethodName := ⟨R_Mo, "isBadPair", "(II)Z"⟩
abbrev b_Mo_addBadPair : ByteArray := prog_4_method_7_code
def y_Mo_addBadPair : MethodName := ⟨R_Mo, "addBadPair", "(II)V"⟩
abbrev b_Mo_isBadWhole : ByteArray := prog_4_method_8_code
def y_Mo_isBadWhole : MethodName := ⟨R_Mo, "isBadWhole", "(LStateExplore$Draft;)Z"⟩
abbrev b_St_init : ByteArray := prog_5_method_1_code
def y_St_init : MethodName := ⟨R_St, "<init>", "(I)V"⟩
abbrev b_St_slotsFor : ByteArray := prog_5_method_2_code
def y_St_slotsFor : MethodName := ⟨R_St, "slotsFor", "(I)I"⟩
abbrev b_St_has : ByteArray := prog_5_method_3_code
def y_St_has : MethodName := ⟨R_St, "has", "(I)Z"⟩
abbrev b_St_isFull : ByteArray := prog_5_method_4_code
def y_St_isFull : MethodName := ⟨R_St, "isFull", "()Z"⟩
abbrev b_St_clear : ByteArray := prog_5_method_5_code
def y_St_clear : MethodName := ⟨R_St, "clear", "()V"⟩
abbrev b_St_slotOf : ByteArray := prog_5_method_6_code
def y_St_slotOf : MethodName := ⟨R_St, "slotOf", "(J)I"⟩
abbrev b_St_isTaken : ByteArray := prog_5_method_7_code
def y_St_isTaken : MethodName := ⟨R_St, "isTaken", "(I)Z"⟩
abbrev b_St_add : ByteArray := prog_5_method_8_code
def y_St_add : MethodName := ⟨R_St, "add", "(ILStateExplore$Draft;II)V"⟩
abbrev b_St_greatestLevel : ByteArray := prog_5_method_9_code
def y_St_greatestLevel : MethodName := ⟨R_St, "greatestLevel", "()I"⟩
abbrev b_St_beforeLast : ByteArray := prog_5_method_10_code
def y_St_beforeLast : MethodName := ⟨R_St, "beforeLast", "(I)I"⟩
abbrev b_Ex_init : ByteArray := prog_3_method_1_code
def y_Ex_init : MethodName := ⟨R_Ex, "<init>", "(LStateExplore$Model;LStateExplore$Store;)V"⟩
abbrev b_Ex_forget : ByteArray := prog_3_method_2_code
def y_Ex_forget : MethodName := ⟨R_Ex, "forget", "()V"⟩
abbrev b_Ex_goOn : ByteArray := prog_3_method_3_code
def y_Ex_goOn : MethodName := ⟨R_Ex, "goOn", "(I)V"⟩
abbrev b_Ex_begin : ByteArray := prog_3_method_4_code
def y_Ex_begin : MethodName := ⟨R_Ex, "begin", "()V"⟩
abbrev b_Ex_goThrough : ByteArray := prog_3_method_5_code
def y_Ex_goThrough : MethodName := ⟨R_Ex, "goThrough", "(I)V"⟩
abbrev b_Ex_tryRule : ByteArray := prog_3_method_6_code
def y_Ex_tryRule : MethodName := ⟨R_Ex, "tryRule", "(II)V"⟩
abbrev b_Ex_makeStep : ByteArray := prog_3_method_7_code
def y_Ex_makeStep : MethodName := ⟨R_Ex, "makeStep", "(III)V"⟩
abbrev b_Ex_send : ByteArray := prog_3_method_8_code
def y_Ex_send : MethodName := ⟨R_Ex, "send", "(III)V"⟩
abbrev b_Ex_take : ByteArray := prog_3_method_9_code
def y_Ex_take : MethodName := ⟨R_Ex, "take", "(III)V"⟩
abbrev b_Dr_init : ByteArray := prog_2_method_1_code
def y_Dr_init : MethodName := ⟨R_Dr, "<init>", "(I)V"⟩
abbrev b_Dr_load : ByteArray := prog_2_method_2_code
def y_Dr_load : MethodName := ⟨R_Dr, "load", "(J)V"⟩
abbrev b_Dr_copyOf : ByteArray := prog_2_method_3_code
def y_Dr_copyOf : MethodName := ⟨R_Dr, "copyOf", "(LStateExplore$Draft;)V"⟩
abbrev b_Dr_removeCode : ByteArray := prog_2_method_4_code
def y_Dr_removeCode : MethodName := ⟨R_Dr, "removeCode", "(I)V"⟩
abbrev b_Dr_addCode : ByteArray := prog_2_method_5_code
def y_Dr_addCode : MethodName := ⟨R_Dr, "addCode", "(III)V"⟩
abbrev b_Dr_settle : ByteArray := prog_2_method_6_code
def y_Dr_settle : MethodName := ⟨R_Dr, "settle", "()V"⟩
abbrev b_Dr_statesBy : ByteArray := prog_2_method_7_code
def y_Dr_statesBy : MethodName := ⟨R_Dr, "statesBy", "(I)J"⟩
abbrev b_Dr_codesBy : ByteArray := prog_2_method_8_code
def y_Dr_codesBy : MethodName := ⟨R_Dr, "codesBy", "(I)J"⟩
abbrev b_RM_init : ByteArray := prog_7_method_1_code
def y_RM_init : MethodName := ⟨R_RM, "<init>", "(II)V"⟩
abbrev b_RM_thrown : ByteArray := prog_7_method_2_code
def y_RM_thrown : MethodName := ⟨R_RM, "thrown", "()I"⟩
abbrev b_RM_throwing : ByteArray := prog_7_method_3_code
def y_RM_throwing : MethodName := ⟨R_RM, "throwing", "(ZZ)Z"⟩
abbrev b_RM_isOf : ByteArray := prog_7_method_4_code
def y_RM_isOf : MethodName := ⟨R_RM, "isOf", "(II)Z"⟩
abbrev b_RM_forget : ByteArray := prog_7_method_5_code
def y_RM_forget : MethodName := ⟨R_RM, "forget", "()V"⟩
abbrev b_RM_state : ByteArray := prog_7_method_6_code
def y_RM_state : MethodName := ⟨R_RM, "state", "()I"⟩
abbrev b_RM_message : ByteArray := prog_7_method_7_code
def y_RM_message : MethodName := ⟨R_RM, "message", "()I"⟩
abbrev b_RM_rule : ByteArray := prog_7_method_8_code
def y_RM_rule : MethodName := ⟨R_RM, "rule", "(III)I"⟩
abbrev b_RM_sends : ByteArray := prog_7_method_9_code
def y_RM_sends : MethodName := ⟨R_RM, "sends", "(III)I"⟩
abbrev b_RM_bad : ByteArray := prog_7_method_10_code
def y_RM_bad : MethodName := ⟨R_RM, "bad", "(II)Z"⟩
abbrev b_RM_add : ByteArray := prog_7_method_11_code
def y_RM_add : MethodName := ⟨R_RM, "add", "([II)V"⟩
abbrev b_RM_compare : ByteArray := prog_7_method_12_code
def y_RM_compare : MethodName := ⟨R_RM, "compare", "([I[II)I"⟩
abbrev b_RM_number : ByteArray := prog_7_method_13_code
def y_RM_number : MethodName := ⟨R_RM, "number", "(I)V"⟩
abbrev b_RM_form : ByteArray := prog_7_method_14_code
def y_RM_form : MethodName := ⟨R_RM, "form", "()V"⟩
abbrev b_RM_compareRow : ByteArray := prog_7_method_15_code
def y_RM_compareRow : MethodName := ⟨R_RM, "compareRow", "(I)I"⟩
abbrev b_RM_isThere : ByteArray := prog_7_method_16_code
def y_RM_isThere : MethodName := ⟨R_RM, "isThere", "()Z"⟩
abbrev b_RM_isBad : ByteArray := prog_7_method_17_code
def y_RM_isBad : MethodName := ⟨R_RM, "isBad", "()Z"⟩
abbrev b_RM_come : ByteArray := prog_7_method_18_code
def y_RM_come : MethodName := ⟨R_RM, "come", "(II)V"⟩
abbrev b_RM_begin : ByteArray := prog_7_method_19_code
def y_RM_begin : MethodName := ⟨R_RM, "begin", "()V"⟩
abbrev b_RM_make : ByteArray := prog_7_method_20_code
def y_RM_make : MethodName := ⟨R_RM, "make", "(IIII)Z"⟩
abbrev b_RM_step : ByteArray := prog_7_method_21_code
def y_RM_step : MethodName := ⟨R_RM, "step", "(II)Z"⟩
abbrev b_RM_allSteps : ByteArray := prog_7_method_22_code
def y_RM_allSteps : MethodName := ⟨R_RM, "allSteps", "(III)I"⟩
abbrev b_RM_goThrough : ByteArray := prog_7_method_23_code
def y_RM_goThrough : MethodName := ⟨R_RM, "goThrough", "()V"⟩
abbrev b_RM_run : ByteArray := prog_7_method_24_code
def y_RM_run : MethodName := ⟨R_RM, "run", "()I"⟩
abbrev b_RM_go : ByteArray := prog_7_method_25_code
def y_RM_go : MethodName := ⟨R_RM, "go", "(I)I"⟩
abbrev b_RM_node : ByteArray := prog_7_method_26_code
def y_RM_node : MethodName := ⟨R_RM, "node", "(II)I"⟩
abbrev b_RM_code : ByteArray := prog_7_method_27_code
def y_RM_code : MethodName := ⟨R_RM, "code", "(II)I"⟩
abbrev b_RM_whole : ByteArray := prog_7_method_28_code
def y_RM_whole : MethodName := ⟨R_RM, "whole", "(II)I"⟩
abbrev b_RM_way : ByteArray := prog_7_method_29_code
def y_RM_way : MethodName := ⟨R_RM, "way", "()I"⟩
abbrev b_RM_wayAt : ByteArray := prog_7_method_30_code
def y_RM_wayAt : MethodName := ⟨R_RM, "wayAt", "(I)I"⟩
abbrev b_RM_greatestLevel : ByteArray := prog_7_method_31_code
def y_RM_greatestLevel : MethodName := ⟨R_RM, "greatestLevel", "()I"⟩
abbrev b_RM_sums : ByteArray := prog_7_method_32_code
def y_RM_sums : MethodName := ⟨R_RM, "sums", "()I"⟩
abbrev b_RM_count : ByteArray := prog_7_method_33_code
def y_RM_count : MethodName := ⟨R_RM, "count", "(I)I"⟩
abbrev b_La_cell : ByteArray := method_2_code
def y_La_cell : MethodName := ⟨R_La, "cell", "([II)I"⟩
abbrev b_La_state : ByteArray := method_3_code
def y_La_state : MethodName := ⟨R_La, "state", "(LStateExplore;[J)I"⟩
abbrev b_La_message : ByteArray := method_4_code
def y_La_message : MethodName := ⟨R_La, "message", "(LStateExplore;[J)I"⟩
abbrev b_La_rule : ByteArray := method_5_code
def y_La_rule : MethodName := ⟨R_La, "rule", "(LStateExplore;III[J)I"⟩
abbrev b_La_sends : ByteArray := method_6_code
def y_La_sends : MethodName := ⟨R_La, "sends", "(LStateExplore;III[J)I"⟩
abbrev b_La_bad : ByteArray := method_7_code
def y_La_bad : MethodName := ⟨R_La, "bad", "(LStateExplore;II[J)I"⟩
abbrev b_La_go : ByteArray := method_8_code
def y_La_go : MethodName := ⟨R_La, "go", "(LStateExplore;I[J)I"⟩
abbrev b_La_node : ByteArray := method_9_code
def y_La_node : MethodName := ⟨R_La, "node", "(LStateExplore;II[J)I"⟩
abbrev b_La_code : ByteArray := method_10_code
def y_La_code : MethodName := ⟨R_La, "code", "(LStateExplore;II[J)I"⟩
abbrev b_La_whole : ByteArray := method_11_code
def y_La_whole : MethodName := ⟨R_La, "whole", "(LStateExplore;II[J)I"⟩
abbrev b_La_wayAt : ByteArray := method_12_code
def y_La_wayAt : MethodName := ⟨R_La, "wayAt", "(LStateExplore;I[J)I"⟩
abbrev b_Ma_floorMod : ByteArray := prog_11_method_50_code
def y_Ma_floorMod : MethodName := ⟨R_Ma, "floorMod", "(II)I"⟩
abbrev b_Ar_fill : ByteArray := prog_17_method_103_code
def y_Ar_fill : MethodName := ⟨R_Ar, "fill", "([II)V"⟩
/-! ===== the words that stay ===== -/
def am_T : List Cond := lw_tbl.filter goodWord
theorem am_in {w : Cond} (i : Nat) (h : lw_tbl[i]? = some w) (hg : goodWord w = true) : w ∈ am_T := List.mem_filter.mpr ⟨List.mem_of_getElem? h, hg⟩
theorem am_ins {ws : List Cond} (h : ∀ w ∈ ws, w ∈ lw_tbl) (hg : ∀ w ∈ ws, goodWord w = true) : ∀ w ∈ ws, w ∈ am_T := fun w hw => List.mem_filter.mpr ⟨h w hw, hg w hw⟩
/-! ===== what stays of the start: private links of nest mates, the static table ===== -/
def am_NM : List (String × Nat × MethodName × String) := [("StateExplore$Draft", 35, ⟨"StateExplore", "numberingsOf", "(I)I"⟩, "StateExplore"), ("StateExplore$Draft", 42, ⟨"StateExplore", "stateIn", "(JI)I"⟩, "StateExplore"), ("StateExplore$Draft", 46, ⟨"StateExplore", "codesIn", "(J)I"⟩, "StateExplore"), ("StateExplore$Draft", 50, ⟨"StateExplore", "codeIn", "(JI)I"⟩, "StateExplore")]
def am_NF : List (String × Nat × String × String × String × String) := [("StateExplore$Draft", 63, "StateExplore", "NUMBERINGS", "[I", "StateExplore")]
def am_numL : List Nat := [12816, 12801, 12576, 12546, 12321, 12306, 8976, 8961, 8496, 8451, 8241, 8211, 4896, 4866, 4656, 4611, 4146, 4131, 801, 786, 561, 531, 306, 291]
def am_num (j : Nat) : Int32 := nI (am_numL.getD j 0)
def am_E (_ : Nat → Prop) (_ : State) : Prop := True
def am_F (A : Nat → Prop) (U : State) : Prop :=
  (∀ q ∈ am_NM, va_Nw (.methodLinkNest q.1 q.2.1 q.2.2.1 q.2.2.2) U) ∧ (∀ q ∈ am_NF, va_Nw (.fieldLinkNest q.1 q.2.1 q.2.2.1 q.2.2.2.1 q.2.2.2.2.1 q.2.2.2.2.2) U) ∧
  (∃ t : Nat, va_Z "StateExplore" "NUMBERINGS" "[I" (.ref t) A U U.heap ∧ va_T .int t 24 (fun j => .int (am_num j)) A U U.heap) ∧ am_E A U
theorem am_F.to {A B : Nat → Prop} {s U : State} (h : am_F A s) (hA : ∀ q, B q → A q) (hW : s.WarmedH U.vm) (hq : ∀ q, q < s.heap.size → ¬ A q → U.heap[q]? = s.heap[q]?) : am_F B U := by
  obtain ⟨h1, h2, ⟨t, hZ, hT⟩, h4⟩ := h
  refine ⟨fun q hq9 => va_Nw.warmM hW (h1 q hq9), fun q hq9 => va_Nw.warmF hW (h2 q hq9), ⟨t, ?_, ?_⟩, trivial⟩
  · exact ((va_Z.moved hW.alike hZ).kept hq).narrow hA
  · exact ((va_T.moved hW.alike hT).kept hq).narrow hA
theorem am_F.blind {A : Nat → Prop} {U V : State} (h : am_F A U) (hvm : U.vm = V.vm) (hh : U.heap = V.heap) : am_F A V := by
  obtain ⟨h1, h2, ⟨t, hZ, hT⟩, h4⟩ := h
  have ha : U.vm.Alike V.vm := hvm ▸ Vm.Alike.refl U.vm
  refine ⟨fun q hq9 => va_Nw.same rfl hvm (h1 q hq9), fun q hq9 => va_Nw.same rfl hvm (h2 q hq9), ⟨t, ?_, ?_⟩, trivial⟩
  · rw [← hh]; exact va_Z.moved ha hZ
  · rw [← hh]; exact va_T.moved ha hT
end
section
/-! ===== THE ABSTRACT MACHINE: values and cells by number; AW: from here the machine comes to Q ===== -/
abbrev am_V : Type := Int32 ⊕ (Int64 ⊕ Option Nat)
abbrev aI (x : Int32) : am_V := Sum.inl x
abbrev aL (x : Int64) : am_V := Sum.inr (Sum.inl x)
abbrev aR (k : Nat) : am_V := Sum.inr (Sum.inr (some k))
abbrev aN : am_V := Sum.inr (Sum.inr none)
def am_v (ad : Nat → Nat) (x : am_V) : Value := match x with
  | .inl x => .int x
  | .inr (.inl x) => .long x
  | .inr (.inr none) => .null
  | .inr (.inr (some k)) => .ref (ad k)
/-- a cell: an object (its class's number, its fields); an array (its type's number, its length, its contents) -/
abbrev am_C : Type := (Nat × List am_V) ⊕ (Nat × Nat × ((Nat → Int32) ⊕ (Nat → Int64)))
abbrev oC (ci : Nat) (fs : List am_V) : am_C := Sum.inl (ci, fs)
abbrev iC (n : Nat) (f : Nat → Int32) : am_C := Sum.inr (0, n, Sum.inl f)
abbrev zC (n : Nat) (f : Nat → Int32) : am_C := Sum.inr (2, n, Sum.inl f)
abbrev jC (n : Nat) (f : Nat → Int64) : am_C := Sum.inr (1, n, Sum.inr f)
def am_c (ad : Nat → Nat) (tc : Nat → ClassId) (c : am_C) : va_E := match c with
  | .inl (ci, fs) => .inr (ci, fs.map (am_v ad))
  | .inr (t, n, .inl f) => .inl (tc t, n, .inl f)
  | .inr (t, n, .inr f) => .inl (tc t, n, .inr (.inl f))
def am_w (ad : Nat → Nat) (tc : Nat → ClassId) (w : List am_C) : va_W := w.mapIdx (fun k c => (ad k, am_c ad tc c))
def am_tys (tc : Nat → ClassId) : List (ClassId × FieldType) := [(tc 0, .int), (tc 1, .long), (tc 2, .boolean)]
theorem am_w_at {ad : Nat → Nat} {tc : Nat → ClassId} {w : List am_C} {k : Nat} {c : am_C} (h : w[k]? = some c) : (am_w ad tc w)[k]? = some (ad k, am_c ad tc c) := by
  simp [am_w, h]
theorem am_w_of {ad : Nat → Nat} {tc : Nat → ClassId} {w : List am_C} {k : Nat} {q : Nat × va_E} (h : (am_w ad tc w)[k]? = some q) : ∃ c, w[k]? = some c ∧ q = (ad k, am_c ad tc c) := by
  simp only [am_w, List.getElem?_mapIdx] at h
  cases hc : w[k]? with
  | none => rw [hc] at h; cases h
  | some c => rw [hc] at h; exact ⟨c, rfl, (Option.some.inj h).symm⟩
theorem am_w_set (ad : Nat → Nat) (tc : Nat → ClassId) (w : List am_C) (k : Nat) (c : am_C) : am_w ad tc (w.set k c) = (am_w ad tc w).set k (ad k, am_c ad tc c) := by
  apply List.ext_getElem?
  intro i
  simp only [am_w, List.getElem?_mapIdx, List.getElem?_set, List.length_mapIdx]
  by_cases h : k = i
  · subst h
    by_cases h2 : k < w.length
    · simp [h2]
    · simp [h2]
  · simp [h]
theorem am_w_app (ad : Nat → Nat) (tc : Nat → ClassId) (w : List am_C) (c : am_C) : am_w ad tc (w ++ [c]) = am_w ad tc w ++ [(ad w.length, am_c ad tc c)] := by
  simp [am_w, List.mapIdx_append]
/-! locals: a list by places -/
def am_l (ad : Nat → Nat) : Nat → List (Option am_V) → List (Nat × Value)
  | _, [] => []
  | k, none :: r => am_l ad (k + 1) r
  | k, some v :: r => (k, am_v ad v) :: am_l ad (k + 1) r
theorem am_l_mem (ad : Nat → Nat) : ∀ (lv : List (Option am_V)) (k : Nat) (q : Nat × Value), q ∈ am_l ad k lv ↔ ∃ (i : Nat) (v : am_V), lv[i]? = some (some v) ∧ q = (k + i, am_v ad v) := by
  intro lv
  induction lv with
  | nil => intro k q; simp [am_l]
  | cons o r ih =>
    intro k q
    cases o with
    | none =>
      rw [am_l, ih]
      constructor
      · rintro ⟨i, v, h, e⟩
        exact ⟨i + 1, v, by simpa using h, by rw [e]; congr 1; omega⟩
      · rintro ⟨i, v, h, e⟩
        cases i with
        | zero => simp at h
        | succ i => exact ⟨i, v, by simpa using h, by rw [e]; congr 1; omega⟩
    | some x =>
      rw [am_l, List.mem_cons, ih]
      constructor
      · rintro (e | ⟨i, v, h, e⟩)
        · exact ⟨0, x, rfl, by rw [e]; rfl⟩
        · exact ⟨i + 1, v, by simpa using h, by rw [e]; congr 1; omega⟩
      · rintro ⟨i, v, h, e⟩
        cases i with
        | zero => simp at h; subst h; exact Or.inl e
        | succ i => exact Or.inr ⟨i, v, by simpa using h, by rw [e]; congr 1; omega⟩
theorem am_get {ad : Nat → Nat} {ls : Array Slot} {nL k : Nat} {lv : List (Option am_V)} {v : am_V} (h : lv_has ls nL (am_l ad 0 lv)) (hk : lv[k]? = some (some v)) : ls[k]? = some (.val (am_v ad v)) :=
  h.2.2 (k, am_v ad v) ((am_l_mem ad lv 0 _).mpr ⟨k, v, hk, by simp⟩)
theorem am_less {ad : Nat → Nat} {ls : Array Slot} {nL : Nat} {l : List (Nat × Value)} {lv : List (Option am_V)} (h : lv_has ls nL l) (hs : ∀ (i : Nat) (v : am_V), lv[i]? = some (some v) → (i, am_v ad v) ∈ l) : lv_has ls nL (am_l ad 0 lv) :=
  ⟨h.1, h.2.1, fun q hq => by
    obtain ⟨i, v, hi, rfl⟩ := (am_l_mem ad lv 0 q).mp hq
    have := h.2.2 _ (hs i v hi)
    simpa using this⟩
def am_kl (lv : List (Option am_V)) : Nat → List (Option am_V)
  | 0 => lv
  | j + 1 => match lv[j]? with
    | some (some (.inr (.inl _))) => lv.set j none
    | _ => lv
theorem am_kl_at {lv : List (Option am_V)} {i j : Nat} {x : am_V} (h : (am_kl lv i)[j]? = some (some x)) : lv[j]? = some (some x) ∧ (j + 1 = i → ∀ y, x ≠ .inr (.inl y)) := by
  cases i with
  | zero => exact ⟨h, fun q => absurd q (by omega)⟩
  | succ k =>
    simp only [am_kl] at h
    split at h
    · next y hy =>
      by_cases hj : j = k
      · subst hj
        have hlt : j < lv.length := (List.getElem?_eq_some_iff.mp hy).1
        rw [List.getElem?_set_self hlt] at h
        cases h
      · rw [List.getElem?_set_ne (fun q => hj q.symm)] at h
        exact ⟨h, fun q => absurd q (by omega)⟩
    · next hn =>
      refine ⟨h, fun q y hx => ?_⟩
      have e : j = k := by omega
      subst e
      subst hx
      exact hn y h
def am_s1 (lv : List (Option am_V)) (i : Nat) (v : am_V) : List (Option am_V) := (am_kl lv i).set i (some v)
def am_s2 (lv : List (Option am_V)) (i : Nat) (v : am_V) : List (Option am_V) := ((am_kl lv i).set i (some v)).set (i + 1) none
theorem am_cat {ad : Nat → Nat} {x : am_V} (h : (am_v ad x).category = 2) : ∃ y, x = .inr (.inl y) := by
  rcases x with x | x | _ | k
  · simp [am_v, Value.category] at h
  · exact ⟨x, rfl⟩
  · simp [am_v, Value.category] at h
  · simp [am_v, Value.category] at h
theorem am_put1 {ad : Nat → Nat} {ls : Array Slot} {nL i : Nat} {lv : List (Option am_V)} {v : am_V} (h : lv_has ls nL ((i, am_v ad v) :: (am_l ad 0 lv).filter (fun q => !(q.1 == i) && !(q.1 + 1 == i && q.2.category == 2)))) : lv_has ls nL (am_l ad 0 (am_s1 lv i v)) := by
  refine am_less h fun j x hj => ?_
  by_cases e : j = i
  · subst e
    unfold am_s1 at hj
    have hlt : j < (am_kl lv j).length := by
      have := (List.getElem?_eq_some_iff.mp hj).1
      simpa using this
    rw [List.getElem?_set_self hlt] at hj
    cases hj
    exact List.mem_cons_self
  · unfold am_s1 at hj
    rw [List.getElem?_set_ne (fun q => e q.symm)] at hj
    obtain ⟨h1, h2⟩ := am_kl_at hj
    refine List.mem_cons_of_mem _ (List.mem_filter.mpr ⟨(am_l_mem ad lv 0 _).mpr ⟨j, x, h1, by simp⟩, ?_⟩)
    have hc : ¬ (j + 1 = i ∧ (am_v ad x).category = 2) := fun ⟨q1, q2⟩ => by
      obtain ⟨y, hy⟩ := am_cat q2
      exact h2 q1 y hy
    simp only [Bool.and_eq_true, Bool.not_eq_true', beq_eq_false_iff_ne, Bool.and_eq_false_iff]
    refine ⟨e, ?_⟩
    by_cases q1 : j + 1 = i
    · exact Or.inr (fun q2 => hc ⟨q1, q2⟩)
    · exact Or.inl q1
theorem am_put2 {ad : Nat → Nat} {ls : Array Slot} {nL i : Nat} {lv : List (Option am_V)} {v : am_V} (h : lv_has ls nL ((i, am_v ad v) :: (am_l ad 0 lv).filter (fun q => !(q.1 == i) && (!(q.1 == i + 1) && !(q.1 + 1 == i && q.2.category == 2))))) : lv_has ls nL (am_l ad 0 (am_s2 lv i v)) := by
  refine am_less h fun j x hj => ?_
  unfold am_s2 at hj
  by_cases e0 : j = i + 1
  · subst e0
    have hlt : i + 1 < ((am_kl lv i).set i (some v)).length := by
      have := (List.getElem?_eq_some_iff.mp hj).1
      simpa using this
    rw [List.getElem?_set_self hlt] at hj
    cases hj
  rw [List.getElem?_set_ne (fun q => e0 q.symm)] at hj
  by_cases e : j = i
  · subst e
    have hlt : j < (am_kl lv j).length := by
      have := (List.getElem?_eq_some_iff.mp hj).1
      simpa using this
    rw [List.getElem?_set_self hlt] at hj
    cases hj
    exact List.mem_cons_self
  · rw [List.getElem?_set_ne (fun q => e q.symm)] at hj
    obtain ⟨h1, h2⟩ := am_kl_at hj
    refine List.mem_cons_of_mem _ (List.mem_filter.mpr ⟨(am_l_mem ad lv 0 _).mpr ⟨j, x, h1, by simp⟩, ?_⟩)
    have hc : ¬ (j + 1 = i ∧ (am_v ad x).category = 2) := fun ⟨q1, q2⟩ => by
      obtain ⟨y, hy⟩ := am_cat q2
      exact h2 q1 y hy
    simp only [Bool.and_eq_true, Bool.not_eq_true', beq_eq_false_iff_ne, Bool.and_eq_false_iff]
    refine ⟨e, e0, ?_⟩
    by_cases q1 : j + 1 = i
    · exact Or.inr (fun q2 => hc ⟨q1, q2⟩)
    · exact Or.inl q1
/-- the locals at a method's entry -/
def am_ea : List am_V → List (Option am_V)
  | [] => []
  | .inr (.inl x) :: r => some (.inr (.inl x)) :: none :: am_ea r
  | .inl x :: r => some (.inl x) :: am_ea r
  | .inr (.inr x) :: r => some (.inr (.inr x)) :: am_ea r
def am_en (av : List am_V) (n : Nat) : List (Option am_V) := am_ea av ++ List.replicate (n - (am_ea av).length) none
theorem am_l_none (ad : Nat → Nat) : ∀ (n k : Nat), am_l ad k (List.replicate n none) = [] := by
  intro n
  induction n with
  | zero => intro k; rfl
  | succ n ih => intro k; rw [List.replicate_succ, am_l, ih]
theorem am_en_l (ad : Nat → Nat) (n : Nat) : ∀ (av : List am_V) (k : Nat), am_l ad k (am_ea av ++ List.replicate n none) = lv_args k (av.map (am_v ad)) := by
  intro av
  induction av with
  | nil => intro k; simp only [am_ea, List.nil_append, List.map_nil, lv_args]; exact am_l_none ad n k
  | cons v r ih =>
    intro k
    rcases v with x | x | x
    · simp only [am_ea, List.cons_append, am_l, List.map_cons, lv_args]
      rw [ih]
      rfl
    · simp only [am_ea, List.cons_append, am_l, List.map_cons, lv_args]
      rw [ih]
      rfl
    · simp only [am_ea, List.cons_append, am_l, List.map_cons, lv_args]
      rw [ih]
      cases x <;> rfl
theorem am_ea_len (ad : Nat → Nat) : ∀ (av : List am_V), (lg_sl (av.map (am_v ad))).length = (am_ea av).length := by
  intro av
  induction av with
  | nil => rfl
  | cons v r ih =>
    have e : ∀ (a : Value) (q : List Value), lg_sl (a :: q) = (if a.category = 2 then [.val a, .second] else [.val a]) ++ lg_sl q := fun a q => rfl
    rw [List.map_cons, e]
    rcases v with x | x | _ | x
    · simp [am_ea, ih, am_v, Value.category]
    · simp [am_ea, ih, am_v, Value.category]
    · simp [am_ea, ih, am_v, Value.category]
    · simp [am_ea, ih, am_v, Value.category]
theorem am_entry (ad : Nat → Nat) (av : List am_V) {n : Nat} (h : (am_ea av).length ≤ n) : lv_has ((lg_sl (av.map (am_v ad)) ++ List.replicate (n - (lg_sl (av.map (am_v ad))).length) Slot.unset).toArray) n (am_l ad 0 (am_en av n)) := by
  have h1 := lv_entry (av.map (am_v ad)) (n := n) (by rw [am_ea_len]; exact h)
  unfold am_en
  rw [am_en_l]
  exact h1
def am_kls (lv : List (Option am_V)) : List Nat → List (Option am_V)
  | [] => lv
  | i :: r => (am_kls lv r).set i none
theorem am_kls_at {lv : List (Option am_V)} : ∀ {r : List Nat} {j : Nat} {x : am_V}, (am_kls lv r)[j]? = some (some x) → lv[j]? = some (some x) := by
  intro r
  induction r with
  | nil => intro j x h; exact h
  | cons i r ih =>
    intro j x h
    unfold am_kls at h
    by_cases e : j = i
    · subst e
      rw [List.getElem?_set] at h
      simp at h
    · rw [List.getElem?_set_ne (fun q => e q.symm)] at h
      exact ih h
/-! the context: machine, method, world's tables, what it may change, whose addresses, how much it may make -/
abbrev am_X : Type := Program × Launch × Env × Room × State × MethodId × Array Value × List Frame × Method × Code × (State → Prop) × va_G × (Nat → ClassId) × (Nat → Prop) × ((Nat → Nat) → Prop) × Nat × Nat × Nat
def AW (X : am_X) (pc : Nat) (lv : List (Option am_V)) (stk : List am_V) (w : List am_C) (bc bs : Nat) : Prop := match X with
  | (p, l, e, R, s, m, args, below, meth, c, Q, D, tc, A, G, mc, ms, nL) =>
    ∀ (ad : Nat → Nat) (H : Heap) (locs : List Loc) (cells slots : Nat) (ls : Array Slot), G ad → va_P D classes (am_w ad tc w) H → va_D A (am_w ad tc w) → va_S A s.heap H locs → lv_has ls nL (am_l ad 0 lv) → cells + bc ≤ mc → slots + bs ≤ ms →
      W p l e R s m args below meth c H locs cells slots Q (F0 m pc ls (stk.map (am_v ad)))
def am_ok (X : am_X) (cc : ByteArray) (own : String) (nl dd : Nat) : Prop := match X with
  | (p, l, e, R, s, m, args, below, meth, c, Q, D, tc, A, G, mc, ms, nL) =>
    p.tables.exec = Jvm.exec ∧ c.code = cc ∧ (c.maxLocals = nL ∧ nL = nl) ∧ s.vm.findClass own = some m.cls ∧ (∀ w ∈ am_T, w.before args s = true) ∧ va_K D classes (am_tys tc) s ∧ mc ≤ R.cells ∧ ms ≤ R.slots ∧ (∀ q, s.heap.size ≤ q → A q) ∧ meth.locks = false ∧ am_F A s ∧ dd ≤ R.frames ∧ 40 * dd ≤ R.locals ∧ l.stackTraces = false
section AM
variable {X : am_X} {cc : ByteArray} {own : String} {nl dd pc n bc bs : Nat} {lv : List (Option am_V)} {r : List am_V} {w : List am_C}
theorem aw_less (ks : List Nat) {lv' : List (Option am_V)} (h : am_kls lv ks = lv') (k : AW X pc lv' r w bc bs) : AW X pc lv r w bc bs := by
  obtain ⟨p, l, e, R, s, m, args, below, meth, c, Q, D, tc, A, G, mc, ms, nL⟩ := X
  subst h
  intro ad H locs cells slots ls hG hP hD hS hl hc hs
  exact k ad H locs cells slots ls hG hP hD hS (am_less hl fun i v hi => (am_l_mem ad lv 0 _).mpr ⟨i, v, am_kls_at hi, by simp⟩) hc hs
theorem aw_bud {bc' bs' : Nat} (h1 : bc' ≤ bc) (h2 : bs' ≤ bs) (k : AW X pc lv r w bc' bs') : AW X pc lv r w bc bs := by
  obtain ⟨p, l, e, R, s, m, args, below, meth, c, Q, D, tc, A, G, mc, ms, nL⟩ := X
  intro ad H locs cells slots ls hG hP hD hS hl hc hs
  exact k ad H locs cells slots ls hG hP hD hS hl (by omega) (by omega)

theorem aw_iadd (K : am_ok X cc own nl dd) {x y : Int32} (d : decode cc pc = .ok (.iadd, 1)) (hn : pc + 1 = n) 
    (k : AW X n lv (aI (x + y) :: r) w bc bs) : AW X pc lv (aI y :: aI x :: r) w bc bs := by
  obtain ⟨p, l, e, R, s, m, args, below, meth, c, Q, D, tc, A, G, mc, ms, nL⟩ := X
  obtain ⟨hx, hb, ⟨hml, rfl⟩, hown, hts, hK, hmc, hms, hA, hlk, hF, hfr, hlo, htr⟩ := K
  subst hn
  intro ad H locs cells slots ls hG hP hD hS hl hc hs
  exact lv_iadd hx hb d (k ad H locs cells slots ls hG hP hD hS hl hc hs)
theorem aw_isub (K : am_ok X cc own nl dd) {x y : Int32} (d : decode cc pc = .ok (.isub, 1)) (hn : pc + 1 = n) 
    (k : AW X n lv (aI (x - y) :: r) w bc bs) : AW X pc lv (aI y :: aI x :: r) w bc bs := by
  obtain ⟨p, l, e, R, s, m, args, below, meth, c, Q, D, tc, A, G, mc, ms, nL⟩ := X
  obtain ⟨hx, hb, ⟨hml, rfl⟩, hown, hts, hK, hmc, hms, hA, hlk, hF, hfr, hlo, htr⟩ := K
  subst hn
  intro ad H locs cells slots ls hG hP hD hS hl hc hs
  exact lv_isub hx hb d (k ad H locs cells slots ls hG hP hD hS hl hc hs)
theorem aw_imul (K : am_ok X cc own nl dd) {x y : Int32} (d : decode cc pc = .ok (.imul, 1)) (hn : pc + 1 = n) 
    (k : AW X n lv (aI (x * y) :: r) w bc bs) : AW X pc lv (aI y :: aI x :: r) w bc bs := by
  obtain ⟨p, l, e, R, s, m, args, below, meth, c, Q, D, tc, A, G, mc, ms, nL⟩ := X
  obtain ⟨hx, hb, ⟨hml, rfl⟩, hown, hts, hK, hmc, hms, hA, hlk, hF, hfr, hlo, htr⟩ := K
  subst hn
  intro ad H locs cells slots ls hG hP hD hS hl hc hs
  exact lv_imul hx hb d (k ad H locs cells slots ls hG hP hD hS hl hc hs)
theorem aw_iand (K : am_ok X cc own nl dd) {x y : Int32} (d : decode cc pc = .ok (.iand, 1)) (hn : pc + 1 = n) 
    (k : AW X n lv (aI (x &&& y) :: r) w bc bs) : AW X pc lv (aI y :: aI x :: r) w bc bs := by
  obtain ⟨p, l, e, R, s, m, args, below, meth, c, Q, D, tc, A, G, mc, ms, nL⟩ := X
  obtain ⟨hx, hb, ⟨hml, rfl⟩, hown, hts, hK, hmc, hms, hA, hlk, hF, hfr, hlo, htr⟩ := K
  subst hn
  intro ad H locs cells slots ls hG hP hD hS hl hc hs
  exact lv_iand hx hb d (k ad H locs cells slots ls hG hP hD hS hl hc hs)
theorem aw_ior (K : am_ok X cc own nl dd) {x y : Int32} (d : decode cc pc = .ok (.ior, 1)) (hn : pc + 1 = n) 
    (k : AW X n lv (aI (x ||| y) :: r) w bc bs) : AW X pc lv (aI y :: aI x :: r) w bc bs := by
  obtain ⟨p, l, e, R, s, m, args, below, meth, c, Q, D, tc, A, G, mc, ms, nL⟩ := X
  obtain ⟨hx, hb, ⟨hml, rfl⟩, hown, hts, hK, hmc, hms, hA, hlk, hF, hfr, hlo, htr⟩ := K
  subst hn
  intro ad H locs cells slots ls hG hP hD hS hl hc hs
  exact lv_ior hx hb d (k ad H locs cells slots ls hG hP hD hS hl hc hs)
theorem aw_ixor (K : am_ok X cc own nl dd) {x y : Int32} (d : decode cc pc = .ok (.ixor, 1)) (hn : pc + 1 = n) 
    (k : AW X n lv (aI (x ^^^ y) :: r) w bc bs) : AW X pc lv (aI y :: aI x :: r) w bc bs := by
  obtain ⟨p, l, e, R, s, m, args, below, meth, c, Q, D, tc, A, G, mc, ms, nL⟩ := X
  obtain ⟨hx, hb, ⟨hml, rfl⟩, hown, hts, hK, hmc, hms, hA, hlk, hF, hfr, hlo, htr⟩ := K
  subst hn
  intro ad H locs cells slots ls hG hP hD hS hl hc hs
  exact lv_ixor hx hb d (k ad H locs cells slots ls hG hP hD hS hl hc hs)
theorem aw_ishl (K : am_ok X cc own nl dd) {x y : Int32} (d : decode cc pc = .ok (.ishl, 1)) (hn : pc + 1 = n) 
    (k : AW X n lv (aI (x <<< (y &&& 31)) :: r) w bc bs) : AW X pc lv (aI y :: aI x :: r) w bc bs := by
  obtain ⟨p, l, e, R, s, m, args, below, meth, c, Q, D, tc, A, G, mc, ms, nL⟩ := X
  obtain ⟨hx, hb, ⟨hml, rfl⟩, hown, hts, hK, hmc, hms, hA, hlk, hF, hfr, hlo, htr⟩ := K
  subst hn
  intro ad H locs cells slots ls hG hP hD hS hl hc hs
  exact lv_ishl hx hb d (k ad H locs cells slots ls hG hP hD hS hl hc hs)
theorem aw_ishr (K : am_ok X cc own nl dd) {x y : Int32} (d : decode cc pc = .ok (.ishr, 1)) (hn : pc + 1 = n) 
    (k : AW X n lv (aI (x >>> (y &&& 31)) :: r) w bc bs) : AW X pc lv (aI y :: aI x :: r) w bc bs := by
  obtain ⟨p, l, e, R, s, m, args, below, meth, c, Q, D, tc, A, G, mc, ms, nL⟩ := X
  obtain ⟨hx, hb, ⟨hml, rfl⟩, hown, hts, hK, hmc, hms, hA, hlk, hF, hfr, hlo, htr⟩ := K
  subst hn
  intro ad H locs cells slots ls hG hP hD hS hl hc hs
  exact lv_ishr hx hb d (k ad H locs cells slots ls hG hP hD hS hl hc hs)
theorem aw_idiv (K : am_ok X cc own nl dd) {x y : Int32} (d : decode cc pc = .ok (.idiv, 1)) (hn : pc + 1 = n) (h0 : ¬ y = 0)
    (k : AW X n lv (aI (x / y) :: r) w bc bs) : AW X pc lv (aI y :: aI x :: r) w bc bs := by
  obtain ⟨p, l, e, R, s, m, args, below, meth, c, Q, D, tc, A, G, mc, ms, nL⟩ := X
  obtain ⟨hx, hb, ⟨hml, rfl⟩, hown, hts, hK, hmc, hms, hA, hlk, hF, hfr, hlo, htr⟩ := K
  subst hn
  intro ad H locs cells slots ls hG hP hD hS hl hc hs
  exact lv_idiv hx hb d h0 (k ad H locs cells slots ls hG hP hD hS hl hc hs)
theorem aw_irem (K : am_ok X cc own nl dd) {x y : Int32} (d : decode cc pc = .ok (.irem, 1)) (hn : pc + 1 = n) (h0 : ¬ y = 0)
    (k : AW X n lv (aI (x - x / y * y) :: r) w bc bs) : AW X pc lv (aI y :: aI x :: r) w bc bs := by
  obtain ⟨p, l, e, R, s, m, args, below, meth, c, Q, D, tc, A, G, mc, ms, nL⟩ := X
  obtain ⟨hx, hb, ⟨hml, rfl⟩, hown, hts, hK, hmc, hms, hA, hlk, hF, hfr, hlo, htr⟩ := K
  subst hn
  intro ad H locs cells slots ls hG hP hD hS hl hc hs
  exact lv_irem hx hb d h0 (k ad H locs cells slots ls hG hP hD hS hl hc hs)
theorem aw_ineg (K : am_ok X cc own nl dd) {x : Int32} (d : decode cc pc = .ok (.ineg, 1)) (hn : pc + 1 = n) 
    (k : AW X n lv (aI (-x) :: r) w bc bs) : AW X pc lv (aI x :: r) w bc bs := by
  obtain ⟨p, l, e, R, s, m, args, below, meth, c, Q, D, tc, A, G, mc, ms, nL⟩ := X
  obtain ⟨hx, hb, ⟨hml, rfl⟩, hown, hts, hK, hmc, hms, hA, hlk, hF, hfr, hlo, htr⟩ := K
  subst hn
  intro ad H locs cells slots ls hG hP hD hS hl hc hs
  exact lv_ineg hx hb d (k ad H locs cells slots ls hG hP hD hS hl hc hs)
theorem aw_iushr (K : am_ok X cc own nl dd) {x y : Int32} (d : decode cc pc = .ok (.iushr, 1)) (hn : pc + 1 = n) 
    (k : AW X n lv (aI (x.toUInt32 >>> (y.toUInt32 &&& Int32.toUInt32 31)).toInt32 :: r) w bc bs) : AW X pc lv (aI y :: aI x :: r) w bc bs := by
  obtain ⟨p, l, e, R, s, m, args, below, meth, c, Q, D, tc, A, G, mc, ms, nL⟩ := X
  obtain ⟨hx, hb, ⟨hml, rfl⟩, hown, hts, hK, hmc, hms, hA, hlk, hF, hfr, hlo, htr⟩ := K
  subst hn
  intro ad H locs cells slots ls hG hP hD hS hl hc hs
  exact lv_iushr hx hb d rfl (k ad H locs cells slots ls hG hP hD hS hl hc hs)
theorem aw_ladd (K : am_ok X cc own nl dd) {x y : Int64} (d : decode cc pc = .ok (.ladd, 1)) (hn : pc + 1 = n) 
    (k : AW X n lv (aL (x + y) :: r) w bc bs) : AW X pc lv (aL y :: aL x :: r) w bc bs := by
  obtain ⟨p, l, e, R, s, m, args, below, meth, c, Q, D, tc, A, G, mc, ms, nL⟩ := X
  obtain ⟨hx, hb, ⟨hml, rfl⟩, hown, hts, hK, hmc, hms, hA, hlk, hF, hfr, hlo, htr⟩ := K
  subst hn
  intro ad H locs cells slots ls hG hP hD hS hl hc hs
  exact lv_ladd hx hb d (k ad H locs cells slots ls hG hP hD hS hl hc hs)
theorem aw_lsub (K : am_ok X cc own nl dd) {x y : Int64} (d : decode cc pc = .ok (.lsub, 1)) (hn : pc + 1 = n) 
    (k : AW X n lv (aL (x - y) :: r) w bc bs) : AW X pc lv (aL y :: aL x :: r) w bc bs := by
  obtain ⟨p, l, e, R, s, m, args, below, meth, c, Q, D, tc, A, G, mc, ms, nL⟩ := X
  obtain ⟨hx, hb, ⟨hml, rfl⟩, hown, hts, hK, hmc, hms, hA, hlk, hF, hfr, hlo, htr⟩ := K
  subst hn
  intro ad H locs cells slots ls hG hP hD hS hl hc hs
  exact lv_lsub hx hb d (k ad H locs cells slots ls hG hP hD hS hl hc hs)
theorem aw_lmul (K : am_ok X cc own nl dd) {x y : Int64} (d : decode cc pc = .ok (.lmul, 1)) (hn : pc + 1 = n) 
    (k : AW X n lv (aL (x * y) :: r) w bc bs) : AW X pc lv (aL y :: aL x :: r) w bc bs := by
  obtain ⟨p, l, e, R, s, m, args, below, meth, c, Q, D, tc, A, G, mc, ms, nL⟩ := X
  obtain ⟨hx, hb, ⟨hml, rfl⟩, hown, hts, hK, hmc, hms, hA, hlk, hF, hfr, hlo, htr⟩ := K
  subst hn
  intro ad H locs cells slots ls hG hP hD hS hl hc hs
  exact lv_lmul hx hb d (k ad H locs cells slots ls hG hP hD hS hl hc hs)
theorem aw_land (K : am_ok X cc own nl dd) {x y : Int64} (d : decode cc pc = .ok (.land, 1)) (hn : pc + 1 = n) 
    (k : AW X n lv (aL (x &&& y) :: r) w bc bs) : AW X pc lv (aL y :: aL x :: r) w bc bs := by
  obtain ⟨p, l, e, R, s, m, args, below, meth, c, Q, D, tc, A, G, mc, ms, nL⟩ := X
  obtain ⟨hx, hb, ⟨hml, rfl⟩, hown, hts, hK, hmc, hms, hA, hlk, hF, hfr, hlo, htr⟩ := K
  subst hn
  intro ad H locs cells slots ls hG hP hD hS hl hc hs
  exact lv_land hx hb d (k ad H locs cells slots ls hG hP hD hS hl hc hs)
theorem aw_lor (K : am_ok X cc own nl dd) {x y : Int64} (d : decode cc pc = .ok (.lor, 1)) (hn : pc + 1 = n) 
    (k : AW X n lv (aL (x ||| y) :: r) w bc bs) : AW X pc lv (aL y :: aL x :: r) w bc bs := by
  obtain ⟨p, l, e, R, s, m, args, below, meth, c, Q, D, tc, A, G, mc, ms, nL⟩ := X
  obtain ⟨hx, hb, ⟨hml, rfl⟩, hown, hts, hK, hmc, hms, hA, hlk, hF, hfr, hlo, htr⟩ := K
  subst hn
  intro ad H locs cells slots ls hG hP hD hS hl hc hs
  exact lv_lor hx hb d (k ad H locs cells slots ls hG hP hD hS hl hc hs)
theorem aw_lxor (K : am_ok X cc own nl dd) {x y : Int64} (d : decode cc pc = .ok (.lxor, 1)) (hn : pc + 1 = n) 
    (k : AW X n lv (aL (x ^^^ y) :: r) w bc bs) : AW X pc lv (aL y :: aL x :: r) w bc bs := by
  obtain ⟨p, l, e, R, s, m, args, below, meth, c, Q, D, tc, A, G, mc, ms, nL⟩ := X
  obtain ⟨hx, hb, ⟨hml, rfl⟩, hown, hts, hK, hmc, hms, hA, hlk, hF, hfr, hlo, htr⟩ := K
  subst hn
  intro ad H locs cells slots ls hG hP hD hS hl hc hs
  exact lv_lxor hx hb d (k ad H locs cells slots ls hG hP hD hS hl hc hs)
theorem aw_lshl (K : am_ok X cc own nl dd) {x : Int64} {y : Int32} (d : decode cc pc = .ok (.lshl, 1)) (hn : pc + 1 = n) 
    (k : AW X n lv (aL (x <<< (y.toInt64 &&& 63)) :: r) w bc bs) : AW X pc lv (aI y :: aL x :: r) w bc bs := by
  obtain ⟨p, l, e, R, s, m, args, below, meth, c, Q, D, tc, A, G, mc, ms, nL⟩ := X
  obtain ⟨hx, hb, ⟨hml, rfl⟩, hown, hts, hK, hmc, hms, hA, hlk, hF, hfr, hlo, htr⟩ := K
  subst hn
  intro ad H locs cells slots ls hG hP hD hS hl hc hs
  exact lv_lshl hx hb d rfl (k ad H locs cells slots ls hG hP hD hS hl hc hs)
theorem aw_lshr (K : am_ok X cc own nl dd) {x : Int64} {y : Int32} (d : decode cc pc = .ok (.lshr, 1)) (hn : pc + 1 = n) 
    (k : AW X n lv (aL (x >>> (y.toInt64 &&& 63)) :: r) w bc bs) : AW X pc lv (aI y :: aL x :: r) w bc bs := by
  obtain ⟨p, l, e, R, s, m, args, below, meth, c, Q, D, tc, A, G, mc, ms, nL⟩ := X
  obtain ⟨hx, hb, ⟨hml, rfl⟩, hown, hts, hK, hmc, hms, hA, hlk, hF, hfr, hlo, htr⟩ := K
  subst hn
  intro ad H locs cells slots ls hG hP hD hS hl hc hs
  exact lv_lshr hx hb d rfl (k ad H locs cells slots ls hG hP hD hS hl hc hs)
theorem aw_lushr (K : am_ok X cc own nl dd) {x : Int64} {y : Int32} (d : decode cc pc = .ok (.lushr, 1)) (hn : pc + 1 = n) 
    (k : AW X n lv (aL (x.toUInt64 >>> (y.toInt64.toUInt64 &&& Int64.toUInt64 63)).toInt64 :: r) w bc bs) : AW X pc lv (aI y :: aL x :: r) w bc bs := by
  obtain ⟨p, l, e, R, s, m, args, below, meth, c, Q, D, tc, A, G, mc, ms, nL⟩ := X
  obtain ⟨hx, hb, ⟨hml, rfl⟩, hown, hts, hK, hmc, hms, hA, hlk, hF, hfr, hlo, htr⟩ := K
  subst hn
  intro ad H locs cells slots ls hG hP hD hS hl hc hs
  exact lv_lushr hx hb d rfl (k ad H locs cells slots ls hG hP hD hS hl hc hs)
theorem aw_lcmp (K : am_ok X cc own nl dd) {x y : Int64} (d : decode cc pc = .ok (.lcmp, 1)) (hn : pc + 1 = n) 
    (k : AW X n lv (aI (lg_cmp x y) :: r) w bc bs) : AW X pc lv (aL y :: aL x :: r) w bc bs := by
  obtain ⟨p, l, e, R, s, m, args, below, meth, c, Q, D, tc, A, G, mc, ms, nL⟩ := X
  obtain ⟨hx, hb, ⟨hml, rfl⟩, hown, hts, hK, hmc, hms, hA, hlk, hF, hfr, hlo, htr⟩ := K
  subst hn
  intro ad H locs cells slots ls hG hP hD hS hl hc hs
  exact W.lcmp hx hb d (k ad H locs cells slots ls hG hP hD hS hl hc hs)
theorem aw_i2l (K : am_ok X cc own nl dd) {x : Int32} (d : decode cc pc = .ok (.i2l, 1)) (hn : pc + 1 = n) 
    (k : AW X n lv (aL x.toInt64 :: r) w bc bs) : AW X pc lv (aI x :: r) w bc bs := by
  obtain ⟨p, l, e, R, s, m, args, below, meth, c, Q, D, tc, A, G, mc, ms, nL⟩ := X
  obtain ⟨hx, hb, ⟨hml, rfl⟩, hown, hts, hK, hmc, hms, hA, hlk, hF, hfr, hlo, htr⟩ := K
  subst hn
  intro ad H locs cells slots ls hG hP hD hS hl hc hs
  exact lv_i2l hx hb d rfl (k ad H locs cells slots ls hG hP hD hS hl hc hs)
theorem aw_l2i (K : am_ok X cc own nl dd) {x : Int64} (d : decode cc pc = .ok (.l2i, 1)) (hn : pc + 1 = n) 
    (k : AW X n lv (aI x.toInt32 :: r) w bc bs) : AW X pc lv (aL x :: r) w bc bs := by
  obtain ⟨p, l, e, R, s, m, args, below, meth, c, Q, D, tc, A, G, mc, ms, nL⟩ := X
  obtain ⟨hx, hb, ⟨hml, rfl⟩, hown, hts, hK, hmc, hms, hA, hlk, hF, hfr, hlo, htr⟩ := K
  subst hn
  intro ad H locs cells slots ls hG hP hD hS hl hc hs
  exact lv_l2i hx hb d rfl (k ad H locs cells slots ls hG hP hD hS hl hc hs)
theorem aw_iconst (K : am_ok X cc own nl dd) {z : Int} {v : Int32} (d : decode cc pc = .ok (.iconst z, 1)) (hn : pc + 1 = n) (hv : Int32.ofInt z = v)
    (k : AW X n lv (aI v :: r) w bc bs) : AW X pc lv (r) w bc bs := by
  obtain ⟨p, l, e, R, s, m, args, below, meth, c, Q, D, tc, A, G, mc, ms, nL⟩ := X
  obtain ⟨hx, hb, ⟨hml, rfl⟩, hown, hts, hK, hmc, hms, hA, hlk, hF, hfr, hlo, htr⟩ := K
  subst hn
  intro ad H locs cells slots ls hG hP hD hS hl hc hs
  exact lv_iconst hx hb d hv (k ad H locs cells slots ls hG hP hD hS hl hc hs)
theorem aw_bipush (K : am_ok X cc own nl dd) {z : Int} {v : Int32} (d : decode cc pc = .ok (.bipush z, 2)) (hn : pc + 2 = n) (hv : (Int8.ofInt z).toInt32 = v)
    (k : AW X n lv (aI v :: r) w bc bs) : AW X pc lv (r) w bc bs := by
  obtain ⟨p, l, e, R, s, m, args, below, meth, c, Q, D, tc, A, G, mc, ms, nL⟩ := X
  obtain ⟨hx, hb, ⟨hml, rfl⟩, hown, hts, hK, hmc, hms, hA, hlk, hF, hfr, hlo, htr⟩ := K
  subst hn
  intro ad H locs cells slots ls hG hP hD hS hl hc hs
  exact lv_bipush hx hb d hv (k ad H locs cells slots ls hG hP hD hS hl hc hs)
theorem aw_sipush (K : am_ok X cc own nl dd) {z : Int} {v : Int32} (d : decode cc pc = .ok (.sipush z, 3)) (hn : pc + 3 = n) (hv : (Int16.ofInt z).toInt32 = v)
    (k : AW X n lv (aI v :: r) w bc bs) : AW X pc lv (r) w bc bs := by
  obtain ⟨p, l, e, R, s, m, args, below, meth, c, Q, D, tc, A, G, mc, ms, nL⟩ := X
  obtain ⟨hx, hb, ⟨hml, rfl⟩, hown, hts, hK, hmc, hms, hA, hlk, hF, hfr, hlo, htr⟩ := K
  subst hn
  intro ad H locs cells slots ls hG hP hD hS hl hc hs
  exact lv_sipush hx hb d hv (k ad H locs cells slots ls hG hP hD hS hl hc hs)
theorem aw_lconst (K : am_ok X cc own nl dd) {z : Fin 2} {v : Int64} (d : decode cc pc = .ok (.lconst z, 1)) (hn : pc + 1 = n) (hv : Int64.ofNat (z : Nat) = v)
    (k : AW X n lv (aL v :: r) w bc bs) : AW X pc lv (r) w bc bs := by
  obtain ⟨p, l, e, R, s, m, args, below, meth, c, Q, D, tc, A, G, mc, ms, nL⟩ := X
  obtain ⟨hx, hb, ⟨hml, rfl⟩, hown, hts, hK, hmc, hms, hA, hlk, hF, hfr, hlo, htr⟩ := K
  subst hn
  intro ad H locs cells slots ls hG hP hD hS hl hc hs
  exact lv_lconst hx hb d hv (k ad H locs cells slots ls hG hP hD hS hl hc hs)
theorem aw_ldc (K : am_ok X cc own nl dd) {idx : Nat} {v : Int32} (d : decode cc pc = .ok (.ldc idx, 2)) (hn : pc + 2 = n) (hv : Cond.constant own idx v ∈ am_T)
    (k : AW X n lv (aI v :: r) w bc bs) : AW X pc lv (r) w bc bs := by
  obtain ⟨p, l, e, R, s, m, args, below, meth, c, Q, D, tc, A, G, mc, ms, nL⟩ := X
  obtain ⟨hx, hb, ⟨hml, rfl⟩, hown, hts, hK, hmc, hms, hA, hlk, hF, hfr, hlo, htr⟩ := K
  subst hn
  intro ad H locs cells slots ls hG hP hD hS hl hc hs
  exact lv_ldc hx hb hown (hts _ hv) d (k ad H locs cells slots ls hG hP hD hS hl hc hs)
theorem aw_ldc2 (K : am_ok X cc own nl dd) {idx : Nat} {v : Int64} (d : decode cc pc = .ok (.ldc2_w idx, 3)) (hn : pc + 3 = n) (hv : Cond.constantLong own idx v ∈ am_T)
    (k : AW X n lv (aL v :: r) w bc bs) : AW X pc lv (r) w bc bs := by
  obtain ⟨p, l, e, R, s, m, args, below, meth, c, Q, D, tc, A, G, mc, ms, nL⟩ := X
  obtain ⟨hx, hb, ⟨hml, rfl⟩, hown, hts, hK, hmc, hms, hA, hlk, hF, hfr, hlo, htr⟩ := K
  subst hn
  intro ad H locs cells slots ls hG hP hD hS hl hc hs
  exact lv_ldc2 hx hb hown (hts _ hv) d (k ad H locs cells slots ls hG hP hD hS hl hc hs)
theorem aw_null (K : am_ok X cc own nl dd)  (d : decode cc pc = .ok (.aconst_null, 1)) (hn : pc + 1 = n) 
    (k : AW X n lv (aN :: r) w bc bs) : AW X pc lv (r) w bc bs := by
  obtain ⟨p, l, e, R, s, m, args, below, meth, c, Q, D, tc, A, G, mc, ms, nL⟩ := X
  obtain ⟨hx, hb, ⟨hml, rfl⟩, hown, hts, hK, hmc, hms, hA, hlk, hF, hfr, hlo, htr⟩ := K
  subst hn
  intro ad H locs cells slots ls hG hP hD hS hl hc hs
  exact lv_null hx hb d (k ad H locs cells slots ls hG hP hD hS hl hc hs)
theorem aw_iload_n (K : am_ok X cc own nl dd) {z : Fin 4} {x : Int32} (d : decode cc pc = .ok (.iload_n z, 1)) (hn : pc + 1 = n) (hv : lv[(z : Nat)]? = some (some (aI x)))
    (k : AW X n lv (aI x :: r) w bc bs) : AW X pc lv (r) w bc bs := by
  obtain ⟨p, l, e, R, s, m, args, below, meth, c, Q, D, tc, A, G, mc, ms, nL⟩ := X
  obtain ⟨hx, hb, ⟨hml, rfl⟩, hown, hts, hK, hmc, hms, hA, hlk, hF, hfr, hlo, htr⟩ := K
  subst hn
  intro ad H locs cells slots ls hG hP hD hS hl hc hs
  exact lv_iload_n hx hb d rfl (am_get hl hv) (k ad H locs cells slots ls hG hP hD hS hl hc hs)
theorem aw_iload (K : am_ok X cc own nl dd) {z : Nat} {x : Int32} (d : decode cc pc = .ok (.iload z, 2)) (hn : pc + 2 = n) (hv : lv[z]? = some (some (aI x)))
    (k : AW X n lv (aI x :: r) w bc bs) : AW X pc lv (r) w bc bs := by
  obtain ⟨p, l, e, R, s, m, args, below, meth, c, Q, D, tc, A, G, mc, ms, nL⟩ := X
  obtain ⟨hx, hb, ⟨hml, rfl⟩, hown, hts, hK, hmc, hms, hA, hlk, hF, hfr, hlo, htr⟩ := K
  subst hn
  intro ad H locs cells slots ls hG hP hD hS hl hc hs
  exact lv_iload hx hb d (am_get hl hv) (k ad H locs cells slots ls hG hP hD hS hl hc hs)
theorem aw_lload_n (K : am_ok X cc own nl dd) {z : Fin 4} {x : Int64} (d : decode cc pc = .ok (.lload_n z, 1)) (hn : pc + 1 = n) (hv : lv[(z : Nat)]? = some (some (aL x)))
    (k : AW X n lv (aL x :: r) w bc bs) : AW X pc lv (r) w bc bs := by
  obtain ⟨p, l, e, R, s, m, args, below, meth, c, Q, D, tc, A, G, mc, ms, nL⟩ := X
  obtain ⟨hx, hb, ⟨hml, rfl⟩, hown, hts, hK, hmc, hms, hA, hlk, hF, hfr, hlo, htr⟩ := K
  subst hn
  intro ad H locs cells slots ls hG hP hD hS hl hc hs
  exact lv_lload_n hx hb d rfl (am_get hl hv) (k ad H locs cells slots ls hG hP hD hS hl hc hs)
theorem aw_lload (K : am_ok X cc own nl dd) {z : Nat} {x : Int64} (d : decode cc pc = .ok (.lload z, 2)) (hn : pc + 2 = n) (hv : lv[z]? = some (some (aL x)))
    (k : AW X n lv (aL x :: r) w bc bs) : AW X pc lv (r) w bc bs := by
  obtain ⟨p, l, e, R, s, m, args, below, meth, c, Q, D, tc, A, G, mc, ms, nL⟩ := X
  obtain ⟨hx, hb, ⟨hml, rfl⟩, hown, hts, hK, hmc, hms, hA, hlk, hF, hfr, hlo, htr⟩ := K
  subst hn
  intro ad H locs cells slots ls hG hP hD hS hl hc hs
  exact lv_lload hx hb d (am_get hl hv) (k ad H locs cells slots ls hG hP hD hS hl hc hs)
theorem aw_aload_n (K : am_ok X cc own nl dd) {z : Fin 4} {x : Nat} (d : decode cc pc = .ok (.aload_n z, 1)) (hn : pc + 1 = n) (hv : lv[(z : Nat)]? = some (some (aR x)))
    (k : AW X n lv (aR x :: r) w bc bs) : AW X pc lv (r) w bc bs := by
  obtain ⟨p, l, e, R, s, m, args, below, meth, c, Q, D, tc, A, G, mc, ms, nL⟩ := X
  obtain ⟨hx, hb, ⟨hml, rfl⟩, hown, hts, hK, hmc, hms, hA, hlk, hF, hfr, hlo, htr⟩ := K
  subst hn
  intro ad H locs cells slots ls hG hP hD hS hl hc hs
  exact lv_aload_n hx hb d rfl (am_get hl hv) (k ad H locs cells slots ls hG hP hD hS hl hc hs)
theorem aw_aload (K : am_ok X cc own nl dd) {z : Nat} {x : Nat} (d : decode cc pc = .ok (.aload z, 2)) (hn : pc + 2 = n) (hv : lv[z]? = some (some (aR x)))
    (k : AW X n lv (aR x :: r) w bc bs) : AW X pc lv (r) w bc bs := by
  obtain ⟨p, l, e, R, s, m, args, below, meth, c, Q, D, tc, A, G, mc, ms, nL⟩ := X
  obtain ⟨hx, hb, ⟨hml, rfl⟩, hown, hts, hK, hmc, hms, hA, hlk, hF, hfr, hlo, htr⟩ := K
  subst hn
  intro ad H locs cells slots ls hG hP hD hS hl hc hs
  exact lv_aload hx hb d (am_get hl hv) (k ad H locs cells slots ls hG hP hD hS hl hc hs)
theorem am_c1 {ad : Nat → Nat} {v : am_V} (h : ∀ y, v ≠ .inr (.inl y)) : (am_v ad v).category = 1 := by
  rcases v with x | x | _ | x
  · rfl
  · exact absurd rfl (h x)
  · rfl
  · rfl
theorem aw_dup (K : am_ok X cc own nl dd) {a : am_V} (d : decode cc pc = .ok (.dup, 1)) (hn : pc + 1 = n) (ha : ∀ y, a ≠ .inr (.inl y))
    (k : AW X n lv (a :: a :: r) w bc bs) : AW X pc lv (a :: r) w bc bs := by
  obtain ⟨p, l, e, R, s, m, args, below, meth, c, Q, D, tc, A, G, mc, ms, nL⟩ := X
  obtain ⟨hx, hb, ⟨hml, rfl⟩, hown, hts, hK, hmc, hms, hA, hlk, hF, hfr, hlo, htr⟩ := K
  subst hn
  intro ad H locs cells slots ls hG hP hD hS hl hc hs
  exact lv_dup hx hb d (am_c1 ha) (k ad H locs cells slots ls hG hP hD hS hl hc hs)
theorem aw_pop (K : am_ok X cc own nl dd) {a : am_V} (d : decode cc pc = .ok (.pop, 1)) (hn : pc + 1 = n) (ha : ∀ y, a ≠ .inr (.inl y))
    (k : AW X n lv (r) w bc bs) : AW X pc lv (a :: r) w bc bs := by
  obtain ⟨p, l, e, R, s, m, args, below, meth, c, Q, D, tc, A, G, mc, ms, nL⟩ := X
  obtain ⟨hx, hb, ⟨hml, rfl⟩, hown, hts, hK, hmc, hms, hA, hlk, hF, hfr, hlo, htr⟩ := K
  subst hn
  intro ad H locs cells slots ls hG hP hD hS hl hc hs
  exact lv_pop hx hb d (am_c1 ha) (k ad H locs cells slots ls hG hP hD hS hl hc hs)
theorem aw_dup_x1 (K : am_ok X cc own nl dd) {a b : am_V} (d : decode cc pc = .ok (.dup_x1, 1)) (hn : pc + 1 = n) (ha : ∀ y, a ≠ .inr (.inl y)) (hb9 : ∀ y, b ≠ .inr (.inl y))
    (k : AW X n lv (a :: b :: a :: r) w bc bs) : AW X pc lv (a :: b :: r) w bc bs := by
  obtain ⟨p, l, e, R, s, m, args, below, meth, c, Q, D, tc, A, G, mc, ms, nL⟩ := X
  obtain ⟨hx, hb, ⟨hml, rfl⟩, hown, hts, hK, hmc, hms, hA, hlk, hF, hfr, hlo, htr⟩ := K
  subst hn
  intro ad H locs cells slots ls hG hP hD hS hl hc hs
  exact lv_dup_x1 hx hb d (am_c1 ha) (am_c1 hb9) (k ad H locs cells slots ls hG hP hD hS hl hc hs)
theorem aw_dup_x2 (K : am_ok X cc own nl dd) {a b g : am_V} (d : decode cc pc = .ok (.dup_x2, 1)) (hn : pc + 1 = n) (ha : ∀ y, a ≠ .inr (.inl y)) (hb9 : ∀ y, b ≠ .inr (.inl y)) (hg : ∀ y, g ≠ .inr (.inl y))
    (k : AW X n lv (a :: b :: g :: a :: r) w bc bs) : AW X pc lv (a :: b :: g :: r) w bc bs := by
  obtain ⟨p, l, e, R, s, m, args, below, meth, c, Q, D, tc, A, G, mc, ms, nL⟩ := X
  obtain ⟨hx, hb, ⟨hml, rfl⟩, hown, hts, hK, hmc, hms, hA, hlk, hF, hfr, hlo, htr⟩ := K
  subst hn
  intro ad H locs cells slots ls hG hP hD hS hl hc hs
  exact lv_dup_x2 hx hb d (am_c1 ha) (am_c1 hb9) (am_c1 hg) (k ad H locs cells slots ls hG hP hD hS hl hc hs)
theorem aw_dup2 (K : am_ok X cc own nl dd) {a b : am_V} (d : decode cc pc = .ok (.dup2, 1)) (hn : pc + 1 = n) (ha : ∀ y, a ≠ .inr (.inl y)) (hb9 : ∀ y, b ≠ .inr (.inl y))
    (k : AW X n lv (a :: b :: a :: b :: r) w bc bs) : AW X pc lv (a :: b :: r) w bc bs := by
  obtain ⟨p, l, e, R, s, m, args, below, meth, c, Q, D, tc, A, G, mc, ms, nL⟩ := X
  obtain ⟨hx, hb, ⟨hml, rfl⟩, hown, hts, hK, hmc, hms, hA, hlk, hF, hfr, hlo, htr⟩ := K
  subst hn
  intro ad H locs cells slots ls hG hP hD hS hl hc hs
  exact lv_dup2_11 hx hb d (am_c1 ha) (am_c1 hb9) (k ad H locs cells slots ls hG hP hD hS hl hc hs)
theorem aw_dup2l (K : am_ok X cc own nl dd) {x : Int64} (d : decode cc pc = .ok (.dup2, 1)) (hn : pc + 1 = n) 
    (k : AW X n lv (aL x :: aL x :: r) w bc bs) : AW X pc lv (aL x :: r) w bc bs := by
  obtain ⟨p, l, e, R, s, m, args, below, meth, c, Q, D, tc, A, G, mc, ms, nL⟩ := X
  obtain ⟨hx, hb, ⟨hml, rfl⟩, hown, hts, hK, hmc, hms, hA, hlk, hF, hfr, hlo, htr⟩ := K
  subst hn
  intro ad H locs cells slots ls hG hP hD hS hl hc hs
  exact lv_dup2_2 hx hb d rfl (k ad H locs cells slots ls hG hP hD hS hl hc hs)
theorem aw_istore_n (K : am_ok X cc own nl dd) {z : Fin 4} {x : Int32} {lv' : List (Option am_V)} (d : decode cc pc = .ok (.istore_n z, 1)) (hn : pc + 1 = n) (hz : (z : Nat) < nl) (hv : am_s1 lv (z : Nat) (aI x) = lv')
    (k : AW X n lv' r w bc bs) : AW X pc lv (aI x :: r) w bc bs := by
  obtain ⟨p, l, e, R, s, m, args, below, meth, c, Q, D, tc, A, G, mc, ms, nL⟩ := X
  obtain ⟨hx, hb, ⟨hml, rfl⟩, hown, hts, hK, hmc, hms, hA, hlk, hF, hfr, hlo, htr⟩ := K
  subst hn
  intro ad H locs cells slots ls hG hP hD hS hl hc hs
  subst hv
  exact lv_istore_n hx hb d rfl hl hz rfl (fun ls' hl' => k ad H locs cells slots ls' hG hP hD hS (am_put1 hl') hc hs)
theorem aw_istore (K : am_ok X cc own nl dd) {z : Nat} {x : Int32} {lv' : List (Option am_V)} (d : decode cc pc = .ok (.istore z, 2)) (hn : pc + 2 = n) (hz : z < nl) (hv : am_s1 lv z (aI x) = lv')
    (k : AW X n lv' r w bc bs) : AW X pc lv (aI x :: r) w bc bs := by
  obtain ⟨p, l, e, R, s, m, args, below, meth, c, Q, D, tc, A, G, mc, ms, nL⟩ := X
  obtain ⟨hx, hb, ⟨hml, rfl⟩, hown, hts, hK, hmc, hms, hA, hlk, hF, hfr, hlo, htr⟩ := K
  subst hn
  intro ad H locs cells slots ls hG hP hD hS hl hc hs
  subst hv
  exact lv_istore hx hb d hl hz rfl (fun ls' hl' => k ad H locs cells slots ls' hG hP hD hS (am_put1 hl') hc hs)
theorem aw_lstore_n (K : am_ok X cc own nl dd) {z : Fin 4} {x : Int64} {lv' : List (Option am_V)} (d : decode cc pc = .ok (.lstore_n z, 1)) (hn : pc + 1 = n) (hz : (z : Nat) + 1 < nl) (hv : am_s2 lv (z : Nat) (aL x) = lv')
    (k : AW X n lv' r w bc bs) : AW X pc lv (aL x :: r) w bc bs := by
  obtain ⟨p, l, e, R, s, m, args, below, meth, c, Q, D, tc, A, G, mc, ms, nL⟩ := X
  obtain ⟨hx, hb, ⟨hml, rfl⟩, hown, hts, hK, hmc, hms, hA, hlk, hF, hfr, hlo, htr⟩ := K
  subst hn
  intro ad H locs cells slots ls hG hP hD hS hl hc hs
  subst hv
  exact lv_lstore_n hx hb d rfl hl hz rfl (fun ls' hl' => k ad H locs cells slots ls' hG hP hD hS (am_put2 hl') hc hs)
theorem aw_lstore (K : am_ok X cc own nl dd) {z : Nat} {x : Int64} {lv' : List (Option am_V)} (d : decode cc pc = .ok (.lstore z, 2)) (hn : pc + 2 = n) (hz : z + 1 < nl) (hv : am_s2 lv z (aL x) = lv')
    (k : AW X n lv' r w bc bs) : AW X pc lv (aL x :: r) w bc bs := by
  obtain ⟨p, l, e, R, s, m, args, below, meth, c, Q, D, tc, A, G, mc, ms, nL⟩ := X
  obtain ⟨hx, hb, ⟨hml, rfl⟩, hown, hts, hK, hmc, hms, hA, hlk, hF, hfr, hlo, htr⟩ := K
  subst hn
  intro ad H locs cells slots ls hG hP hD hS hl hc hs
  subst hv
  exact lv_lstore hx hb d hl hz rfl (fun ls' hl' => k ad H locs cells slots ls' hG hP hD hS (am_put2 hl') hc hs)
theorem aw_astore_n (K : am_ok X cc own nl dd) {z : Fin 4} {x : Nat} {lv' : List (Option am_V)} (d : decode cc pc = .ok (.astore_n z, 1)) (hn : pc + 1 = n) (hz : (z : Nat) < nl) (hv : am_s1 lv (z : Nat) (aR x) = lv')
    (k : AW X n lv' r w bc bs) : AW X pc lv (aR x :: r) w bc bs := by
  obtain ⟨p, l, e, R, s, m, args, below, meth, c, Q, D, tc, A, G, mc, ms, nL⟩ := X
  obtain ⟨hx, hb, ⟨hml, rfl⟩, hown, hts, hK, hmc, hms, hA, hlk, hF, hfr, hlo, htr⟩ := K
  subst hn
  intro ad H locs cells slots ls hG hP hD hS hl hc hs
  subst hv
  exact lv_astore_n hx hb d rfl hl hz rfl (fun ls' hl' => k ad H locs cells slots ls' hG hP hD hS (am_put1 hl') hc hs)
theorem aw_astore (K : am_ok X cc own nl dd) {z : Nat} {x : Nat} {lv' : List (Option am_V)} (d : decode cc pc = .ok (.astore z, 2)) (hn : pc + 2 = n) (hz : z < nl) (hv : am_s1 lv z (aR x) = lv')
    (k : AW X n lv' r w bc bs) : AW X pc lv (aR x :: r) w bc bs := by
  obtain ⟨p, l, e, R, s, m, args, below, meth, c, Q, D, tc, A, G, mc, ms, nL⟩ := X
  obtain ⟨hx, hb, ⟨hml, rfl⟩, hown, hts, hK, hmc, hms, hA, hlk, hF, hfr, hlo, htr⟩ := K
  subst hn
  intro ad H locs cells slots ls hG hP hD hS hl hc hs
  subst hv
  exact lv_astore hx hb d hl hz rfl (fun ls' hl' => k ad H locs cells slots ls' hG hP hD hS (am_put1 hl') hc hs)
theorem am_idx {ad : Nat → Nat} {lv : List (Option am_V)} {i : Nat} {v : am_V} (h : lv[i]? = some (some v)) : ∃ k : Nat, (am_l ad 0 lv)[k]? = some (i, am_v ad v) := by
  have h1 : (i, am_v ad v) ∈ am_l ad 0 lv := (am_l_mem ad lv 0 _).mpr ⟨i, v, h, by simp⟩
  exact List.getElem?_of_mem h1
theorem aw_iinc (K : am_ok X cc own nl dd) {z : Nat} {i : Int} {x v : Int32} {lv' : List (Option am_V)} (d : decode cc pc = .ok (.iinc z i, 3)) (hn : pc + 3 = n) (hx0 : lv[z]? = some (some (aI x))) (hi : x + Int32.ofInt i = v) (hz : z < nl) (hv : am_s1 lv z (aI v) = lv')
    (k : AW X n lv' r w bc bs) : AW X pc lv r w bc bs := by
  obtain ⟨p, l, e, R, s, m, args, below, meth, c, Q, D, tc, A, G, mc, ms, nL⟩ := X
  obtain ⟨hx, hb, ⟨hml, rfl⟩, hown, hts, hK, hmc, hms, hA, hlk, hF, hfr, hlo, htr⟩ := K
  subst hn
  intro ad H locs cells slots ls hG hP hD hS hl hc hs
  subst hv
  obtain ⟨kk, hkk⟩ := am_idx (ad := ad) hx0
  exact lv_iinc hx hb d hl hkk hi hz rfl (fun ls' hl' => k ad H locs cells slots ls' hG hP hD hS (am_put1 hl') hc hs)
theorem aw_if_eq (K : am_ok X cc own nl dd) {x : Int32} {off : Int} {t : Nat} (d : decode cc pc = .ok (.ifCond .eq off, 3)) (ht : (pc : Int) + off = (t : Int)) (hn : pc + 3 = n) (kt : x = 0 → AW X t lv r w bc bs) (kf : ¬ x = 0 → AW X n lv r w bc bs) : AW X pc lv (aI x :: r) w bc bs := by
  obtain ⟨p, l, e, R, s, m, args, below, meth, c, Q, D, tc, A, G, mc, ms, nL⟩ := X
  obtain ⟨hx, hb, ⟨hml, rfl⟩, hown, hts, hK, hmc, hms, hA, hlk, hF, hfr, hlo, htr⟩ := K
  subst hn
  intro ad H locs cells slots ls hG hP hD hS hl hc hs
  exact lv_if_eq hx hb d ht (fun q => kt q ad H locs cells slots ls hG hP hD hS hl hc hs) (fun q => kf q ad H locs cells slots ls hG hP hD hS hl hc hs)
theorem aw_icmp_eq (K : am_ok X cc own nl dd) {x y : Int32} {off : Int} {t : Nat} (d : decode cc pc = .ok (.if_icmp .eq off, 3)) (ht : (pc : Int) + off = (t : Int)) (hn : pc + 3 = n) (kt : x = y → AW X t lv r w bc bs) (kf : ¬ x = y → AW X n lv r w bc bs) : AW X pc lv (aI y :: aI x :: r) w bc bs := by
  obtain ⟨p, l, e, R, s, m, args, below, meth, c, Q, D, tc, A, G, mc, ms, nL⟩ := X
  obtain ⟨hx, hb, ⟨hml, rfl⟩, hown, hts, hK, hmc, hms, hA, hlk, hF, hfr, hlo, htr⟩ := K
  subst hn
  intro ad H locs cells slots ls hG hP hD hS hl hc hs
  exact lv_icmp_eq hx hb d ht (fun q => kt q ad H locs cells slots ls hG hP hD hS hl hc hs) (fun q => kf q ad H locs cells slots ls hG hP hD hS hl hc hs)
theorem aw_if_ne (K : am_ok X cc own nl dd) {x : Int32} {off : Int} {t : Nat} (d : decode cc pc = .ok (.ifCond .ne off, 3)) (ht : (pc : Int) + off = (t : Int)) (hn : pc + 3 = n) (kt : ¬ x = 0 → AW X t lv r w bc bs) (kf : x = 0 → AW X n lv r w bc bs) : AW X pc lv (aI x :: r) w bc bs := by
  obtain ⟨p, l, e, R, s, m, args, below, meth, c, Q, D, tc, A, G, mc, ms, nL⟩ := X
  obtain ⟨hx, hb, ⟨hml, rfl⟩, hown, hts, hK, hmc, hms, hA, hlk, hF, hfr, hlo, htr⟩ := K
  subst hn
  intro ad H locs cells slots ls hG hP hD hS hl hc hs
  exact lv_if_ne hx hb d ht (fun q => kt q ad H locs cells slots ls hG hP hD hS hl hc hs) (fun q => kf q ad H locs cells slots ls hG hP hD hS hl hc hs)
theorem aw_icmp_ne (K : am_ok X cc own nl dd) {x y : Int32} {off : Int} {t : Nat} (d : decode cc pc = .ok (.if_icmp .ne off, 3)) (ht : (pc : Int) + off = (t : Int)) (hn : pc + 3 = n) (kt : ¬ x = y → AW X t lv r w bc bs) (kf : x = y → AW X n lv r w bc bs) : AW X pc lv (aI y :: aI x :: r) w bc bs := by
  obtain ⟨p, l, e, R, s, m, args, below, meth, c, Q, D, tc, A, G, mc, ms, nL⟩ := X
  obtain ⟨hx, hb, ⟨hml, rfl⟩, hown, hts, hK, hmc, hms, hA, hlk, hF, hfr, hlo, htr⟩ := K
  subst hn
  intro ad H locs cells slots ls hG hP hD hS hl hc hs
  exact lv_icmp_ne hx hb d ht (fun q => kt q ad H locs cells slots ls hG hP hD hS hl hc hs) (fun q => kf q ad H locs cells slots ls hG hP hD hS hl hc hs)
theorem aw_if_lt (K : am_ok X cc own nl dd) {x : Int32} {off : Int} {t : Nat} (d : decode cc pc = .ok (.ifCond .lt off, 3)) (ht : (pc : Int) + off = (t : Int)) (hn : pc + 3 = n) (kt : x < 0 → AW X t lv r w bc bs) (kf : ¬ x < 0 → AW X n lv r w bc bs) : AW X pc lv (aI x :: r) w bc bs := by
  obtain ⟨p, l, e, R, s, m, args, below, meth, c, Q, D, tc, A, G, mc, ms, nL⟩ := X
  obtain ⟨hx, hb, ⟨hml, rfl⟩, hown, hts, hK, hmc, hms, hA, hlk, hF, hfr, hlo, htr⟩ := K
  subst hn
  intro ad H locs cells slots ls hG hP hD hS hl hc hs
  exact lv_if_lt hx hb d ht (fun q => kt q ad H locs cells slots ls hG hP hD hS hl hc hs) (fun q => kf q ad H locs cells slots ls hG hP hD hS hl hc hs)
theorem aw_icmp_lt (K : am_ok X cc own nl dd) {x y : Int32} {off : Int} {t : Nat} (d : decode cc pc = .ok (.if_icmp .lt off, 3)) (ht : (pc : Int) + off = (t : Int)) (hn : pc + 3 = n) (kt : x < y → AW X t lv r w bc bs) (kf : ¬ x < y → AW X n lv r w bc bs) : AW X pc lv (aI y :: aI x :: r) w bc bs := by
  obtain ⟨p, l, e, R, s, m, args, below, meth, c, Q, D, tc, A, G, mc, ms, nL⟩ := X
  obtain ⟨hx, hb, ⟨hml, rfl⟩, hown, hts, hK, hmc, hms, hA, hlk, hF, hfr, hlo, htr⟩ := K
  subst hn
  intro ad H locs cells slots ls hG hP hD hS hl hc hs
  exact lv_icmp_lt hx hb d ht (fun q => kt q ad H locs cells slots ls hG hP hD hS hl hc hs) (fun q => kf q ad H locs cells slots ls hG hP hD hS hl hc hs)
theorem aw_if_ge (K : am_ok X cc own nl dd) {x : Int32} {off : Int} {t : Nat} (d : decode cc pc = .ok (.ifCond .ge off, 3)) (ht : (pc : Int) + off = (t : Int)) (hn : pc + 3 = n) (kt : 0 ≤ x → AW X t lv r w bc bs) (kf : ¬ 0 ≤ x → AW X n lv r w bc bs) : AW X pc lv (aI x :: r) w bc bs := by
  obtain ⟨p, l, e, R, s, m, args, below, meth, c, Q, D, tc, A, G, mc, ms, nL⟩ := X
  obtain ⟨hx, hb, ⟨hml, rfl⟩, hown, hts, hK, hmc, hms, hA, hlk, hF, hfr, hlo, htr⟩ := K
  subst hn
  intro ad H locs cells slots ls hG hP hD hS hl hc hs
  exact lv_if_ge hx hb d ht (fun q => kt q ad H locs cells slots ls hG hP hD hS hl hc hs) (fun q => kf q ad H locs cells slots ls hG hP hD hS hl hc hs)
theorem aw_icmp_ge (K : am_ok X cc own nl dd) {x y : Int32} {off : Int} {t : Nat} (d : decode cc pc = .ok (.if_icmp .ge off, 3)) (ht : (pc : Int) + off = (t : Int)) (hn : pc + 3 = n) (kt : y ≤ x → AW X t lv r w bc bs) (kf : ¬ y ≤ x → AW X n lv r w bc bs) : AW X pc lv (aI y :: aI x :: r) w bc bs := by
  obtain ⟨p, l, e, R, s, m, args, below, meth, c, Q, D, tc, A, G, mc, ms, nL⟩ := X
  obtain ⟨hx, hb, ⟨hml, rfl⟩, hown, hts, hK, hmc, hms, hA, hlk, hF, hfr, hlo, htr⟩ := K
  subst hn
  intro ad H locs cells slots ls hG hP hD hS hl hc hs
  exact lv_icmp_ge hx hb d ht (fun q => kt q ad H locs cells slots ls hG hP hD hS hl hc hs) (fun q => kf q ad H locs cells slots ls hG hP hD hS hl hc hs)
theorem aw_if_gt (K : am_ok X cc own nl dd) {x : Int32} {off : Int} {t : Nat} (d : decode cc pc = .ok (.ifCond .gt off, 3)) (ht : (pc : Int) + off = (t : Int)) (hn : pc + 3 = n) (kt : 0 < x → AW X t lv r w bc bs) (kf : ¬ 0 < x → AW X n lv r w bc bs) : AW X pc lv (aI x :: r) w bc bs := by
  obtain ⟨p, l, e, R, s, m, args, below, meth, c, Q, D, tc, A, G, mc, ms, nL⟩ := X
  obtain ⟨hx, hb, ⟨hml, rfl⟩, hown, hts, hK, hmc, hms, hA, hlk, hF, hfr, hlo, htr⟩ := K
  subst hn
  intro ad H locs cells slots ls hG hP hD hS hl hc hs
  exact lv_if_gt hx hb d ht (fun q => kt q ad H locs cells slots ls hG hP hD hS hl hc hs) (fun q => kf q ad H locs cells slots ls hG hP hD hS hl hc hs)
theorem aw_icmp_gt (K : am_ok X cc own nl dd) {x y : Int32} {off : Int} {t : Nat} (d : decode cc pc = .ok (.if_icmp .gt off, 3)) (ht : (pc : Int) + off = (t : Int)) (hn : pc + 3 = n) (kt : y < x → AW X t lv r w bc bs) (kf : ¬ y < x → AW X n lv r w bc bs) : AW X pc lv (aI y :: aI x :: r) w bc bs := by
  obtain ⟨p, l, e, R, s, m, args, below, meth, c, Q, D, tc, A, G, mc, ms, nL⟩ := X
  obtain ⟨hx, hb, ⟨hml, rfl⟩, hown, hts, hK, hmc, hms, hA, hlk, hF, hfr, hlo, htr⟩ := K
  subst hn
  intro ad H locs cells slots ls hG hP hD hS hl hc hs
  exact lv_icmp_gt hx hb d ht (fun q => kt q ad H locs cells slots ls hG hP hD hS hl hc hs) (fun q => kf q ad H locs cells slots ls hG hP hD hS hl hc hs)
theorem aw_if_le (K : am_ok X cc own nl dd) {x : Int32} {off : Int} {t : Nat} (d : decode cc pc = .ok (.ifCond .le off, 3)) (ht : (pc : Int) + off = (t : Int)) (hn : pc + 3 = n) (kt : x ≤ 0 → AW X t lv r w bc bs) (kf : ¬ x ≤ 0 → AW X n lv r w bc bs) : AW X pc lv (aI x :: r) w bc bs := by
  obtain ⟨p, l, e, R, s, m, args, below, meth, c, Q, D, tc, A, G, mc, ms, nL⟩ := X
  obtain ⟨hx, hb, ⟨hml, rfl⟩, hown, hts, hK, hmc, hms, hA, hlk, hF, hfr, hlo, htr⟩ := K
  subst hn
  intro ad H locs cells slots ls hG hP hD hS hl hc hs
  exact lv_if_le hx hb d ht (fun q => kt q ad H locs cells slots ls hG hP hD hS hl hc hs) (fun q => kf q ad H locs cells slots ls hG hP hD hS hl hc hs)
theorem aw_icmp_le (K : am_ok X cc own nl dd) {x y : Int32} {off : Int} {t : Nat} (d : decode cc pc = .ok (.if_icmp .le off, 3)) (ht : (pc : Int) + off = (t : Int)) (hn : pc + 3 = n) (kt : x ≤ y → AW X t lv r w bc bs) (kf : ¬ x ≤ y → AW X n lv r w bc bs) : AW X pc lv (aI y :: aI x :: r) w bc bs := by
  obtain ⟨p, l, e, R, s, m, args, below, meth, c, Q, D, tc, A, G, mc, ms, nL⟩ := X
  obtain ⟨hx, hb, ⟨hml, rfl⟩, hown, hts, hK, hmc, hms, hA, hlk, hF, hfr, hlo, htr⟩ := K
  subst hn
  intro ad H locs cells slots ls hG hP hD hS hl hc hs
  exact lv_icmp_le hx hb d ht (fun q => kt q ad H locs cells slots ls hG hP hD hS hl hc hs) (fun q => kf q ad H locs cells slots ls hG hP hD hS hl hc hs)
theorem aw_goto (K : am_ok X cc own nl dd) {off : Int} (d : decode cc pc = .ok (.goto off, 3)) (hn : (pc : Int) + off = (n : Int)) (k : AW X n lv r w bc bs) : AW X pc lv r w bc bs := by
  obtain ⟨p, l, e, R, s, m, args, below, meth, c, Q, D, tc, A, G, mc, ms, nL⟩ := X
  obtain ⟨hx, hb, ⟨hml, rfl⟩, hown, hts, hK, hmc, hms, hA, hlk, hF, hfr, hlo, htr⟩ := K
  intro ad H locs cells slots ls hG hP hD hS hl hc hs
  exact lv_goto hx hb d hn (k ad H locs cells slots ls hG hP hD hS hl hc hs)
theorem aw_tsw (K : am_ok X cc own nl dd) {x : Int32} {df lo hi : Int} {offs : Array Int} {len : Nat} (d : decode cc pc = .ok (.tableswitch df lo hi offs, len)) (kin : ∀ j : Nat, lo + j ≤ hi → x.toInt = lo + j → ∃ (off : Int) (t : Nat), offs[j]? = some off ∧ (pc : Int) + off = (t : Int) ∧ AW X t lv r w bc bs) (kout : x.toInt < lo ∨ hi < x.toInt → ∃ t : Nat, (pc : Int) + df = (t : Int) ∧ AW X t lv r w bc bs) : AW X pc lv (aI x :: r) w bc bs := by
  obtain ⟨p, l, e, R, s, m, args, below, meth, c, Q, D, tc, A, G, mc, ms, nL⟩ := X
  obtain ⟨hx, hb, ⟨hml, rfl⟩, hown, hts, hK, hmc, hms, hA, hlk, hF, hfr, hlo, htr⟩ := K
  intro ad H locs cells slots ls hG hP hD hS hl hc hs
  by_cases h : x.toInt < lo ∨ hi < x.toInt
  · obtain ⟨t, ht, k⟩ := kout h
    exact lv_tableOut hx hb d h ht (k ad H locs cells slots ls hG hP hD hS hl hc hs)
  · have h1 : ¬ x.toInt < lo := fun q => h (Or.inl q)
    have h2 : ¬ hi < x.toInt := fun q => h (Or.inr q)
    obtain ⟨off, t, ho, ht, k⟩ := kin (x.toInt - lo).toNat (by omega) (by omega)
    exact lv_tableIn hx hb d h1 h2 ho ht (k ad H locs cells slots ls hG hP hD hS hl hc hs)
/-! fields -/
def am_fd (own : String) (idx ci j : Nat) : Prop := ∃ (C : String) (T : u_T) (N : Nat), classes[ci]? = some (C, T, N) ∧ j < N ∧ Cond.fieldLink own idx (T j).1 (T j).2.1 (T j).2.2.1 ∈ am_T ∧ ∀ w ∈ u_ws C T N, w ∈ am_T
def am_fp (own : String) (idx ci j : Nat) (ty : FieldType) (fin : Bool) : Prop := ∃ (C : String) (T : u_T) (N : Nat) (ty0 : Nat → FieldType), classes[ci]? = some (C, T, N) ∧ j < N ∧ Cond.fieldLink own idx (T j).1 (T j).2.1 (T j).2.2.1 ∈ am_T ∧ (∀ w ∈ u_ws C T N, w ∈ am_T) ∧ (∀ k, k < N → parseFieldDescriptor (T k).2.2.1 = some (ty0 k)) ∧ (∀ a, a < N → ∀ b, b < N → a ≠ b → (T a).2.1 ≠ (T b).2.1) ∧ (T j).2.2.2 = fin ∧ (fin = true → (T j).1 = own) ∧ parseFieldDescriptor (T j).2.2.1 = some ty
def am_fit (ty : FieldType) (v : am_V) : Prop := ∀ ad : Nat → Nat, narrow ty (am_v ad v) = am_v ad v ∧ fits ty (am_v ad v) = true
theorem am_fit_i (x : Int32) : am_fit .int (aI x) := fun _ => ⟨rfl, rfl⟩
theorem am_fit_l (x : Int64) : am_fit .long (aL x) := fun _ => ⟨rfl, rfl⟩
theorem am_fit_o (C : String) (k : Nat) : am_fit (.object C) (aR k) := fun _ => ⟨rfl, rfl⟩
theorem am_fit_a (t : FieldType) (k : Nat) : am_fit (.array t) (aR k) := fun _ => ⟨rfl, rfl⟩
theorem aw_getf (K : am_ok X cc own nl dd) {idx ci j k : Nat} {fs : List am_V} {v : am_V} (hf : am_fd own idx ci j) (d : decode cc pc = .ok (.getfield idx, 3)) (hn : pc + 3 = n) (hw : w[k]? = some (oC ci fs)) (hv : fs[j]? = some v)
    (k9 : AW X n lv (v :: r) w bc bs) : AW X pc lv (aR k :: r) w bc bs := by
  obtain ⟨p, l, e, R, s, m, args, below, meth, c, Q, D, tc, A, G, mc, ms, nL⟩ := X
  obtain ⟨hx, hb, ⟨hml, rfl⟩, hown, hts, hK, hmc, hms, hA, hlk, hF, hfr, hlo, htr⟩ := K
  subst hn
  intro ad H locs cells slots ls hG hP hD hS hl hc hs
  obtain ⟨C, T, N, h1, h2, h3, h4⟩ := hf
  exact va_get (D := D) (ci := ci) (C := C) (T := T) (N := N) hx hb hts h4 hown hK hP k (am_w_at hw) h1 j h2 (hts _ h3) (fun _ h9 => h9) (v := am_v ad v) (by show (fs.map (am_v ad))[j]? = _; rw [List.getElem?_map, hv]; rfl) d (k9 ad H locs cells slots ls hG hP hD hS hl hc hs)
theorem am_w_fs (ad : Nat → Nat) (tc : Nat → ClassId) (w : List am_C) (k ci j : Nat) (fs : List am_V) (v : am_V) : am_w ad tc (w.set k (oC ci (fs.set j v))) = (am_w ad tc w).set k (ad k, .inr (ci, (fs.map (am_v ad)).set j (am_v ad v))) := by
  rw [am_w_set]
  simp [am_c, List.map_set]
theorem aw_putf (K : am_ok X cc own nl dd) {idx ci j k : Nat} {fs : List am_V} {v : am_V} {ty : FieldType} {w' : List am_C} (hf : am_fp own idx ci j ty false) (d : decode cc pc = .ok (.putfield idx, 3)) (hn : pc + 3 = n) (hw : w[k]? = some (oC ci fs)) (hj : j < fs.length) (hv : am_fit ty v) (hw' : w.set k (oC ci (fs.set j v)) = w')
    (k9 : AW X n lv r w' bc bs) : AW X pc lv (v :: aR k :: r) w bc bs := by
  obtain ⟨p, l, e, R, s, m, args, below, meth, c, Q, D, tc, A, G, mc, ms, nL⟩ := X
  obtain ⟨hx, hb, ⟨hml, rfl⟩, hown, hts, hK, hmc, hms, hA, hlk, hF, hfr, hlo, htr⟩ := K
  subst hn
  intro ad H locs cells slots ls hG hP hD hS hl hc hs
  obtain ⟨C, T, N, ty0, h1, h2, h3, h4, h5, h6, h7, -, h8⟩ := hf
  subst hw'
  exact va_put (D := D) (ci := ci) (C := C) (T := T) (N := N) hx hb hts h4 ty0 h5 h6 hown hK hP hD hS k (am_w_at hw) h1 j h2 (hts _ h3) (fun _ h9 => h9) h7 (ty := ty) (v := am_v ad v) h8 (hv ad).1 (hv ad).2 (by simpa using hj) d
    (fun H1 locs1 hP1 hD1 hS1 => k9 ad H1 locs1 cells slots ls hG (by rw [am_w_fs]; exact hP1) (by rw [am_w_fs]; exact hD1) hS1 hl hc hs)
def am_nm (X : am_X) (nm : String) : Prop := match X with
  | (p, l, e, R, s, m, args, below, meth, c, Q, D, tc, A, G, mc, ms, nL) => meth.name = nm
theorem aw_putF (K : am_ok X cc own nl dd) (hi : am_nm X "<init>") {idx ci j k : Nat} {fs : List am_V} {v : am_V} {ty : FieldType} {w' : List am_C} (hf : am_fp own idx ci j ty true) (d : decode cc pc = .ok (.putfield idx, 3)) (hn : pc + 3 = n) (hw : w[k]? = some (oC ci fs)) (hj : j < fs.length) (hv : am_fit ty v) (hw' : w.set k (oC ci (fs.set j v)) = w')
    (k9 : AW X n lv r w' bc bs) : AW X pc lv (v :: aR k :: r) w bc bs := by
  obtain ⟨p, l, e, R, s, m, args, below, meth, c, Q, D, tc, A, G, mc, ms, nL⟩ := X
  obtain ⟨hx, hb, ⟨hml, rfl⟩, hown, hts, hK, hmc, hms, hA, hlk, hF, hfr, hlo, htr⟩ := K
  subst hn
  intro ad H locs cells slots ls hG hP hD hS hl hc hs
  obtain ⟨C, T, N, ty0, h1, h2, h3, h4, h5, h6, h7, h0, h8⟩ := hf
  subst hw'
  exact va_putF (D := D) (ci := ci) (C := C) (T := T) (N := N) hx hb hts h4 ty0 h5 h6 hown hK hP hD hS k (am_w_at hw) h1 j h2 (hts _ h3) (fun _ h9 => h9) h7 hi (h0 rfl) (ty := ty) (v := am_v ad v) h8 (hv ad).1 (hv ad).2 (by simpa using hj) d
    (fun H1 locs1 hP1 hD1 hS1 => k9 ad H1 locs1 cells slots ls hG (by rw [am_w_fs]; exact hP1) (by rw [am_w_fs]; exact hD1) hS1 hl hc hs)
/-! arrays -/
theorem aw_iald (K : am_ok X cc own nl dd) {k N : Nat} {f : Nat → Int32} {i : Int32} (d : decode cc pc = .ok (.iaload, 1)) (hn : pc + 1 = n) (hw : w[k]? = some (iC N f)) (hi : vp_in i N)
    (k9 : AW X n lv (aI (f i.toNatClampNeg) :: r) w bc bs) : AW X pc lv (aI i :: aR k :: r) w bc bs := by
  obtain ⟨p, l, e, R, s, m, args, below, meth, c, Q, D, tc, A, G, mc, ms, nL⟩ := X
  obtain ⟨hx, hb, ⟨hml, rfl⟩, hown, hts, hK, hmc, hms, hA, hlk, hF, hfr, hlo, htr⟩ := K
  subst hn
  intro ad H locs cells slots ls hG hP hD hS hl hc hs
  exact va_iald hx hb hK hP k 0 (am_w_at hw) rfl hi d (k9 ad H locs cells slots ls hG hP hD hS hl hc hs)
theorem aw_zald (K : am_ok X cc own nl dd) {k N : Nat} {f : Nat → Int32} {i : Int32} (d : decode cc pc = .ok (.baload, 1)) (hn : pc + 1 = n) (hw : w[k]? = some (zC N f)) (hi : vp_in i N)
    (k9 : AW X n lv (aI (f i.toNatClampNeg) :: r) w bc bs) : AW X pc lv (aI i :: aR k :: r) w bc bs := by
  obtain ⟨p, l, e, R, s, m, args, below, meth, c, Q, D, tc, A, G, mc, ms, nL⟩ := X
  obtain ⟨hx, hb, ⟨hml, rfl⟩, hown, hts, hK, hmc, hms, hA, hlk, hF, hfr, hlo, htr⟩ := K
  subst hn
  intro ad H locs cells slots ls hG hP hD hS hl hc hs
  exact va_zald hx hb hK hP k 2 (am_w_at hw) rfl hi d (k9 ad H locs cells slots ls hG hP hD hS hl hc hs)
theorem aw_lald (K : am_ok X cc own nl dd) {k N : Nat} {f : Nat → Int64} {i : Int32} (d : decode cc pc = .ok (.laload, 1)) (hn : pc + 1 = n) (hw : w[k]? = some (jC N f)) (hi : vp_in i N)
    (k9 : AW X n lv (aL (f i.toNatClampNeg) :: r) w bc bs) : AW X pc lv (aI i :: aR k :: r) w bc bs := by
  obtain ⟨p, l, e, R, s, m, args, below, meth, c, Q, D, tc, A, G, mc, ms, nL⟩ := X
  obtain ⟨hx, hb, ⟨hml, rfl⟩, hown, hts, hK, hmc, hms, hA, hlk, hF, hfr, hlo, htr⟩ := K
  subst hn
  intro ad H locs cells slots ls hG hP hD hS hl hc hs
  exact va_lald hx hb hK hP k 1 (am_w_at hw) rfl hi d (k9 ad H locs cells slots ls hG hP hD hS hl hc hs)
theorem aw_iast (K : am_ok X cc own nl dd) {k N : Nat} {f : Nat → Int32} {i x : Int32} {w' : List am_C} (d : decode cc pc = .ok (.iastore, 1)) (hn : pc + 1 = n) (hw : w[k]? = some (iC N f)) (hi : vp_in i N) (hw' : w.set k (iC N (upd f i.toNatClampNeg x)) = w')
    (k9 : AW X n lv r w' bc bs) : AW X pc lv (aI x :: aI i :: aR k :: r) w bc bs := by
  obtain ⟨p, l, e, R, s, m, args, below, meth, c, Q, D, tc, A, G, mc, ms, nL⟩ := X
  obtain ⟨hx, hb, ⟨hml, rfl⟩, hown, hts, hK, hmc, hms, hA, hlk, hF, hfr, hlo, htr⟩ := K
  subst hn
  intro ad H locs cells slots ls hG hP hD hS hl hc hs
  subst hw'
  exact va_iast hx hb hK hP hD hS k 0 (am_w_at hw) rfl hi d (fun H1 locs1 hP1 hD1 hS1 => k9 ad H1 locs1 cells slots ls hG (by rw [am_w_set]; exact hP1) (by rw [am_w_set]; exact hD1) hS1 hl hc hs)
theorem aw_zast (K : am_ok X cc own nl dd) {k N : Nat} {f : Nat → Int32} {i x : Int32} {w' : List am_C} (d : decode cc pc = .ok (.bastore, 1)) (hn : pc + 1 = n) (hw : w[k]? = some (zC N f)) (hi : vp_in i N) (hw' : w.set k (zC N (upd f i.toNatClampNeg (vp_nar .boolean x))) = w')
    (k9 : AW X n lv r w' bc bs) : AW X pc lv (aI x :: aI i :: aR k :: r) w bc bs := by
  obtain ⟨p, l, e, R, s, m, args, below, meth, c, Q, D, tc, A, G, mc, ms, nL⟩ := X
  obtain ⟨hx, hb, ⟨hml, rfl⟩, hown, hts, hK, hmc, hms, hA, hlk, hF, hfr, hlo, htr⟩ := K
  subst hn
  intro ad H locs cells slots ls hG hP hD hS hl hc hs
  subst hw'
  exact va_zast hx hb hK hP hD hS k 2 (am_w_at hw) rfl hi d (fun H1 locs1 hP1 hD1 hS1 => k9 ad H1 locs1 cells slots ls hG (by rw [am_w_set]; exact hP1) (by rw [am_w_set]; exact hD1) hS1 hl hc hs)
theorem aw_last (K : am_ok X cc own nl dd) {k N : Nat} {f : Nat → Int64} {i : Int32} {x : Int64} {w' : List am_C} (d : decode cc pc = .ok (.lastore, 1)) (hn : pc + 1 = n) (hw : w[k]? = some (jC N f)) (hi : vp_in i N) (hw' : w.set k (jC N (vp_updL f i.toNatClampNeg x)) = w')
    (k9 : AW X n lv r w' bc bs) : AW X pc lv (aL x :: aI i :: aR k :: r) w bc bs := by
  obtain ⟨p, l, e, R, s, m, args, below, meth, c, Q, D, tc, A, G, mc, ms, nL⟩ := X
  obtain ⟨hx, hb, ⟨hml, rfl⟩, hown, hts, hK, hmc, hms, hA, hlk, hF, hfr, hlo, htr⟩ := K
  subst hn
  intro ad H locs cells slots ls hG hP hD hS hl hc hs
  subst hw'
  exact va_last hx hb hK hP hD hS k 1 (am_w_at hw) rfl hi d (fun H1 locs1 hP1 hD1 hS1 => k9 ad H1 locs1 cells slots ls hG (by rw [am_w_set]; exact hP1) (by rw [am_w_set]; exact hD1) hS1 hl hc hs)
theorem aw_ilen (K : am_ok X cc own nl dd) {k N : Nat} {f : Nat → Int32} (d : decode cc pc = .ok (.arraylength, 1)) (hn : pc + 1 = n) (hw : w[k]? = some (iC N f))
    (k9 : AW X n lv (aI (nI N) :: r) w bc bs) : AW X pc lv (aR k :: r) w bc bs := by
  obtain ⟨p, l, e, R, s, m, args, below, meth, c, Q, D, tc, A, G, mc, ms, nL⟩ := X
  obtain ⟨hx, hb, ⟨hml, rfl⟩, hown, hts, hK, hmc, hms, hA, hlk, hF, hfr, hlo, htr⟩ := K
  subst hn
  intro ad H locs cells slots ls hG hP hD hS hl hc hs
  exact va_alen hx hb hK hP k 0 (am_w_at hw) rfl rfl d (k9 ad H locs cells slots ls hG hP hD hS hl hc hs)
theorem aw_llen (K : am_ok X cc own nl dd) {k N : Nat} {f : Nat → Int64} (d : decode cc pc = .ok (.arraylength, 1)) (hn : pc + 1 = n) (hw : w[k]? = some (jC N f))
    (k9 : AW X n lv (aI (nI N) :: r) w bc bs) : AW X pc lv (aR k :: r) w bc bs := by
  obtain ⟨p, l, e, R, s, m, args, below, meth, c, Q, D, tc, A, G, mc, ms, nL⟩ := X
  obtain ⟨hx, hb, ⟨hml, rfl⟩, hown, hts, hK, hmc, hms, hA, hlk, hF, hfr, hlo, htr⟩ := K
  subst hn
  intro ad H locs cells slots ls hG hP hD hS hl hc hs
  exact va_alen hx hb hK hP k 1 (am_w_at hw) rfl rfl d (k9 ad H locs cells slots ls hG hP hD hS hl hc hs)
/-! returns -/
theorem am_mono {p : Program} {l : Launch} {e : Env} {R : Room} {s : State} {m : MethodId} {args : Array Value} {below : List Frame} {meth : Method} {c : Code} {H : Heap} {locs : List Loc} {cells slots : Nat} {Q Q' : State → Prop} {g : JFrame} (h : ∀ t, Q t → Q' t) (k : W p l e R s m args below meth c H locs cells slots Q g) : W p l e R s m args below meth c H locs cells slots Q' g := fun T hT Y => by
  obtain ⟨t, a, b⟩ := k T hT Y
  exact ⟨t, a, h t b⟩
def am_Q (D : va_G) (tc : Nat → ClassId) (G : (Nat → Nat) → Prop) (A : Nat → Prop) (post : Option am_V → List am_C → Prop) : Array Value → State → Outcome → State → Prop := fun _ st oc t => (∃ (r : Option am_V) (ad : Nat → Nat) (w : List am_C), oc = .returned (r.map (am_v ad)) ∧ G ad ∧ post r w ∧ va_P D classes (am_w ad tc w) t.heap ∧ va_K D classes (am_tys tc) t ∧ va_D A (am_w ad tc w)) ∧ va_F A st t
def am_rt (X : am_X) (ret : Option FieldType) (post : Option am_V → List am_C → Prop) : Prop := match X with
  | (p, l, e, R, s, m, args, below, meth, c, Q, D, tc, A, G, mc, ms, nL) => meth.sig.returnType = ret ∧ ∀ t : State, MQ below (am_Q D tc G A post) args s mc ms A t → Q t

theorem aw_iret (K : am_ok X cc own nl dd) {post : Option am_V → List am_C → Prop} (hr : am_rt X (some .int) post) {v : Int32} (d : decode cc pc = .ok (.ireturn, 1))  (h : post (some (aI v)) w) : AW X pc lv [aI v] w bc bs := by
  obtain ⟨p, l, e, R, s, m, args, below, meth, c, Q, D, tc, A, G, mc, ms, nL⟩ := X
  obtain ⟨hx, hb, ⟨hml, rfl⟩, hown, hts, hK, hmc, hms, hA, hlk, hF, hfr, hlo, htr⟩ := K
  obtain ⟨hr, hQ9⟩ := hr
  intro ad H locs cells slots ls hG hP hD hS hl hc hs
  refine am_mono hQ9 ?_
  refine W.widen (k := mc) (n := ms) (by omega) (by omega) ?_
  exact W.iret hx hb hr (Qc := am_Q D tc G A post) (fun t ht hW => ⟨⟨some (aI v), ad, w, rfl, hG, h, by rw [ht]; exact hP, va_K.moved hW.alike hK, hD⟩, hS.F ht⟩) hS.2.2 d hlk
theorem aw_zret (K : am_ok X cc own nl dd) {post : Option am_V → List am_C → Prop} (hr : am_rt X (some .boolean) post) {v : Int32} (d : decode cc pc = .ok (.ireturn, 1)) (hv : v = 0 ∨ v = 1) (h : post (some (aI v)) w) : AW X pc lv [aI v] w bc bs := by
  obtain ⟨p, l, e, R, s, m, args, below, meth, c, Q, D, tc, A, G, mc, ms, nL⟩ := X
  obtain ⟨hx, hb, ⟨hml, rfl⟩, hown, hts, hK, hmc, hms, hA, hlk, hF, hfr, hlo, htr⟩ := K
  obtain ⟨hr, hQ9⟩ := hr
  intro ad H locs cells slots ls hG hP hD hS hl hc hs
  refine am_mono hQ9 ?_
  refine W.widen (k := mc) (n := ms) (by omega) (by omega) ?_
  exact W.zret hx hb hr (by rcases hv with rfl | rfl <;> rfl) (Qc := am_Q D tc G A post) (fun t ht hW => ⟨⟨some (aI v), ad, w, rfl, hG, h, by rw [ht]; exact hP, va_K.moved hW.alike hK, hD⟩, hS.F ht⟩) hS.2.2 d hlk
theorem aw_lret (K : am_ok X cc own nl dd) {post : Option am_V → List am_C → Prop} (hr : am_rt X (some .long) post) {v : Int64} (d : decode cc pc = .ok (.lreturn, 1))  (h : post (some (aL v)) w) : AW X pc lv [aL v] w bc bs := by
  obtain ⟨p, l, e, R, s, m, args, below, meth, c, Q, D, tc, A, G, mc, ms, nL⟩ := X
  obtain ⟨hx, hb, ⟨hml, rfl⟩, hown, hts, hK, hmc, hms, hA, hlk, hF, hfr, hlo, htr⟩ := K
  obtain ⟨hr, hQ9⟩ := hr
  intro ad H locs cells slots ls hG hP hD hS hl hc hs
  refine am_mono hQ9 ?_
  refine W.widen (k := mc) (n := ms) (by omega) (by omega) ?_
  exact W.lret hx hb hr (Qc := am_Q D tc G A post) (fun t ht hW => ⟨⟨some (aL v), ad, w, rfl, hG, h, by rw [ht]; exact hP, va_K.moved hW.alike hK, hD⟩, hS.F ht⟩) hS.2.2 d hlk
theorem aw_vret (K : am_ok X cc own nl dd) {post : Option am_V → List am_C → Prop} (hr : am_rt X (none) post)  (d : decode cc pc = .ok (.return_, 1))  (h : post (none) w) : AW X pc lv [] w bc bs := by
  obtain ⟨p, l, e, R, s, m, args, below, meth, c, Q, D, tc, A, G, mc, ms, nL⟩ := X
  obtain ⟨hx, hb, ⟨hml, rfl⟩, hown, hts, hK, hmc, hms, hA, hlk, hF, hfr, hlo, htr⟩ := K
  obtain ⟨hr, hQ9⟩ := hr
  intro ad H locs cells slots ls hG hP hD hS hl hc hs
  refine am_mono hQ9 ?_
  refine W.widen (k := mc) (n := ms) (by omega) (by omega) ?_
  exact W.vret hx hb hr (Qc := am_Q D tc G A post) (fun t ht hW => ⟨⟨none, ad, w, rfl, hG, h, by rw [ht]; exact hP, va_K.moved hW.alike hK, hD⟩, hS.F ht⟩) hS.2.2 d hlk
/-! contracts -/
abbrev am_S : Type := List am_V → List am_C → (Option am_V → List am_C → Prop) → Prop
def am_G (al : Bool) (n0 : Nat) (ad0 : Nat → Nat) : (Nat → Nat) → Prop := fun ad => match al with
  | false => ad = ad0
  | true => ∀ k, k < n0 → ad k = ad0 k
def am_Pre (D : va_G) (tc : Nat → ClassId) (ad : Nat → Nat) (w : List am_C) (sz : Nat) (U : State) : Prop := U.heap.size = sz ∧ va_P D classes (am_w ad tc w) U.heap ∧ va_K D classes (am_tys tc) U ∧ va_D (fun _ => True) (am_w ad tc w) ∧ am_F (va_A (am_w ad tc w) sz) U
def am_rm (d mc ms : Nat) : Room := { frames := d, cells := mc, slots := ms, locals := 40 * d }
def am_ws (y : MethodName) (b : ByteArray) (maxL : Nat) (ret : Option FieldType) : List Cond := .code y b maxL ret :: am_T
def Con (y : MethodName) (b : ByteArray) (maxL : Nat) (ret : Option FieldType) (d mc ms : Nat) (al : Bool) (spec : am_S) : Prop := ∀ l : Launch, l.stackTraces = false → ∀ (D : va_G) (tc : Nat → ClassId) (ad : Nat → Nat) (av : List am_V) (w : List am_C) (post : Option am_V → List am_C → Prop) (sz : Nat), spec av w post →
  Met l y (am_ws y b maxL ret) (am_rm d mc ms) (va_Pc (av.map (am_v ad)) (am_Pre D tc ad w sz)) (am_Q D tc (am_G al w.length ad) (va_A (am_w ad tc w) sz) post) mc ms (va_A (am_w ad tc w) sz)
/-- the context may give its new cells any address -/
def am_al (X : am_X) (n0 : Nat) : Prop := match X with
  | (p, l, e, R, s, m, args, below, meth, c, Q, D, tc, A, G, mc, ms, nL) => ∀ ad ad' : Nat → Nat, G ad → (∀ k, k < n0 → ad' k = ad k) → G ad'
end AM
theorem am_al.mono {X : am_X} {n n0 : Nat} (h : am_al X n0) (hn : n0 ≤ n) : am_al X n := by
  obtain ⟨p, l, e, R, s, m, args, below, meth, c, Q, D, tc, A, G, mc, ms, nL⟩ := X
  exact fun ad ad' hG hk => h ad ad' hG (fun k hk2 => hk k (Nat.lt_of_lt_of_le hk2 hn))
theorem am_G_rf (al : Bool) (n0 : Nat) (ad : Nat → Nat) : am_G al n0 ad ad := by
  cases al
  · rfl
  · exact fun _ _ => rfl
theorem Con.of {y : MethodName} {b : ByteArray} {maxL : Nat} {ret : Option FieldType} {d mc ms : Nat} {al : Bool} {spec : am_S} (hy : plainName y.cls = true) (hlen : ∀ av w post, spec av w post → (am_ea av).length ≤ maxL)
    (H : ∀ X : am_X, am_ok X b y.cls maxL d → am_nm X y.name → ∀ av w post, spec av w post → am_rt X ret post → (al = true → am_al X w.length) → AW X 0 (am_en av maxL) [] w mc ms) : Con y b maxL ret d mc ms al spec := by
  intro l htr D tc ad av w post sz hsp
  refine Met.ofW (cc := b) (maxL := maxL) (ret := ret) hy rfl ?_
  intro p e s m args below meth c s₁ B hml hv
  obtain ⟨rfl, hsz, hP, hK, hD0, hF⟩ := hv
  subst hsz
  have hD := hD0.self (sz := s.heap.size)
  have K : am_ok (p, l, e, am_rm d mc ms, s, m, (av.map (am_v ad)).toArray, below, meth, c, MQ below (am_Q D tc (am_G al w.length ad) (va_A (am_w ad tc w) s.heap.size) post) (av.map (am_v ad)).toArray s mc ms (va_A (am_w ad tc w) s.heap.size), D, tc, va_A (am_w ad tc w) s.heap.size, am_G al w.length ad, mc, ms, maxL) b y.cls maxL d :=
    ⟨B.exec, B.bytes, ⟨hml, rfl⟩, findClass_of_methodNamed B.named, fun x hx => atoms_spec (ws := am_ws y b maxL ret) B.pre x (List.mem_cons_of_mem _ hx), hK, Nat.le_refl _, Nat.le_refl _, fun q h => Or.inr h, B.notSynchronized, hF, Nat.le_refl _, Nat.le_refl _, htr⟩
  have h := H _ K (name_of_methodNamed B.named B.method).1 av w post hsp ⟨B.returns, fun t h9 => h9⟩ (fun e9 => by
    subst e9
    exact fun ad1 ad2 h1 h2 k hk => (h2 k hk).trans (h1 k hk))
  rw [lg_entry_eq]
  exact h ad s.heap [] 0 0 _ (am_G_rf al w.length ad) hP hD va_S.rf (am_entry ad av (hlen av w post hsp)) (by omega) (by omega)
/-! calls -/
theorem am_T_good {w : Cond} (h : w ∈ am_T) : (w.onTables && w.keeps) = true ∨ ∃ ty, w = .arrayClass ty := good_of_word (List.mem_filter.mp h).2
def am_cB (own : String) (idx : Nat) (y : MethodName) (b : ByteArray) (maxL : Nat) (ret : Option FieldType) (n : Nat) : Prop := Cond.methodLink own idx y ∈ am_T ∧ Cond.initialized y.cls ∈ am_T ∧ Cond.code y b maxL ret ∈ am_T ∧ (y.cls ≠ "java/lang/invoke/MethodHandle" ∧ y.cls ≠ "java/lang/invoke/VarHandle" ∧ (parseMethodDescriptor y.desc).map (fun d => d.parameters.length) = some n) ∧ maxL ≤ 21
theorem am_good_ws {y : MethodName} {b : ByteArray} {maxL : Nat} {ret : Option FieldType} (h : Cond.code y b maxL ret ∈ am_T) : GoodIn am_T (am_ws y b maxL ret) := by
  intro w hw
  rcases List.mem_cons.mp hw with rfl | hw
  · exact ⟨h, am_T_good h⟩
  · exact ⟨hw, am_T_good hw⟩
theorem am_callB {R : Room} {s : State} {args : Array Value} {own : String} {idx : Nat} {y : MethodName} {b : ByteArray} {maxL : Nat} {ret : Option FieldType} {n d dd mc ms : Nat} (hts : ∀ w ∈ am_T, w.before args s = true) (hB : am_cB own idx y b maxL ret n) (hdd : d + 1 ≤ dd) (hfr : dd ≤ R.frames) (hlo : 40 * dd ≤ R.locals) : CallB R s args own idx y b maxL ret (am_ws y b maxL ret) (am_rm d mc ms) mc ms n :=
  callB_of n hts (am_good_ws hB.2.2.1) rfl rfl rfl (hts _ hB.2.1) (hts _ hB.1) hB.2.2.2.1 ⟨by show d + 1 ≤ _; omega, by
    have := hB.2.2.2.2
    show 8 + (maxL + 11) + 40 * d ≤ _
    omega⟩
section AMC
variable {p : Program} {l : Launch} {e : Env} {R : Room} {s : State} {m : MethodId} {args : Array Value} {below : List Frame} {meth : Method} {c : Code} {H : Heap} {locs : List Loc} {cells slots : Nat} {Q : State → Prop}
variable {pc : Nat} {ls : Array Slot} {rest st0 : List Value} {a : Array Value} {A A1 : Nat → Prop} {mc ms : Nat} {free : Addr → Prop} {D : va_G} {tc : Nat → ClassId} {G : (Nat → Nat) → Prop}
theorem am_go {post : Option am_V → List am_C → Prop} (hr : va_Run p l e R s m args below meth c H locs cells slots mc ms (F0 m pc ls st0) rest (am_Q D tc G A1 post a) A1) (hS : va_S A s.heap H locs) (hA : ∀ q, A1 q → A q)
    (kk : ∀ (rv : Option am_V) (ad : Nat → Nat) (w : List am_C) (H1 : Heap) (locs1 : List Loc), G ad → post rv w → va_P D classes (am_w ad tc w) H1 → va_D A (am_w ad tc w) → va_S A s.heap H1 locs1 → W p l e R s m args below meth c H1 locs1 (cells + mc) (slots + ms) Q (F0 m (pc + 3) ls ((rv.map (am_v ad)).toList ++ rest))) : W p l e R s m args below meth c H locs cells slots Q (F0 m pc ls st0) := by
  intro T hT X
  obtain ⟨v, st₀, t, T', L, h0, X', hL, e1, e2, ⟨⟨rv, ad, w, hv, hG, hp, hP, hK, hD⟩, hz, hk⟩, st⟩ := hr T hT X
  cases hv
  rw [h0] at hz hk
  obtain ⟨t2, a1, b1⟩ := kk rv ad w T'.heap (locs ++ L) hG hp (by rw [e1]; exact hP) (hD.weaken (fun _ _ _ h => hA _ h))
    ⟨Nat.le_trans hS.1 (by rw [e1]; exact hz), fun q h1 h2 => by rw [e1, hk q (Nat.lt_of_lt_of_le h1 hS.1) (fun z => h2 (hA q z))]; exact hS.2.1 q h1 h2, fun q hq => by
      rcases List.mem_append.mp hq with h | h
      · exact hS.2.2 q h
      · exact hA _ (hL q h)⟩ T' rfl X'
  exact ⟨t2, st t2 a1, b1⟩
end AMC
def am_sz : List am_V → Nat
  | [] => 0
  | .inl _ :: r => 1 + am_sz r
  | .inr (.inl _) :: r => 2 + am_sz r
  | .inr (.inr _) :: r => 1 + am_sz r
theorem am_sz_eq (ad : Nat → Nat) : ∀ r : List am_V, ((r.map (am_v ad)).map fun v => v.category).sum = am_sz r := by
  intro r
  induction r with
  | nil => rfl
  | cons v r ih =>
    rcases v with x | x | _ | x
    · simp only [List.map_cons, List.sum_cons, am_sz, ih]; rfl
    · simp only [List.map_cons, List.sum_cons, am_sz, ih]; rfl
    · simp only [List.map_cons, List.sum_cons, am_sz, ih]; rfl
    · simp only [List.map_cons, List.sum_cons, am_sz, ih]; rfl
theorem am_pre_blind {D : va_G} {tc : Nat → ClassId} {ad : Nat → Nat} {av : List Value} {w : List am_C} {sz : Nat} : FrameBlind (va_Pc av (am_Pre D tc ad w sz)) := by
  intro a U g mk q
  obtain ⟨q0, q1, qP, qK, qD, qF⟩ := q
  exact ⟨q0, q1, qP, va_K.moved (u := U) (U := U.calling g mk a) (Vm.Alike.refl U.vm) qK, qD, am_F.blind qF rfl rfl⟩
theorem am_stk (ad : Nat → Nat) (rv : Option am_V) (r : List am_V) : (rv.map (am_v ad)).toList ++ r.map (am_v ad) = (rv.toList ++ r).map (am_v ad) := by
  cases rv <;> simp
section AMD
variable {X : am_X} {cc : ByteArray} {own : String} {nl dd pc n bc bs : Nat} {lv : List (Option am_V)} {r stk av : List am_V} {w : List am_C} {y : MethodName} {b : ByteArray} {maxL d idx k ci : Nat} {ret : Option FieldType} {spec : am_S}

theorem aw_callV (K : am_ok X cc own nl dd) (hM : Con y b maxL ret d 0 0 false spec) (hB : am_cB own idx y b maxL ret av.length) (hI : Cond.instanceMethod y ∈ am_T) (hSel : Cond.selects y.cls y y ∈ am_T) (hdd : d + 1 ≤ dd) {T : u_T} {N : Nat} (hcl : classes[ci]? = some (y.cls, T, N)) {fs : List am_V} (hw : w[k]? = some (oC ci fs)) (dg : decode cc pc = .ok (.invokevirtual idx, 3)) (hn : pc + 3 = n) (hstk : stk = av.reverse ++ aR k :: r) (hr8 : am_sz r ≤ 8) {F : Option am_V → List am_C → Prop} (h : spec (aR k :: av) w F)
    (kk : ∀ (rv : Option am_V) (w' : List am_C), F rv w' → AW X n lv (rv.toList ++ r) w' bc bs) : AW X pc lv stk w bc bs := by
  obtain ⟨p, l, e, R, s, m, args, below, meth, c, Q, D, tc, A, G, mc, ms, nL⟩ := X
  obtain ⟨hx, hb, ⟨hml, rfl⟩, hown, hts, hK, hmc, hms, hA, hlk, hF, hfr, hlo, htr⟩ := K
  subst hn
  intro ad H locs cells slots ls hG hP hD hS hl hc hs
  subst hstk
  have hFc : ∀ q, va_A (am_w ad tc w) H.size q → A q := by
    intro q h9
    rcases h9 with ⟨k9, e9, h9⟩ | h9
    · exact hD.2 k9 (q, e9) h9
    · exact hA q (Nat.le_trans hS.1 h9)
  have hpre : ∀ U : State, U.heap = H → s.WarmedH U.vm → am_Pre D tc ad w H.size U := fun U hU hW => ⟨by rw [hU], by rw [hU]; exact hP, va_K.moved hW.alike hK, hD.weaken (fun _ _ _ _ => trivial), hF.to hFc hW (fun q h1 h2 => by rw [hU]; exact hS.2.1 q h1 h2)⟩
  refine am_go (va_runV (As := av.map (am_v ad)) (rest := r.map (am_v ad)) ⟨hx, hb, hml, hown, hts⟩ (hM l htr D tc ad (aR k :: av) w F H.size h) ⟨am_callB hts hB hdd hfr hlo, hts _ hI, hts _ hSel⟩ ⟨am_pre_blind, va_recv hK hP hcl (am_w_at hw), fun U hU hW => ⟨rfl, hpre U hU hW⟩⟩ rfl (by simp) hl.1 (by simp [am_v]) (lv_room (by rw [am_sz_eq]; exact hr8)) dg ⟨by omega, by omega⟩) hS hFc (fun rv ad' w' H1 locs1 hG' hF1 hP1 hD1 hS1 => ?_)
  have e9 : ad' = ad := hG'
  subst e9
  rw [am_stk]
  exact kk rv w' hF1 ad' H1 locs1 _ _ ls hG hP1 hD1 hS1 hl hc hs
theorem aw_callS (K : am_ok X cc own nl dd) (hM : Con y b maxL ret d 0 0 false spec) (hB : am_cB own idx y b maxL ret av.length) (hI : Cond.static y ∈ am_T) (hdd : d + 1 ≤ dd)  (dg : decode cc pc = .ok (.invokestatic idx, 3)) (hn : pc + 3 = n) (hstk : stk = av.reverse ++ r) (hr8 : am_sz r ≤ 8) {F : Option am_V → List am_C → Prop} (h : spec (av) w F)
    (kk : ∀ (rv : Option am_V) (w' : List am_C), F rv w' → AW X n lv (rv.toList ++ r) w' bc bs) : AW X pc lv stk w bc bs := by
  obtain ⟨p, l, e, R, s, m, args, below, meth, c, Q, D, tc, A, G, mc, ms, nL⟩ := X
  obtain ⟨hx, hb, ⟨hml, rfl⟩, hown, hts, hK, hmc, hms, hA, hlk, hF, hfr, hlo, htr⟩ := K
  subst hn
  intro ad H locs cells slots ls hG hP hD hS hl hc hs
  subst hstk
  have hFc : ∀ q, va_A (am_w ad tc w) H.size q → A q := by
    intro q h9
    rcases h9 with ⟨k9, e9, h9⟩ | h9
    · exact hD.2 k9 (q, e9) h9
    · exact hA q (Nat.le_trans hS.1 h9)
  have hpre : ∀ U : State, U.heap = H → s.WarmedH U.vm → am_Pre D tc ad w H.size U := fun U hU hW => ⟨by rw [hU], by rw [hU]; exact hP, va_K.moved hW.alike hK, hD.weaken (fun _ _ _ _ => trivial), hF.to hFc hW (fun q h1 h2 => by rw [hU]; exact hS.2.1 q h1 h2)⟩
  refine am_go (va_runS (As := av.map (am_v ad)) (rest := r.map (am_v ad)) ⟨hx, hb, hml, hown, hts⟩ (hM l htr D tc ad (av) w F H.size h) ⟨am_callB hts hB hdd hfr hlo, hts _ hI⟩ ⟨am_pre_blind, fun U hU hW => ⟨rfl, hpre U hU hW⟩⟩ rfl (by simp) hl.1 (by simp [am_v]) (lv_room (by rw [am_sz_eq]; exact hr8)) dg ⟨by omega, by omega⟩) hS hFc (fun rv ad' w' H1 locs1 hG' hF1 hP1 hD1 hS1 => ?_)
  have e9 : ad' = ad := hG'
  subst e9
  rw [am_stk]
  exact kk rv w' hF1 ad' H1 locs1 _ _ ls hG hP1 hD1 hS1 hl hc hs
def am_cN (own : String) (idx : Nat) (y : MethodName) (host : String) (b : ByteArray) (maxL : Nat) (ret : Option FieldType) (n : Nat) : Prop := (own, idx, y, host) ∈ am_NM ∧ Cond.initialized y.cls ∈ am_T ∧ Cond.code y b maxL ret ∈ am_T ∧ (y.cls ≠ "java/lang/invoke/MethodHandle" ∧ y.cls ≠ "java/lang/invoke/VarHandle" ∧ (parseMethodDescriptor y.desc).map (fun d => d.parameters.length) = some n) ∧ maxL ≤ 21
theorem am_callN {R : Room} {s : State} {args : Array Value} {own host : String} {idx : Nat} {y : MethodName} {b : ByteArray} {maxL : Nat} {ret : Option FieldType} {n d dd mc ms : Nat} {A : Nat → Prop} (hF : am_F A s) (hts : ∀ w ∈ am_T, w.before args s = true) (hB : am_cN own idx y host b maxL ret n) (hdd : d + 1 ≤ dd) (hfr : dd ≤ R.frames) (hlo : 40 * dd ≤ R.locals) : va_CN R s args own idx y host b maxL ret (am_ws y b maxL ret) (am_rm d mc ms) mc ms n :=
  va_cnB n hts (am_good_ws hB.2.2.1) rfl rfl rfl (hF.1 _ hB.1) (hts _ hB.2.1) hB.2.2.2.1 ⟨by show d + 1 ≤ _; omega, by
    have := hB.2.2.2.2
    show 8 + (maxL + 11) + 40 * d ≤ _
    omega⟩
theorem aw_callSN (K : am_ok X cc own nl dd) (hM : Con y b maxL ret d 0 0 false spec) {host : String} (hB : am_cN own idx y host b maxL ret av.length) (hI : Cond.static y ∈ am_T) (hdd : d + 1 ≤ dd)  (dg : decode cc pc = .ok (.invokestatic idx, 3)) (hn : pc + 3 = n) (hstk : stk = av.reverse ++ r) (hr8 : am_sz r ≤ 8) {F : Option am_V → List am_C → Prop} (h : spec (av) w F)
    (kk : ∀ (rv : Option am_V) (w' : List am_C), F rv w' → AW X n lv (rv.toList ++ r) w' bc bs) : AW X pc lv stk w bc bs := by
  obtain ⟨p, l, e, R, s, m, args, below, meth, c, Q, D, tc, A, G, mc, ms, nL⟩ := X
  obtain ⟨hx, hb, ⟨hml, rfl⟩, hown, hts, hK, hmc, hms, hA, hlk, hF, hfr, hlo, htr⟩ := K
  subst hn
  intro ad H locs cells slots ls hG hP hD hS hl hc hs
  subst hstk
  have hFc : ∀ q, va_A (am_w ad tc w) H.size q → A q := by
    intro q h9
    rcases h9 with ⟨k9, e9, h9⟩ | h9
    · exact hD.2 k9 (q, e9) h9
    · exact hA q (Nat.le_trans hS.1 h9)
  have hpre : ∀ U : State, U.heap = H → s.WarmedH U.vm → am_Pre D tc ad w H.size U := fun U hU hW => ⟨by rw [hU], by rw [hU]; exact hP, va_K.moved hW.alike hK, hD.weaken (fun _ _ _ _ => trivial), hF.to hFc hW (fun q h1 h2 => by rw [hU]; exact hS.2.1 q h1 h2)⟩
  refine am_go (va_runSN (As := av.map (am_v ad)) (rest := r.map (am_v ad)) ⟨hx, hb, hml, hown, hts⟩ (hM l htr D tc ad (av) w F H.size h) ⟨am_callN hF hts hB hdd hfr hlo, hts _ hI, trivial⟩ ⟨am_pre_blind, fun U hU hW => ⟨rfl, hpre U hU hW⟩⟩ rfl (by simp) hl.1 (by simp [am_v]) (lv_room (by rw [am_sz_eq]; exact hr8)) dg ⟨by omega, by omega⟩) hS hFc (fun rv ad' w' H1 locs1 hG' hF1 hP1 hD1 hS1 => ?_)
  have e9 : ad' = ad := hG'
  subst e9
  rw [am_stk]
  exact kk rv w' hF1 ad' H1 locs1 _ _ ls hG hP1 hD1 hS1 hl hc hs
end AMD
/-! making cells -/
def am_fr (n : Nat) (v : am_V) : Bool := match v with
  | .inr (.inr (some k)) => Nat.blt k n
  | _ => true
def am_fo (n : Nat) (v : Option am_V) : Bool := match v with
  | some v => am_fr n v
  | none => true
def am_fc (n : Nat) (c : am_C) : Bool := match c with
  | .inl (_, fs) => fs.all (am_fr n)
  | .inr _ => true
theorem am_v_fr {ad ad' : Nat → Nat} {n : Nat} (h : ∀ k, k < n → ad' k = ad k) {v : am_V} (hv : am_fr n v = true) : am_v ad' v = am_v ad v := by
  rcases v with x | x | _ | k
  · rfl
  · rfl
  · rfl
  · have hk : k < n := by simpa [am_fr, Nat.blt_eq] using hv
    show Value.ref (ad' k) = Value.ref (ad k)
    rw [h k hk]
theorem am_r_fr {ad ad' : Nat → Nat} {n : Nat} (h : ∀ k, k < n → ad' k = ad k) {r : List am_V} (hr : r.all (am_fr n) = true) : r.map (am_v ad') = r.map (am_v ad) :=
  List.map_congr_left fun v hv => am_v_fr h (List.all_eq_true.mp hr v hv)
theorem am_l_fr {ad ad' : Nat → Nat} {n : Nat} (h : ∀ k, k < n → ad' k = ad k) : ∀ {lv : List (Option am_V)} {k : Nat}, lv.all (am_fo n) = true → am_l ad' k lv = am_l ad k lv := by
  intro lv
  induction lv with
  | nil => intro k _; rfl
  | cons o q ih =>
    intro k hl
    have h1 := List.all_eq_true.mp hl o List.mem_cons_self
    have h2 : q.all (am_fo n) = true := List.all_eq_true.mpr fun x hx => List.all_eq_true.mp hl x (List.mem_cons_of_mem _ hx)
    cases o with
    | none => rw [am_l, am_l, ih h2]
    | some v => rw [am_l, am_l, ih h2, am_v_fr h h1]
theorem am_c_fr {ad ad' : Nat → Nat} {tc : Nat → ClassId} {n : Nat} (h : ∀ k, k < n → ad' k = ad k) {c : am_C} (hc : am_fc n c = true) : am_c ad' tc c = am_c ad tc c := by
  rcases c with ⟨ci, fs⟩ | ⟨t, N, f | f⟩
  · show Sum.inr (ci, fs.map (am_v ad')) = Sum.inr (ci, fs.map (am_v ad))
    rw [am_r_fr h hc]
  · rfl
  · rfl
theorem am_w_fr {ad ad' : Nat → Nat} {tc : Nat → ClassId} {w : List am_C} (h : ∀ k, k < w.length → ad' k = ad k) (hw : w.all (am_fc w.length) = true) : am_w ad' tc w = am_w ad tc w := by
  apply List.ext_getElem?
  intro i
  simp only [am_w, List.getElem?_mapIdx]
  cases hi : w[i]? with
  | none => rfl
  | some c =>
    have hlt : i < w.length := (List.getElem?_eq_some_iff.mp hi).1
    show some (ad' i, am_c ad' tc c) = some (ad i, am_c ad tc c)
    rw [h i hlt, am_c_fr h (List.all_eq_true.mp hw c (List.mem_of_getElem? hi))]
def am_up (ad : Nat → Nat) (n q : Nat) : Nat → Nat := fun k => if k = n then q else ad k
theorem am_up_lt (ad : Nat → Nat) (n q : Nat) : ∀ k, k < n → am_up ad n q k = ad k := fun k hk => if_neg (by omega)
theorem am_up_at (ad : Nat → Nat) (n q : Nat) : am_up ad n q n = q := if_pos rfl
section AME
variable {X : am_X} {cc : ByteArray} {own : String} {nl dd pc n bc bs : Nat} {lv : List (Option am_V)} {r : List am_V} {w : List am_C}

theorem aw_newi (K : am_ok X cc own nl dd) (hal : am_al X w.length) {z : Int32} {N' : Nat} (d : decode cc pc = .ok (.newarray .int, 2)) (hn : pc + 2 = n) (hac : Cond.arrayClass .int ∈ am_T) (hz : ¬ z < 0) (hN : z.toNatClampNeg = N') (hby : N' * componentBytes .int ≤ 536870912) (hc1 : 1 ≤ bc) (hc2 : N' ≤ bs) (hfw : w.all (am_fc w.length) = true) (hfl : lv.all (am_fo w.length) = true) (hfr9 : r.all (am_fr w.length) = true)
    (k9 : AW X n lv (aR w.length :: r) (w ++ [iC N' (fun _ => 0)]) (bc - 1) (bs - N')) : AW X pc lv (aI z :: r) w bc bs := by
  obtain ⟨p, l, e, R, s, m, args, below, meth, c, Q, D, tc, A, G, mc, ms, nL⟩ := X
  obtain ⟨hx, hb, ⟨hml, rfl⟩, hown, hts, hK, hmc, hms, hA, hlk, hF, hfr, hlo, htr⟩ := K
  subst hn
  intro ad H locs cells slots ls hG hP hD hS hl hc hs
  refine va_newa (atype := .int) hx hb (hts _ hac) rfl hK hP hD hS hA (a0 := (N', .inl (fun _ => 0))) (fun _ => rfl) hz hN hby (by omega) (by omega) d (fun q cA H1 hK1 hP1 hD1 hS1 => ?_)
  have h1 : s.vm.findClass ("[" ++ (.int : FieldType).toString) = some cA := (hK1.2 3 (cA, .int) rfl).2
  have h2 : s.vm.findClass ("[" ++ (.int : FieldType).toString) = some (tc 0) := (hK.2 0 (tc 0, .int) rfl).2
  have hcA : cA = tc 0 := Option.some.inj (h1.symm.trans h2)
  subst hcA
  have hup := am_up_lt ad w.length q
  have hw9 : am_w (am_up ad w.length q) tc (w ++ [iC N' (fun _ => 0)]) = am_w ad tc w ++ [(q, .inl (tc 0, (N', .inl (fun _ => 0))))] := by
    rw [am_w_app, am_w_fr hup hfw, am_up_at]
    rfl
  have h9 := k9 (am_up ad w.length q) H1 locs (cells + 1) (slots + N') ls (hal ad _ hG hup) (by rw [hw9]; exact hP1) (by rw [hw9]; exact hD1) hS1 (by rw [am_l_fr hup hfl]; exact hl) (by omega) (by omega)
  rw [List.map_cons, am_r_fr hup hfr9] at h9
  have e9 : am_v (am_up ad w.length q) (aR w.length) = .ref q := by
    show Value.ref (am_up ad w.length q w.length) = .ref q
    rw [am_up_at]
  rw [e9] at h9
  exact h9
theorem aw_newl (K : am_ok X cc own nl dd) (hal : am_al X w.length) {z : Int32} {N' : Nat} (d : decode cc pc = .ok (.newarray .long, 2)) (hn : pc + 2 = n) (hac : Cond.arrayClass .long ∈ am_T) (hz : ¬ z < 0) (hN : z.toNatClampNeg = N') (hby : N' * componentBytes .long ≤ 536870912) (hc1 : 1 ≤ bc) (hc2 : N' ≤ bs) (hfw : w.all (am_fc w.length) = true) (hfl : lv.all (am_fo w.length) = true) (hfr9 : r.all (am_fr w.length) = true)
    (k9 : AW X n lv (aR w.length :: r) (w ++ [jC N' (fun _ => 0)]) (bc - 1) (bs - N')) : AW X pc lv (aI z :: r) w bc bs := by
  obtain ⟨p, l, e, R, s, m, args, below, meth, c, Q, D, tc, A, G, mc, ms, nL⟩ := X
  obtain ⟨hx, hb, ⟨hml, rfl⟩, hown, hts, hK, hmc, hms, hA, hlk, hF, hfr, hlo, htr⟩ := K
  subst hn
  intro ad H locs cells slots ls hG hP hD hS hl hc hs
  refine va_newa (atype := .long) hx hb (hts _ hac) rfl hK hP hD hS hA (a0 := (N', .inr (.inl (fun _ => 0)))) (fun _ => rfl) hz hN hby (by omega) (by omega) d (fun q cA H1 hK1 hP1 hD1 hS1 => ?_)
  have h1 : s.vm.findClass ("[" ++ (.long : FieldType).toString) = some cA := (hK1.2 3 (cA, .long) rfl).2
  have h2 : s.vm.findClass ("[" ++ (.long : FieldType).toString) = some (tc 1) := (hK.2 1 (tc 1, .long) rfl).2
  have hcA : cA = tc 1 := Option.some.inj (h1.symm.trans h2)
  subst hcA
  have hup := am_up_lt ad w.length q
  have hw9 : am_w (am_up ad w.length q) tc (w ++ [jC N' (fun _ => 0)]) = am_w ad tc w ++ [(q, .inl (tc 1, (N', .inr (.inl (fun _ => 0)))))] := by
    rw [am_w_app, am_w_fr hup hfw, am_up_at]
    rfl
  have h9 := k9 (am_up ad w.length q) H1 locs (cells + 1) (slots + N') ls (hal ad _ hG hup) (by rw [hw9]; exact hP1) (by rw [hw9]; exact hD1) hS1 (by rw [am_l_fr hup hfl]; exact hl) (by omega) (by omega)
  rw [List.map_cons, am_r_fr hup hfr9] at h9
  have e9 : am_v (am_up ad w.length q) (aR w.length) = .ref q := by
    show Value.ref (am_up ad w.length q w.length) = .ref q
    rw [am_up_at]
  rw [e9] at h9
  exact h9
theorem aw_newz (K : am_ok X cc own nl dd) (hal : am_al X w.length) {z : Int32} {N' : Nat} (d : decode cc pc = .ok (.newarray .boolean, 2)) (hn : pc + 2 = n) (hac : Cond.arrayClass .boolean ∈ am_T) (hz : ¬ z < 0) (hN : z.toNatClampNeg = N') (hby : N' * componentBytes .boolean ≤ 536870912) (hc1 : 1 ≤ bc) (hc2 : N' ≤ bs) (hfw : w.all (am_fc w.length) = true) (hfl : lv.all (am_fo w.length) = true) (hfr9 : r.all (am_fr w.length) = true)
    (k9 : AW X n lv (aR w.length :: r) (w ++ [zC N' (fun _ => 0)]) (bc - 1) (bs - N')) : AW X pc lv (aI z :: r) w bc bs := by
  obtain ⟨p, l, e, R, s, m, args, below, meth, c, Q, D, tc, A, G, mc, ms, nL⟩ := X
  obtain ⟨hx, hb, ⟨hml, rfl⟩, hown, hts, hK, hmc, hms, hA, hlk, hF, hfr, hlo, htr⟩ := K
  subst hn
  intro ad H locs cells slots ls hG hP hD hS hl hc hs
  refine va_newa (atype := .boolean) hx hb (hts _ hac) rfl hK hP hD hS hA (a0 := (N', .inl (fun _ => 0))) (fun _ => rfl) hz hN hby (by omega) (by omega) d (fun q cA H1 hK1 hP1 hD1 hS1 => ?_)
  have h1 : s.vm.findClass ("[" ++ (.boolean : FieldType).toString) = some cA := (hK1.2 3 (cA, .boolean) rfl).2
  have h2 : s.vm.findClass ("[" ++ (.boolean : FieldType).toString) = some (tc 2) := (hK.2 2 (tc 2, .boolean) rfl).2
  have hcA : cA = tc 2 := Option.some.inj (h1.symm.trans h2)
  subst hcA
  have hup := am_up_lt ad w.length q
  have hw9 : am_w (am_up ad w.length q) tc (w ++ [zC N' (fun _ => 0)]) = am_w ad tc w ++ [(q, .inl (tc 2, (N', .inl (fun _ => 0))))] := by
    rw [am_w_app, am_w_fr hup hfw, am_up_at]
    rfl
  have h9 := k9 (am_up ad w.length q) H1 locs (cells + 1) (slots + N') ls (hal ad _ hG hup) (by rw [hw9]; exact hP1) (by rw [hw9]; exact hD1) hS1 (by rw [am_l_fr hup hfl]; exact hl) (by omega) (by omega)
  rw [List.map_cons, am_r_fr hup hfr9] at h9
  have e9 : am_v (am_up ad w.length q) (aR w.length) = .ref q := by
    show Value.ref (am_up ad w.length q w.length) = .ref q
    rw [am_up_at]
  rw [e9] at h9
  exact h9
def am_nw (own : String) (idx ci N : Nat) (fs : List am_V) : Prop := ∃ (C : String) (T : u_T) (ty : Nat → FieldType), classes[ci]? = some (C, T, N) ∧ (∀ w ∈ u_ws C T N, w ∈ am_T) ∧ (∀ k, k < N → parseFieldDescriptor (T k).2.2.1 = some (ty k)) ∧ Cond.classLink own idx C ∈ am_T ∧ Cond.instantiable C N ∈ am_T ∧ Cond.initialized C ∈ am_T ∧ (∀ (ad : Nat → Nat) (j : Nat), j < N → defaultValue (ty j) = vp_V (fs.map (am_v ad)) j) ∧ fs.all (am_fr 0) = true
theorem aw_new (K : am_ok X cc own nl dd) (hal : am_al X w.length) {idx ci N : Nat} {fs : List am_V} (hf : am_nw own idx ci N fs) (d : decode cc pc = .ok (.new idx, 3)) (hn : pc + 3 = n) (hc1 : 1 ≤ bc) (hc2 : N ≤ bs) (hfw : w.all (am_fc w.length) = true) (hfl : lv.all (am_fo w.length) = true) (hfr9 : r.all (am_fr w.length) = true)
    (k9 : AW X n lv (aR w.length :: r) (w ++ [oC ci fs]) (bc - 1) (bs - N)) : AW X pc lv r w bc bs := by
  obtain ⟨p, l, e, R, s, m, args, below, meth, c, Q, D, tc, A, G, mc, ms, nL⟩ := X
  obtain ⟨hx, hb, ⟨hml, rfl⟩, hown, hts, hK, hmc, hms, hA, hlk, hF, hfr, hlo, htr⟩ := K
  subst hn
  intro ad H locs cells slots ls hG hP hD hS hl hc hs
  obtain ⟨C, T, ty, h1, h2, h3, h4, h5, h6, h7, h8⟩ := hf
  refine va_new (C := C) (T := T) (N := N) (ci := ci) hx hb hts h2 ty h3 hown (hts _ h4) (hts _ h5) (hts _ h6) hK hP hD hS hA h1 (fs := fs.map (am_v ad)) (h7 ad) (by omega) (by omega) d (fun q H1 hP1 hD1 hS1 => ?_)
  have hup := am_up_lt ad w.length q
  have hfs : fs.map (am_v (am_up ad w.length q)) = fs.map (am_v ad) := am_r_fr (n := 0) (fun k hk => absurd hk (by omega)) h8
  have hw9 : am_w (am_up ad w.length q) tc (w ++ [oC ci fs]) = am_w ad tc w ++ [(q, .inr (ci, fs.map (am_v ad)))] := by
    rw [am_w_app, am_w_fr hup hfw, am_up_at]
    show _ ++ [(q, Sum.inr (ci, fs.map (am_v (am_up ad w.length q))))] = _
    rw [hfs]
  have h9 := k9 (am_up ad w.length q) H1 locs (cells + 1) (slots + N) ls (hal ad _ hG hup) (by rw [hw9]; exact hP1) (by rw [hw9]; exact hD1) hS1 (by rw [am_l_fr hup hfl]; exact hl) (by omega) (by omega)
  rw [List.map_cons, am_r_fr hup hfr9] at h9
  have e9 : am_v (am_up ad w.length q) (aR w.length) = .ref q := by
    show Value.ref (am_up ad w.length q w.length) = .ref q
    rw [am_up_at]
  rw [e9] at h9
  exact h9
theorem aw_callI {stk av : List am_V} {y : MethodName} {b : ByteArray} {maxL d0 idx k mc0 ms0 : Nat} {spec : am_S} (K : am_ok X cc own nl dd) (hal : am_al X w.length) (hM : Con y b maxL none d0 mc0 ms0 true spec) (hB : am_cB own idx y b maxL none av.length) (hI : Cond.instanceMethod y ∈ am_T) (hy1 : y.name = "<init>") (hdd : d0 + 1 ≤ dd) (dg : decode cc pc = .ok (.invokespecial idx, 3)) (hn : pc + 3 = n) (hstk : stk = av.reverse ++ aR k :: r) (hr8 : am_sz r ≤ 8) (hc1 : mc0 ≤ bc) (hc2 : ms0 ≤ bs) (hfl : lv.all (am_fo w.length) = true) (hfr9 : r.all (am_fr w.length) = true) {F : Option am_V → List am_C → Prop} (h : spec (aR k :: av) w F)
    (kk : ∀ (w' : List am_C), F none w' → AW X n lv r w' (bc - mc0) (bs - ms0)) (hno : ∀ (rv : Option am_V) (w' : List am_C), F rv w' → rv = none) : AW X pc lv stk w bc bs := by
  obtain ⟨p, l, e, R, s, m, args, below, meth, c, Q, D, tc, A, G, mc, ms, nL⟩ := X
  obtain ⟨hx, hb, ⟨hml, rfl⟩, hown, hts, hK, hmc, hms, hA, hlk, hF, hfr, hlo, htr⟩ := K
  subst hn
  intro ad H locs cells slots ls hG hP hD hS hl hc hs
  subst hstk
  have hFc : ∀ q, va_A (am_w ad tc w) H.size q → A q := by
    intro q h9
    rcases h9 with ⟨k9, e9, h9⟩ | h9
    · exact hD.2 k9 (q, e9) h9
    · exact hA q (Nat.le_trans hS.1 h9)
  have hpre : ∀ U : State, U.heap = H → s.WarmedH U.vm → am_Pre D tc ad w H.size U := fun U hU hW => ⟨by rw [hU], by rw [hU]; exact hP, va_K.moved hW.alike hK, hD.weaken (fun _ _ _ _ => trivial), hF.to hFc hW (fun q h1 h2 => by rw [hU]; exact hS.2.1 q h1 h2)⟩
  refine am_go (va_runI (As := av.map (am_v ad)) (rest := r.map (am_v ad)) (b := ad k) ⟨hx, hb, hml, hown, hts⟩ (hM l htr D tc ad (aR k :: av) w F H.size h) ⟨am_callB hts hB hdd hfr hlo, hy1, hts _ hI⟩ ⟨am_pre_blind, fun U hU hW => ⟨rfl, hpre U hU hW⟩⟩ rfl (by simp) hl.1 (by simp [am_v]) (lv_room (by rw [am_sz_eq]; exact hr8)) dg ⟨by omega, by omega⟩) hS hFc (fun rv ad' w' H1 locs1 hG' hF1 hP1 hD1 hS1 => ?_)
  have e9 := hno rv w' hF1
  subst e9
  have hup : ∀ k, k < w.length → ad' k = ad k := hG'
  have h9 := kk w' hF1 ad' H1 locs1 (cells + mc0) (slots + ms0) ls (hal ad ad' hG hup) hP1 hD1 hS1 (by rw [am_l_fr hup hfl]; exact hl) (by omega) (by omega)
  rw [am_r_fr hup hfr9] at h9
  exact h9
theorem aw_objI (K : am_ok X cc own nl dd) {idx k : Nat} (h1 : Cond.methodLink own idx Lib.objectInit ∈ am_T) (h2 : Cond.instanceMethod Lib.objectInit ∈ am_T) (h3 : Cond.code Lib.objectInit ⟨#[0xb1]⟩ 1 none ∈ am_T) (d : decode cc pc = .ok (.invokespecial idx, 3)) (hn : pc + 3 = n) (hd1 : 1 ≤ dd) (hr8 : am_sz r ≤ 8)
    (k9 : AW X n lv r w bc bs) : AW X pc lv (aR k :: r) w bc bs := by
  obtain ⟨p, l, e, R, s, m, args, below, meth, c, Q, D, tc, A, G, mc, ms, nL⟩ := X
  obtain ⟨hx, hb, ⟨hml, rfl⟩, hown, hts, hK, hmc, hms, hA, hlk, hF, hfr, hlo, htr⟩ := K
  subst hn
  intro ad H locs cells slots ls hG hP hD hS hl hc hs
  exact W.objInit hx hb hown (hts _ h1) (hts _ h2) (hts _ h3) rfl (by rw [hml]; exact hl.1) rfl d (by omega) (by show 2 * 0 + _ + 12 ≤ _; rw [am_sz_eq]; omega) (k9 ad H locs cells slots ls hG hP hD hS hl hc hs)
/-! the JDK's small members -/
def am_mm (own : String) (idx : Nat) : Prop := Cond.methodLink own idx Lib.Math.min.name ∈ am_T ∧ Cond.static Lib.Math.min.name ∈ am_T ∧ Cond.initialized "java/lang/Math" ∈ am_T ∧ Cond.code Lib.Math.min.name Lib.Math.min.code 2 (some .int) ∈ am_T
theorem aw_mmin (K : am_ok X cc own nl dd) {idx : Nat} {x y : Int32} (hm : am_mm own idx) (d : decode cc pc = .ok (.invokestatic idx, 3)) (hn : pc + 3 = n) (hr8 : am_sz r ≤ 8) (hd1 : 1 ≤ dd)
    (k9 : AW X n lv (aI (if y < x then y else x) :: r) w bc bs) : AW X pc lv (aI y :: aI x :: r) w bc bs := by
  obtain ⟨p, l, e, R, s, m, args, below, meth, c, Q, D, tc, A, G, mc, ms, nL⟩ := X
  obtain ⟨hx, hb, ⟨hml, rfl⟩, hown, hts, hK, hmc, hms, hA, hlk, hF, hfr, hlo, htr⟩ := K
  subst hn
  intro ad H locs cells slots ls hG hP hD hS hl hc hs
  exact va_mmin hx hb (by rw [hml, hl.1]) hown (hts _ hm.1) (hts _ hm.2.1) (hts _ hm.2.2.1) (hts _ hm.2.2.2) (by omega) (by rw [am_sz_eq]; omega) (by omega) (by omega) d (k9 ad H locs cells slots ls hG hP hD hS hl hc hs)
def am_mc (own : String) (idx : Nat) : Prop := Cond.methodLink own idx arraycopyName ∈ am_T ∧ Cond.native arraycopyName ∈ am_T ∧ Cond.static arraycopyName ∈ am_T ∧ Cond.initialized "java/lang/System" ∈ am_T
theorem aw_copyi (K : am_ok X cc own nl dd) {idx k0 k1 n0 n1 : Nat} {f g : Nat → Int32} {sp dp z : Int32} {w' : List am_C} (hm : am_mc own idx) (d : decode cc pc = .ok (.invokestatic idx, 3)) (hn : pc + 3 = n) (hw0 : w[k0]? = some (iC n0 f)) (hw1 : w[k1]? = some (iC n1 g)) (h1 : ¬ sp < 0) (h2 : ¬ dp < 0) (h3 : ¬ z < 0) (h4 : sp.toNatClampNeg + z.toNatClampNeg ≤ n0) (h5 : dp.toNatClampNeg + z.toNatClampNeg ≤ n1) (hr8 : am_sz r ≤ 8) (hd1 : 1 ≤ dd) (hw' : w.set k1 (iC n1 (va_cpy f g sp.toNatClampNeg dp.toNatClampNeg z.toNatClampNeg)) = w')
    (k9 : AW X n lv r w' bc bs) : AW X pc lv (aI z :: aI dp :: aR k1 :: aI sp :: aR k0 :: r) w bc bs := by
  obtain ⟨p, l, e, R, s, m, args, below, meth, c, Q, D, tc, A, G, mc, ms, nL⟩ := X
  obtain ⟨hx, hb, ⟨hml, rfl⟩, hown, hts, hK, hmc, hms, hA, hlk, hF, hfr, hlo, htr⟩ := K
  subst hn
  intro ad H locs cells slots ls hG hP hD hS hl hc hs
  subst hw'
  have hfw : nativeFrameWords "java/lang/System" "arraycopy" 5 + 11 ≤ 32 := by decide
  exact va_copyi hx hb (by rw [hml, hl.1]) hown (hts _ hm.1) (hts _ hm.2.1) (hts _ hm.2.2.1) (hts _ hm.2.2.2) hK hP hD hS k0 k1 0 0 (am_w_at hw0) (am_w_at hw1) rfl rfl rfl h1 h2 h3 h4 h5 (fun _ _ => rfl) (by omega) (by rw [am_sz_eq]; omega) d (fun H1 locs1 hP1 hD1 hS1 => k9 ad H1 locs1 cells slots ls hG (by rw [am_w_set]; exact hP1) (by rw [am_w_set]; exact hD1) hS1 hl hc hs)
/-! the static table -/
theorem aw_tabLen (K : am_ok X cc own nl dd) {idx : Nat} (hm : Cond.fieldLink own idx "StateExplore" "NUMBERINGS" "[I" ∈ am_T) (d : decode cc pc = .ok (.getstatic idx, 3)) (d1 : decode cc (pc + 3) = .ok (.arraylength, 1)) (hn : pc + 3 + 1 = n)
    (k9 : AW X n lv (aI 24 :: r) w bc bs) : AW X pc lv r w bc bs := by
  obtain ⟨p, l, e, R, s, m, args, below, meth, c, Q, D, tc, A, G, mc, ms, nL⟩ := X
  obtain ⟨hx, hb, ⟨hml, rfl⟩, hown, hts, hK, hmc, hms, hA, hlk, hF, hfr, hlo, htr⟩ := K
  subst hn
  intro ad H locs cells slots ls hG hP hD hS hl hc hs
  obtain ⟨-, -, ⟨t, hZ, hT⟩, -⟩ := hF
  refine va_gets hx hb hZ hS hown (hts _ hm) (fun _ h => h) d ?_
  exact va_tlen hx hb hT hS rfl d1 (k9 ad H locs cells slots ls hG hP hD hS hl hc hs)

theorem aw_tabNN (K : am_ok X cc own nl dd) {idx : Nat} {host : String} {z : Nat} {x : Int32} (hm : (own, idx, "StateExplore", "NUMBERINGS", "[I", host) ∈ am_NF) (d : decode cc pc = .ok (.getstatic idx, 3)) (d1 : decode cc (pc + 3) = .ok (.iload z, 2)) (d2 : decode cc (pc + 3 + 2) = .ok (.iaload, 1)) (hn : pc + 3 + 2 + 1 = n) (hv : lv[z]? = some (some (aI x))) (hi : vp_in x 24)
    (k9 : AW X n lv (aI (am_num x.toNatClampNeg) :: r) w bc bs) : AW X pc lv r w bc bs := by
  obtain ⟨p, l, e, R, s, m, args, below, meth, c, Q, D, tc, A, G, mc, ms, nL⟩ := X
  obtain ⟨hx, hb, ⟨hml, rfl⟩, hown, hts, hK, hmc, hms, hA, hlk, hF, hfr, hlo, htr⟩ := K
  subst hn
  intro ad H locs cells slots ls hG hP hD hS hl hc hs
  obtain ⟨-, hN, ⟨t, hZ, hT⟩, -⟩ := hF
  refine va_getsN hx hb hZ hS hown (va_Nw.use rfl (hN _ hm)) (fun _ h => h) d ?_
  refine lv_iload hx hb d1 (am_get hl hv) ?_
  exact va_ti hx hb hT hS hi rfl d2 (k9 ad H locs cells slots ls hG hP hD hS hl hc hs)
theorem aw_tabN_nN (K : am_ok X cc own nl dd) {idx : Nat} {host : String} {z : Fin 4} {x : Int32} (hm : (own, idx, "StateExplore", "NUMBERINGS", "[I", host) ∈ am_NF) (d : decode cc pc = .ok (.getstatic idx, 3)) (d1 : decode cc (pc + 3) = .ok (.iload_n z, 1)) (d2 : decode cc (pc + 3 + 1) = .ok (.iaload, 1)) (hn : pc + 3 + 1 + 1 = n) (hv : lv[(z : Nat)]? = some (some (aI x))) (hi : vp_in x 24)
    (k9 : AW X n lv (aI (am_num x.toNatClampNeg) :: r) w bc bs) : AW X pc lv r w bc bs := by
  obtain ⟨p, l, e, R, s, m, args, below, meth, c, Q, D, tc, A, G, mc, ms, nL⟩ := X
  obtain ⟨hx, hb, ⟨hml, rfl⟩, hown, hts, hK, hmc, hms, hA, hlk, hF, hfr, hlo, htr⟩ := K
  subst hn
  intro ad H locs cells slots ls hG hP hD hS hl hc hs
  obtain ⟨-, hN, ⟨t, hZ, hT⟩, -⟩ := hF
  refine va_getsN hx hb hZ hS hown (va_Nw.use rfl (hN _ hm)) (fun _ h => h) d ?_
  refine lv_iload_n hx hb d1 rfl (am_get hl hv) ?_
  exact va_ti hx hb hT hS hi rfl d2 (k9 ad H locs cells slots ls hG hP hD hS hl hc hs)
end AME
end
section
theorem us_SE : ∀ w ∈ u_ws R_SE F_SE 3, w ∈ am_T := am_ins (by decide +kernel) (by decide +kernel)
theorem us_Mo : ∀ w ∈ u_ws R_Mo F_Mo 12, w ∈ am_T := am_ins (by decide +kernel) (by decide +kernel)
theorem us_St : ∀ w ∈ u_ws R_St F_St 8, w ∈ am_T := am_ins (by decide +kernel) (by decide +kernel)
theorem us_Ex : ∀ w ∈ u_ws R_Ex F_Ex 11, w ∈ am_T := am_ins (by decide +kernel) (by decide +kernel)
theorem us_Dr : ∀ w ∈ u_ws R_Dr F_Dr 8, w ∈ am_T := am_ins (by decide +kernel) (by decide +kernel)
theorem us_RM : ∀ w ∈ u_ws R_RM F_RM 34, w ∈ am_T := am_ins (by decide +kernel) (by decide +kernel)
theorem wa_int : Cond.arrayClass .int ∈ am_T := am_in 110 (by decide +kernel) (by rfl)
theorem wa_long : Cond.arrayClass .long ∈ am_T := am_in 155 (by decide +kernel) (by rfl)
theorem wa_boolean : Cond.arrayClass .boolean ∈ am_T := am_in 713 (by decide +kernel) (by rfl)
theorem fd_Mo_9w : Cond.fieldLink R_Mo 9 (F_Mo 1).1 (F_Mo 1).2.1 (F_Mo 1).2.2.1 ∈ am_T := am_in 61 (by decide +kernel) (by rfl)
theorem fd_Mo_9 : am_fd R_Mo 9 1 1 := ⟨R_Mo, F_Mo, 12, rfl, by decide, fd_Mo_9w, us_Mo⟩
theorem fd_Mo_15w : Cond.fieldLink R_Mo 15 (F_Mo 2).1 (F_Mo 2).2.1 (F_Mo 2).2.2.1 ∈ am_T := am_in 63 (by decide +kernel) (by rfl)
theorem fd_Mo_15 : am_fd R_Mo 15 1 2 := ⟨R_Mo, F_Mo, 12, rfl, by decide, fd_Mo_15w, us_Mo⟩
theorem fd_Mo_21w : Cond.fieldLink R_Mo 21 (F_Mo 4).1 (F_Mo 4).2.1 (F_Mo 4).2.2.1 ∈ am_T := am_in 68 (by decide +kernel) (by rfl)
theorem fd_Mo_21 : am_fd R_Mo 21 1 4 := ⟨R_Mo, F_Mo, 12, rfl, by decide, fd_Mo_21w, us_Mo⟩
theorem fd_Mo_18w : Cond.fieldLink R_Mo 18 (F_Mo 3).1 (F_Mo 3).2.1 (F_Mo 3).2.2.1 ∈ am_T := am_in 65 (by decide +kernel) (by rfl)
theorem fd_Mo_18 : am_fd R_Mo 18 1 3 := ⟨R_Mo, F_Mo, 12, rfl, by decide, fd_Mo_18w, us_Mo⟩
theorem fd_Mo_25w : Cond.fieldLink R_Mo 25 (F_Mo 5).1 (F_Mo 5).2.1 (F_Mo 5).2.2.1 ∈ am_T := am_in 70 (by decide +kernel) (by rfl)
theorem fd_Mo_25 : am_fd R_Mo 25 1 5 := ⟨R_Mo, F_Mo, 12, rfl, by decide, fd_Mo_25w, us_Mo⟩
theorem fd_Mo_28w : Cond.fieldLink R_Mo 28 (F_Mo 6).1 (F_Mo 6).2.1 (F_Mo 6).2.2.1 ∈ am_T := am_in 73 (by decide +kernel) (by rfl)
theorem fd_Mo_28 : am_fd R_Mo 28 1 6 := ⟨R_Mo, F_Mo, 12, rfl, by decide, fd_Mo_28w, us_Mo⟩
theorem fd_Mo_40w : Cond.fieldLink R_Mo 40 (F_Mo 10).1 (F_Mo 10).2.1 (F_Mo 10).2.2.1 ∈ am_T := am_in 82 (by decide +kernel) (by rfl)
theorem fd_Mo_40 : am_fd R_Mo 40 1 10 := ⟨R_Mo, F_Mo, 12, rfl, by decide, fd_Mo_40w, us_Mo⟩
theorem fd_Mo_31w : Cond.fieldLink R_Mo 31 (F_Mo 7).1 (F_Mo 7).2.1 (F_Mo 7).2.2.1 ∈ am_T := am_in 75 (by decide +kernel) (by rfl)
theorem fd_Mo_31 : am_fd R_Mo 31 1 7 := ⟨R_Mo, F_Mo, 12, rfl, by decide, fd_Mo_31w, us_Mo⟩
theorem fd_Mo_34w : Cond.fieldLink R_Mo 34 (F_Mo 8).1 (F_Mo 8).2.1 (F_Mo 8).2.2.1 ∈ am_T := am_in 78 (by decide +kernel) (by rfl)
theorem fd_Mo_34 : am_fd R_Mo 34 1 8 := ⟨R_Mo, F_Mo, 12, rfl, by decide, fd_Mo_34w, us_Mo⟩
theorem fd_Mo_37w : Cond.fieldLink R_Mo 37 (F_Mo 9).1 (F_Mo 9).2.1 (F_Mo 9).2.2.1 ∈ am_T := am_in 80 (by decide +kernel) (by rfl)
theorem fd_Mo_37 : am_fd R_Mo 37 1 9 := ⟨R_Mo, F_Mo, 12, rfl, by decide, fd_Mo_37w, us_Mo⟩
theorem fd_Mo_47w : Cond.fieldLink R_Mo 47 (F_Mo 0).1 (F_Mo 0).2.1 (F_Mo 0).2.2.1 ∈ am_T := am_in 59 (by decide +kernel) (by rfl)
theorem fd_Mo_47 : am_fd R_Mo 47 1 0 := ⟨R_Mo, F_Mo, 12, rfl, by decide, fd_Mo_47w, us_Mo⟩
theorem fd_Mo_43w : Cond.fieldLink R_Mo 43 (F_Mo 11).1 (F_Mo 11).2.1 (F_Mo 11).2.2.1 ∈ am_T := am_in 84 (by decide +kernel) (by rfl)
theorem fd_Mo_43 : am_fd R_Mo 43 1 11 := ⟨R_Mo, F_Mo, 12, rfl, by decide, fd_Mo_43w, us_Mo⟩
theorem fd_Mo_50w : Cond.fieldLink R_Mo 50 (F_Dr 2).1 (F_Dr 2).2.1 (F_Dr 2).2.2.1 ∈ am_T := am_in 181 (by decide +kernel) (by rfl)
theorem fd_Mo_50 : am_fd R_Mo 50 4 2 := ⟨R_Dr, F_Dr, 8, rfl, by decide, fd_Mo_50w, us_Dr⟩
theorem fd_Dr_32w : Cond.fieldLink R_Dr 32 (F_Dr 0).1 (F_Dr 0).2.1 (F_Dr 0).2.2.1 ∈ am_T := am_in 176 (by decide +kernel) (by rfl)
theorem fd_Dr_32 : am_fd R_Dr 32 4 0 := ⟨R_Dr, F_Dr, 8, rfl, by decide, fd_Dr_32w, us_Dr⟩
theorem fd_Dr_9w : Cond.fieldLink R_Dr 9 (F_Dr 2).1 (F_Dr 2).2.1 (F_Dr 2).2.2.1 ∈ am_T := am_in 179 (by decide +kernel) (by rfl)
theorem fd_Dr_9 : am_fd R_Dr 9 4 2 := ⟨R_Dr, F_Dr, 8, rfl, by decide, fd_Dr_9w, us_Dr⟩
theorem fd_Dr_18w : Cond.fieldLink R_Dr 18 (F_Dr 4).1 (F_Dr 4).2.1 (F_Dr 4).2.2.1 ∈ am_T := am_in 184 (by decide +kernel) (by rfl)
theorem fd_Dr_18 : am_fd R_Dr 18 4 4 := ⟨R_Dr, F_Dr, 8, rfl, by decide, fd_Dr_18w, us_Dr⟩
theorem fd_Dr_15w : Cond.fieldLink R_Dr 15 (F_Dr 3).1 (F_Dr 3).2.1 (F_Dr 3).2.2.1 ∈ am_T := am_in 182 (by decide +kernel) (by rfl)
theorem fd_Dr_15 : am_fd R_Dr 15 4 3 := ⟨R_Dr, F_Dr, 8, rfl, by decide, fd_Dr_15w, us_Dr⟩
theorem fd_Dr_39w : Cond.fieldLink R_Dr 39 (F_Dr 1).1 (F_Dr 1).2.1 (F_Dr 1).2.2.1 ∈ am_T := am_in 177 (by decide +kernel) (by rfl)
theorem fd_Dr_39 : am_fd R_Dr 39 4 1 := ⟨R_Dr, F_Dr, 8, rfl, by decide, fd_Dr_39w, us_Dr⟩
theorem fd_Dr_22w : Cond.fieldLink R_Dr 22 (F_Dr 5).1 (F_Dr 5).2.1 (F_Dr 5).2.2.1 ∈ am_T := am_in 186 (by decide +kernel) (by rfl)
theorem fd_Dr_22 : am_fd R_Dr 22 4 5 := ⟨R_Dr, F_Dr, 8, rfl, by decide, fd_Dr_22w, us_Dr⟩
theorem fd_Dr_26w : Cond.fieldLink R_Dr 26 (F_Dr 6).1 (F_Dr 6).2.1 (F_Dr 6).2.2.1 ∈ am_T := am_in 189 (by decide +kernel) (by rfl)
theorem fd_Dr_26 : am_fd R_Dr 26 4 6 := ⟨R_Dr, F_Dr, 8, rfl, by decide, fd_Dr_26w, us_Dr⟩
theorem fd_Dr_29w : Cond.fieldLink R_Dr 29 (F_Dr 7).1 (F_Dr 7).2.1 (F_Dr 7).2.2.1 ∈ am_T := am_in 192 (by decide +kernel) (by rfl)
theorem fd_Dr_29 : am_fd R_Dr 29 4 7 := ⟨R_Dr, F_Dr, 8, rfl, by decide, fd_Dr_29w, us_Dr⟩
theorem fd_St_9w : Cond.fieldLink R_St 9 (F_St 0).1 (F_St 0).2.1 (F_St 0).2.2.1 ∈ am_T := am_in 120 (by decide +kernel) (by rfl)
theorem fd_St_9 : am_fd R_St 9 2 0 := ⟨R_St, F_St, 8, rfl, by decide, fd_St_9w, us_St⟩
theorem fd_St_15w : Cond.fieldLink R_St 15 (F_St 1).1 (F_St 1).2.1 (F_St 1).2.2.1 ∈ am_T := am_in 123 (by decide +kernel) (by rfl)
theorem fd_St_15 : am_fd R_St 15 2 1 := ⟨R_St, F_St, 8, rfl, by decide, fd_St_15w, us_St⟩
theorem fd_St_39w : Cond.fieldLink R_St 39 (F_St 7).1 (F_St 7).2.1 (F_St 7).2.2.1 ∈ am_T := am_in 137 (by decide +kernel) (by rfl)
theorem fd_St_39 : am_fd R_St 39 2 7 := ⟨R_St, F_St, 8, rfl, by decide, fd_St_39w, us_St⟩
theorem fd_St_19w : Cond.fieldLink R_St 19 (F_St 2).1 (F_St 2).2.1 (F_St 2).2.2.1 ∈ am_T := am_in 126 (by decide +kernel) (by rfl)
theorem fd_St_19 : am_fd R_St 19 2 2 := ⟨R_St, F_St, 8, rfl, by decide, fd_St_19w, us_St⟩
theorem fd_St_23w : Cond.fieldLink R_St 23 (F_St 3).1 (F_St 3).2.1 (F_St 3).2.2.1 ∈ am_T := am_in 128 (by decide +kernel) (by rfl)
theorem fd_St_23 : am_fd R_St 23 2 3 := ⟨R_St, F_St, 8, rfl, by decide, fd_St_23w, us_St⟩
theorem fd_St_50w : Cond.fieldLink R_St 50 (F_Dr 5).1 (F_Dr 5).2.1 (F_Dr 5).2.2.1 ∈ am_T := am_in 188 (by decide +kernel) (by rfl)
theorem fd_St_50 : am_fd R_St 50 4 5 := ⟨R_Dr, F_Dr, 8, rfl, by decide, fd_St_50w, us_Dr⟩
theorem fd_St_26w : Cond.fieldLink R_St 26 (F_St 4).1 (F_St 4).2.1 (F_St 4).2.2.1 ∈ am_T := am_in 130 (by decide +kernel) (by rfl)
theorem fd_St_26 : am_fd R_St 26 2 4 := ⟨R_St, F_St, 8, rfl, by decide, fd_St_26w, us_St⟩
theorem fd_St_29w : Cond.fieldLink R_St 29 (F_St 5).1 (F_St 5).2.1 (F_St 5).2.2.1 ∈ am_T := am_in 132 (by decide +kernel) (by rfl)
theorem fd_St_29 : am_fd R_St 29 2 5 := ⟨R_St, F_St, 8, rfl, by decide, fd_St_29w, us_St⟩
theorem fd_St_32w : Cond.fieldLink R_St 32 (F_St 6).1 (F_St 6).2.1 (F_St 6).2.2.1 ∈ am_T := am_in 135 (by decide +kernel) (by rfl)
theorem fd_St_32 : am_fd R_St 32 2 6 := ⟨R_St, F_St, 8, rfl, by decide, fd_St_32w, us_St⟩
theorem fd_St_60w : Cond.fieldLink R_St 60 (F_Dr 6).1 (F_Dr 6).2.1 (F_Dr 6).2.2.1 ∈ am_T := am_in 190 (by decide +kernel) (by rfl)
theorem fd_St_60 : am_fd R_St 60 4 6 := ⟨R_Dr, F_Dr, 8, rfl, by decide, fd_St_60w, us_Dr⟩
theorem fd_Ex_37w : Cond.fieldLink R_Ex 37 (F_Ex 1).1 (F_Ex 1).2.1 (F_Ex 1).2.2.1 ∈ am_T := am_in 211 (by decide +kernel) (by rfl)
theorem fd_Ex_37 : am_fd R_Ex 37 3 1 := ⟨R_Ex, F_Ex, 11, rfl, by decide, fd_Ex_37w, us_Ex⟩
theorem fd_Ex_63w : Cond.fieldLink R_Ex 63 (F_St 0).1 (F_St 0).2.1 (F_St 0).2.2.1 ∈ am_T := am_in 121 (by decide +kernel) (by rfl)
theorem fd_Ex_63 : am_fd R_Ex 63 2 0 := ⟨R_St, F_St, 8, rfl, by decide, fd_Ex_63w, us_St⟩
theorem fd_Ex_9w : Cond.fieldLink R_Ex 9 (F_Ex 2).1 (F_Ex 2).2.1 (F_Ex 2).2.2.1 ∈ am_T := am_in 212 (by decide +kernel) (by rfl)
theorem fd_Ex_9 : am_fd R_Ex 9 3 2 := ⟨R_Ex, F_Ex, 11, rfl, by decide, fd_Ex_9w, us_Ex⟩
theorem fd_Ex_15w : Cond.fieldLink R_Ex 15 (F_Ex 3).1 (F_Ex 3).2.1 (F_Ex 3).2.2.1 ∈ am_T := am_in 214 (by decide +kernel) (by rfl)
theorem fd_Ex_15 : am_fd R_Ex 15 3 3 := ⟨R_Ex, F_Ex, 11, rfl, by decide, fd_Ex_15w, us_Ex⟩
theorem fd_Ex_55w : Cond.fieldLink R_Ex 55 (F_Ex 10).1 (F_Ex 10).2.1 (F_Ex 10).2.2.1 ∈ am_T := am_in 226 (by decide +kernel) (by rfl)
theorem fd_Ex_55 : am_fd R_Ex 55 3 10 := ⟨R_Ex, F_Ex, 11, rfl, by decide, fd_Ex_55w, us_Ex⟩
theorem fd_Ex_79w : Cond.fieldLink R_Ex 79 (F_Dr 5).1 (F_Dr 5).2.1 (F_Dr 5).2.2.1 ∈ am_T := am_in 187 (by decide +kernel) (by rfl)
theorem fd_Ex_79 : am_fd R_Ex 79 4 5 := ⟨R_Dr, F_Dr, 8, rfl, by decide, fd_Ex_79w, us_Dr⟩
theorem fd_Ex_51w : Cond.fieldLink R_Ex 51 (F_Ex 9).1 (F_Ex 9).2.1 (F_Ex 9).2.2.1 ∈ am_T := am_in 225 (by decide +kernel) (by rfl)
theorem fd_Ex_51 : am_fd R_Ex 51 3 9 := ⟨R_Ex, F_Ex, 11, rfl, by decide, fd_Ex_51w, us_Ex⟩
theorem fd_Ex_91w : Cond.fieldLink R_Ex 91 (F_St 1).1 (F_St 1).2.1 (F_St 1).2.2.1 ∈ am_T := am_in 124 (by decide +kernel) (by rfl)
theorem fd_Ex_91 : am_fd R_Ex 91 2 1 := ⟨R_St, F_St, 8, rfl, by decide, fd_Ex_91w, us_St⟩
theorem fd_Ex_33w : Cond.fieldLink R_Ex 33 (F_Ex 0).1 (F_Ex 0).2.1 (F_Ex 0).2.2.1 ∈ am_T := am_in 210 (by decide +kernel) (by rfl)
theorem fd_Ex_33 : am_fd R_Ex 33 3 0 := ⟨R_Ex, F_Ex, 11, rfl, by decide, fd_Ex_33w, us_Ex⟩
theorem fd_Ex_43w : Cond.fieldLink R_Ex 43 (F_Mo 0).1 (F_Mo 0).2.1 (F_Mo 0).2.2.1 ∈ am_T := am_in 58 (by decide +kernel) (by rfl)
theorem fd_Ex_43 : am_fd R_Ex 43 1 0 := ⟨R_Mo, F_Mo, 12, rfl, by decide, fd_Ex_43w, us_Mo⟩
theorem fd_Ex_102w : Cond.fieldLink R_Ex 102 (F_St 5).1 (F_St 5).2.1 (F_St 5).2.2.1 ∈ am_T := am_in 133 (by decide +kernel) (by rfl)
theorem fd_Ex_102 : am_fd R_Ex 102 2 5 := ⟨R_St, F_St, 8, rfl, by decide, fd_Ex_102w, us_St⟩
theorem fd_Ex_30w : Cond.fieldLink R_Ex 30 (F_Ex 8).1 (F_Ex 8).2.1 (F_Ex 8).2.2.1 ∈ am_T := am_in 224 (by decide +kernel) (by rfl)
theorem fd_Ex_30 : am_fd R_Ex 30 3 8 := ⟨R_Ex, F_Ex, 11, rfl, by decide, fd_Ex_30w, us_Ex⟩
theorem fd_Ex_24w : Cond.fieldLink R_Ex 24 (F_Ex 6).1 (F_Ex 6).2.1 (F_Ex 6).2.2.1 ∈ am_T := am_in 220 (by decide +kernel) (by rfl)
theorem fd_Ex_24 : am_fd R_Ex 24 3 6 := ⟨R_Ex, F_Ex, 11, rfl, by decide, fd_Ex_24w, us_Ex⟩
theorem fd_Ex_95w : Cond.fieldLink R_Ex 95 (F_Mo 3).1 (F_Mo 3).2.1 (F_Mo 3).2.2.1 ∈ am_T := am_in 67 (by decide +kernel) (by rfl)
theorem fd_Ex_95 : am_fd R_Ex 95 1 3 := ⟨R_Mo, F_Mo, 12, rfl, by decide, fd_Ex_95w, us_Mo⟩
theorem fd_Ex_105w : Cond.fieldLink R_Ex 105 (F_Dr 2).1 (F_Dr 2).2.1 (F_Dr 2).2.2.1 ∈ am_T := am_in 180 (by decide +kernel) (by rfl)
theorem fd_Ex_105 : am_fd R_Ex 105 4 2 := ⟨R_Dr, F_Dr, 8, rfl, by decide, fd_Ex_105w, us_Dr⟩
theorem fd_Ex_108w : Cond.fieldLink R_Ex 108 (F_Mo 4).1 (F_Mo 4).2.1 (F_Mo 4).2.2.1 ∈ am_T := am_in 69 (by decide +kernel) (by rfl)
theorem fd_Ex_108 : am_fd R_Ex 108 1 4 := ⟨R_Mo, F_Mo, 12, rfl, by decide, fd_Ex_108w, us_Mo⟩
theorem fd_Ex_111w : Cond.fieldLink R_Ex 111 (F_Dr 4).1 (F_Dr 4).2.1 (F_Dr 4).2.2.1 ∈ am_T := am_in 185 (by decide +kernel) (by rfl)
theorem fd_Ex_111 : am_fd R_Ex 111 4 4 := ⟨R_Dr, F_Dr, 8, rfl, by decide, fd_Ex_111w, us_Dr⟩
theorem fd_Ex_112w : Cond.fieldLink R_Ex 112 (F_Mo 10).1 (F_Mo 10).2.1 (F_Mo 10).2.2.1 ∈ am_T := am_in 83 (by decide +kernel) (by rfl)
theorem fd_Ex_112 : am_fd R_Ex 112 1 10 := ⟨R_Mo, F_Mo, 12, rfl, by decide, fd_Ex_112w, us_Mo⟩
theorem fd_Ex_115w : Cond.fieldLink R_Ex 115 (F_Mo 5).1 (F_Mo 5).2.1 (F_Mo 5).2.2.1 ∈ am_T := am_in 72 (by decide +kernel) (by rfl)
theorem fd_Ex_115 : am_fd R_Ex 115 1 5 := ⟨R_Mo, F_Mo, 12, rfl, by decide, fd_Ex_115w, us_Mo⟩
theorem fd_Ex_121w : Cond.fieldLink R_Ex 121 (F_Dr 3).1 (F_Dr 3).2.1 (F_Dr 3).2.2.1 ∈ am_T := am_in 183 (by decide +kernel) (by rfl)
theorem fd_Ex_121 : am_fd R_Ex 121 4 3 := ⟨R_Dr, F_Dr, 8, rfl, by decide, fd_Ex_121w, us_Dr⟩
theorem fd_Ex_18w : Cond.fieldLink R_Ex 18 (F_Ex 4).1 (F_Ex 4).2.1 (F_Ex 4).2.2.1 ∈ am_T := am_in 216 (by decide +kernel) (by rfl)
theorem fd_Ex_18 : am_fd R_Ex 18 3 4 := ⟨R_Ex, F_Ex, 11, rfl, by decide, fd_Ex_18w, us_Ex⟩
theorem fd_Ex_128w : Cond.fieldLink R_Ex 128 (F_Mo 6).1 (F_Mo 6).2.1 (F_Mo 6).2.2.1 ∈ am_T := am_in 74 (by decide +kernel) (by rfl)
theorem fd_Ex_128 : am_fd R_Ex 128 1 6 := ⟨R_Mo, F_Mo, 12, rfl, by decide, fd_Ex_128w, us_Mo⟩
theorem fd_Ex_21w : Cond.fieldLink R_Ex 21 (F_Ex 5).1 (F_Ex 5).2.1 (F_Ex 5).2.2.1 ∈ am_T := am_in 218 (by decide +kernel) (by rfl)
theorem fd_Ex_21 : am_fd R_Ex 21 3 5 := ⟨R_Ex, F_Ex, 11, rfl, by decide, fd_Ex_21w, us_Ex⟩
theorem fd_Ex_145w : Cond.fieldLink R_Ex 145 (F_Mo 7).1 (F_Mo 7).2.1 (F_Mo 7).2.2.1 ∈ am_T := am_in 77 (by decide +kernel) (by rfl)
theorem fd_Ex_145 : am_fd R_Ex 145 1 7 := ⟨R_Mo, F_Mo, 12, rfl, by decide, fd_Ex_145w, us_Mo⟩
theorem fd_Ex_148w : Cond.fieldLink R_Ex 148 (F_Mo 9).1 (F_Mo 9).2.1 (F_Mo 9).2.2.1 ∈ am_T := am_in 81 (by decide +kernel) (by rfl)
theorem fd_Ex_148 : am_fd R_Ex 148 1 9 := ⟨R_Mo, F_Mo, 12, rfl, by decide, fd_Ex_148w, us_Mo⟩
theorem fd_Ex_151w : Cond.fieldLink R_Ex 151 (F_Mo 8).1 (F_Mo 8).2.1 (F_Mo 8).2.2.1 ∈ am_T := am_in 79 (by decide +kernel) (by rfl)
theorem fd_Ex_151 : am_fd R_Ex 151 1 8 := ⟨R_Mo, F_Mo, 12, rfl, by decide, fd_Ex_151w, us_Mo⟩
theorem fd_Ex_161w : Cond.fieldLink R_Ex 161 (F_Dr 6).1 (F_Dr 6).2.1 (F_Dr 6).2.2.1 ∈ am_T := am_in 191 (by decide +kernel) (by rfl)
theorem fd_Ex_161 : am_fd R_Ex 161 4 6 := ⟨R_Dr, F_Dr, 8, rfl, by decide, fd_Ex_161w, us_Dr⟩
theorem fd_Ex_27w : Cond.fieldLink R_Ex 27 (F_Ex 7).1 (F_Ex 7).2.1 (F_Ex 7).2.2.1 ∈ am_T := am_in 222 (by decide +kernel) (by rfl)
theorem fd_Ex_27 : am_fd R_Ex 27 3 7 := ⟨R_Ex, F_Ex, 11, rfl, by decide, fd_Ex_27w, us_Ex⟩
theorem fd_Ex_164w : Cond.fieldLink R_Ex 164 (F_Dr 1).1 (F_Dr 1).2.1 (F_Dr 1).2.2.1 ∈ am_T := am_in 178 (by decide +kernel) (by rfl)
theorem fd_Ex_164 : am_fd R_Ex 164 4 1 := ⟨R_Dr, F_Dr, 8, rfl, by decide, fd_Ex_164w, us_Dr⟩
theorem fd_SE_20w : Cond.fieldLink R_SE 20 (F_SE 0).1 (F_SE 0).2.1 (F_SE 0).2.2.1 ∈ am_T := am_in 250 (by decide +kernel) (by rfl)
theorem fd_SE_20 : am_fd R_SE 20 0 0 := ⟨R_SE, F_SE, 3, rfl, by decide, fd_SE_20w, us_SE⟩
theorem fd_SE_40w : Cond.fieldLink R_SE 40 (F_Mo 1).1 (F_Mo 1).2.1 (F_Mo 1).2.2.1 ∈ am_T := am_in 62 (by decide +kernel) (by rfl)
theorem fd_SE_40 : am_fd R_SE 40 1 1 := ⟨R_Mo, F_Mo, 12, rfl, by decide, fd_SE_40w, us_Mo⟩
theorem fd_SE_36w : Cond.fieldLink R_SE 36 (F_SE 2).1 (F_SE 2).2.1 (F_SE 2).2.2.1 ∈ am_T := am_in 252 (by decide +kernel) (by rfl)
theorem fd_SE_36 : am_fd R_SE 36 0 2 := ⟨R_SE, F_SE, 3, rfl, by decide, fd_SE_36w, us_SE⟩
theorem fd_SE_54w : Cond.fieldLink R_SE 54 (F_Mo 2).1 (F_Mo 2).2.1 (F_Mo 2).2.2.1 ∈ am_T := am_in 64 (by decide +kernel) (by rfl)
theorem fd_SE_54 : am_fd R_SE 54 1 2 := ⟨R_Mo, F_Mo, 12, rfl, by decide, fd_SE_54w, us_Mo⟩
theorem fd_SE_73w : Cond.fieldLink R_SE 73 (F_Mo 3).1 (F_Mo 3).2.1 (F_Mo 3).2.2.1 ∈ am_T := am_in 66 (by decide +kernel) (by rfl)
theorem fd_SE_73 : am_fd R_SE 73 1 3 := ⟨R_Mo, F_Mo, 12, rfl, by decide, fd_SE_73w, us_Mo⟩
theorem fd_SE_86w : Cond.fieldLink R_SE 86 (F_Mo 5).1 (F_Mo 5).2.1 (F_Mo 5).2.2.1 ∈ am_T := am_in 71 (by decide +kernel) (by rfl)
theorem fd_SE_86 : am_fd R_SE 86 1 5 := ⟨R_Mo, F_Mo, 12, rfl, by decide, fd_SE_86w, us_Mo⟩
theorem fd_SE_92w : Cond.fieldLink R_SE 92 (F_Mo 7).1 (F_Mo 7).2.1 (F_Mo 7).2.2.1 ∈ am_T := am_in 76 (by decide +kernel) (by rfl)
theorem fd_SE_92 : am_fd R_SE 92 1 7 := ⟨R_Mo, F_Mo, 12, rfl, by decide, fd_SE_92w, us_Mo⟩
theorem fd_SE_111w : Cond.fieldLink R_SE 111 (F_Ex 2).1 (F_Ex 2).2.1 (F_Ex 2).2.2.1 ∈ am_T := am_in 213 (by decide +kernel) (by rfl)
theorem fd_SE_111 : am_fd R_SE 111 3 2 := ⟨R_Ex, F_Ex, 11, rfl, by decide, fd_SE_111w, us_Ex⟩
theorem fd_SE_27w : Cond.fieldLink R_SE 27 (F_SE 1).1 (F_SE 1).2.1 (F_SE 1).2.2.1 ∈ am_T := am_in 251 (by decide +kernel) (by rfl)
theorem fd_SE_27 : am_fd R_SE 27 0 1 := ⟨R_SE, F_SE, 3, rfl, by decide, fd_SE_27w, us_SE⟩
theorem fd_SE_114w : Cond.fieldLink R_SE 114 (F_St 0).1 (F_St 0).2.1 (F_St 0).2.2.1 ∈ am_T := am_in 122 (by decide +kernel) (by rfl)
theorem fd_SE_114 : am_fd R_SE 114 2 0 := ⟨R_St, F_St, 8, rfl, by decide, fd_SE_114w, us_St⟩
theorem fd_SE_122w : Cond.fieldLink R_SE 122 (F_Mo 0).1 (F_Mo 0).2.1 (F_Mo 0).2.2.1 ∈ am_T := am_in 60 (by decide +kernel) (by rfl)
theorem fd_SE_122 : am_fd R_SE 122 1 0 := ⟨R_Mo, F_Mo, 12, rfl, by decide, fd_SE_122w, us_Mo⟩
theorem fd_SE_130w : Cond.fieldLink R_SE 130 (F_St 1).1 (F_St 1).2.1 (F_St 1).2.2.1 ∈ am_T := am_in 125 (by decide +kernel) (by rfl)
theorem fd_SE_130 : am_fd R_SE 130 2 1 := ⟨R_St, F_St, 8, rfl, by decide, fd_SE_130w, us_St⟩
theorem fd_SE_149w : Cond.fieldLink R_SE 149 (F_St 2).1 (F_St 2).2.1 (F_St 2).2.2.1 ∈ am_T := am_in 127 (by decide +kernel) (by rfl)
theorem fd_SE_149 : am_fd R_SE 149 2 2 := ⟨R_St, F_St, 8, rfl, by decide, fd_SE_149w, us_St⟩
theorem fd_SE_152w : Cond.fieldLink R_SE 152 (F_St 3).1 (F_St 3).2.1 (F_St 3).2.2.1 ∈ am_T := am_in 129 (by decide +kernel) (by rfl)
theorem fd_SE_152 : am_fd R_SE 152 2 3 := ⟨R_St, F_St, 8, rfl, by decide, fd_SE_152w, us_St⟩
theorem fd_SE_155w : Cond.fieldLink R_SE 155 (F_St 4).1 (F_St 4).2.1 (F_St 4).2.2.1 ∈ am_T := am_in 131 (by decide +kernel) (by rfl)
theorem fd_SE_155 : am_fd R_SE 155 2 4 := ⟨R_St, F_St, 8, rfl, by decide, fd_SE_155w, us_St⟩
theorem fd_SE_157w : Cond.fieldLink R_SE 157 (F_St 5).1 (F_St 5).2.1 (F_St 5).2.2.1 ∈ am_T := am_in 134 (by decide +kernel) (by rfl)
theorem fd_SE_157 : am_fd R_SE 157 2 5 := ⟨R_St, F_St, 8, rfl, by decide, fd_SE_157w, us_St⟩
theorem fd_SE_160w : Cond.fieldLink R_SE 160 (F_St 6).1 (F_St 6).2.1 (F_St 6).2.2.1 ∈ am_T := am_in 136 (by decide +kernel) (by rfl)
theorem fd_SE_160 : am_fd R_SE 160 2 6 := ⟨R_St, F_St, 8, rfl, by decide, fd_SE_160w, us_St⟩
theorem fd_SE_175w : Cond.fieldLink R_SE 175 (F_Ex 3).1 (F_Ex 3).2.1 (F_Ex 3).2.2.1 ∈ am_T := am_in 215 (by decide +kernel) (by rfl)
theorem fd_SE_175 : am_fd R_SE 175 3 3 := ⟨R_Ex, F_Ex, 11, rfl, by decide, fd_SE_175w, us_Ex⟩
theorem fd_SE_178w : Cond.fieldLink R_SE 178 (F_Ex 4).1 (F_Ex 4).2.1 (F_Ex 4).2.2.1 ∈ am_T := am_in 217 (by decide +kernel) (by rfl)
theorem fd_SE_178 : am_fd R_SE 178 3 4 := ⟨R_Ex, F_Ex, 11, rfl, by decide, fd_SE_178w, us_Ex⟩
theorem fd_SE_180w : Cond.fieldLink R_SE 180 (F_Ex 5).1 (F_Ex 5).2.1 (F_Ex 5).2.2.1 ∈ am_T := am_in 219 (by decide +kernel) (by rfl)
theorem fd_SE_180 : am_fd R_SE 180 3 5 := ⟨R_Ex, F_Ex, 11, rfl, by decide, fd_SE_180w, us_Ex⟩
theorem fd_SE_183w : Cond.fieldLink R_SE 183 (F_Ex 6).1 (F_Ex 6).2.1 (F_Ex 6).2.2.1 ∈ am_T := am_in 221 (by decide +kernel) (by rfl)
theorem fd_SE_183 : am_fd R_SE 183 3 6 := ⟨R_Ex, F_Ex, 11, rfl, by decide, fd_SE_183w, us_Ex⟩
theorem fd_SE_186w : Cond.fieldLink R_SE 186 (F_Ex 7).1 (F_Ex 7).2.1 (F_Ex 7).2.2.1 ∈ am_T := am_in 223 (by decide +kernel) (by rfl)
theorem fd_SE_186 : am_fd R_SE 186 3 7 := ⟨R_Ex, F_Ex, 11, rfl, by decide, fd_SE_186w, us_Ex⟩
theorem fd_RM_79w : Cond.fieldLink R_RM 79 (F_RM 0).1 (F_RM 0).2.1 (F_RM 0).2.2.1 ∈ am_T := am_in 610 (by decide +kernel) (by rfl)
theorem fd_RM_79 : am_fd R_RM 79 5 0 := ⟨R_RM, F_RM, 34, rfl, by decide, fd_RM_79w, us_RM⟩
theorem fd_RM_7w : Cond.fieldLink R_RM 7 (F_RM 3).1 (F_RM 3).2.1 (F_RM 3).2.2.1 ∈ am_T := am_in 613 (by decide +kernel) (by rfl)
theorem fd_RM_7 : am_fd R_RM 7 5 3 := ⟨R_RM, F_RM, 34, rfl, by decide, fd_RM_7w, us_RM⟩
theorem fd_RM_110w : Cond.fieldLink R_RM 110 (F_RM 4).1 (F_RM 4).2.1 (F_RM 4).2.2.1 ∈ am_T := am_in 614 (by decide +kernel) (by rfl)
theorem fd_RM_110 : am_fd R_RM 110 5 4 := ⟨R_RM, F_RM, 34, rfl, by decide, fd_RM_110w, us_RM⟩
theorem fd_RM_117w : Cond.fieldLink R_RM 117 (F_RM 5).1 (F_RM 5).2.1 (F_RM 5).2.2.1 ∈ am_T := am_in 615 (by decide +kernel) (by rfl)
theorem fd_RM_117 : am_fd R_RM 117 5 5 := ⟨R_RM, F_RM, 34, rfl, by decide, fd_RM_117w, us_RM⟩
theorem fd_RM_13w : Cond.fieldLink R_RM 13 (F_RM 6).1 (F_RM 6).2.1 (F_RM 6).2.2.1 ∈ am_T := am_in 616 (by decide +kernel) (by rfl)
theorem fd_RM_13 : am_fd R_RM 13 5 6 := ⟨R_RM, F_RM, 34, rfl, by decide, fd_RM_13w, us_RM⟩
theorem fd_RM_17w : Cond.fieldLink R_RM 17 (F_RM 7).1 (F_RM 7).2.1 (F_RM 7).2.2.1 ∈ am_T := am_in 617 (by decide +kernel) (by rfl)
theorem fd_RM_17 : am_fd R_RM 17 5 7 := ⟨R_RM, F_RM, 34, rfl, by decide, fd_RM_17w, us_RM⟩
theorem fd_RM_20w : Cond.fieldLink R_RM 20 (F_RM 8).1 (F_RM 8).2.1 (F_RM 8).2.2.1 ∈ am_T := am_in 618 (by decide +kernel) (by rfl)
theorem fd_RM_20 : am_fd R_RM 20 5 8 := ⟨R_RM, F_RM, 34, rfl, by decide, fd_RM_20w, us_RM⟩
theorem fd_RM_23w : Cond.fieldLink R_RM 23 (F_RM 9).1 (F_RM 9).2.1 (F_RM 9).2.2.1 ∈ am_T := am_in 619 (by decide +kernel) (by rfl)
theorem fd_RM_23 : am_fd R_RM 23 5 9 := ⟨R_RM, F_RM, 34, rfl, by decide, fd_RM_23w, us_RM⟩
theorem fd_RM_26w : Cond.fieldLink R_RM 26 (F_RM 10).1 (F_RM 10).2.1 (F_RM 10).2.2.1 ∈ am_T := am_in 620 (by decide +kernel) (by rfl)
theorem fd_RM_26 : am_fd R_RM 26 5 10 := ⟨R_RM, F_RM, 34, rfl, by decide, fd_RM_26w, us_RM⟩
theorem fd_RM_29w : Cond.fieldLink R_RM 29 (F_RM 11).1 (F_RM 11).2.1 (F_RM 11).2.2.1 ∈ am_T := am_in 621 (by decide +kernel) (by rfl)
theorem fd_RM_29 : am_fd R_RM 29 5 11 := ⟨R_RM, F_RM, 34, rfl, by decide, fd_RM_29w, us_RM⟩
theorem fd_RM_32w : Cond.fieldLink R_RM 32 (F_RM 12).1 (F_RM 12).2.1 (F_RM 12).2.2.1 ∈ am_T := am_in 622 (by decide +kernel) (by rfl)
theorem fd_RM_32 : am_fd R_RM 32 5 12 := ⟨R_RM, F_RM, 34, rfl, by decide, fd_RM_32w, us_RM⟩
theorem fd_RM_64w : Cond.fieldLink R_RM 64 (F_RM 30).1 (F_RM 30).2.1 (F_RM 30).2.2.1 ∈ am_T := am_in 640 (by decide +kernel) (by rfl)
theorem fd_RM_64 : am_fd R_RM 64 5 30 := ⟨R_RM, F_RM, 34, rfl, by decide, fd_RM_64w, us_RM⟩
theorem fd_RM_70w : Cond.fieldLink R_RM 70 (F_RM 1).1 (F_RM 1).2.1 (F_RM 1).2.2.1 ∈ am_T := am_in 611 (by decide +kernel) (by rfl)
theorem fd_RM_70 : am_fd R_RM 70 5 1 := ⟨R_RM, F_RM, 34, rfl, by decide, fd_RM_70w, us_RM⟩
theorem fd_RM_36w : Cond.fieldLink R_RM 36 (F_RM 13).1 (F_RM 13).2.1 (F_RM 13).2.2.1 ∈ am_T := am_in 623 (by decide +kernel) (by rfl)
theorem fd_RM_36 : am_fd R_RM 36 5 13 := ⟨R_RM, F_RM, 34, rfl, by decide, fd_RM_36w, us_RM⟩
theorem fd_RM_61w : Cond.fieldLink R_RM 61 (F_RM 29).1 (F_RM 29).2.1 (F_RM 29).2.2.1 ∈ am_T := am_in 639 (by decide +kernel) (by rfl)
theorem fd_RM_61 : am_fd R_RM 61 5 29 := ⟨R_RM, F_RM, 34, rfl, by decide, fd_RM_61w, us_RM⟩
theorem fd_RM_76w : Cond.fieldLink R_RM 76 (F_RM 14).1 (F_RM 14).2.1 (F_RM 14).2.2.1 ∈ am_T := am_in 624 (by decide +kernel) (by rfl)
theorem fd_RM_76 : am_fd R_RM 76 5 14 := ⟨R_RM, F_RM, 34, rfl, by decide, fd_RM_76w, us_RM⟩
theorem fd_RM_67w : Cond.fieldLink R_RM 67 (F_RM 31).1 (F_RM 31).2.1 (F_RM 31).2.2.1 ∈ am_T := am_in 641 (by decide +kernel) (by rfl)
theorem fd_RM_67 : am_fd R_RM 67 5 31 := ⟨R_RM, F_RM, 34, rfl, by decide, fd_RM_67w, us_RM⟩
theorem fd_RM_124w : Cond.fieldLink R_RM 124 (F_RM 32).1 (F_RM 32).2.1 (F_RM 32).2.2.1 ∈ am_T := am_in 642 (by decide +kernel) (by rfl)
theorem fd_RM_124 : am_fd R_RM 124 5 32 := ⟨R_RM, F_RM, 34, rfl, by decide, fd_RM_124w, us_RM⟩
theorem fd_RM_40w : Cond.fieldLink R_RM 40 (F_RM 22).1 (F_RM 22).2.1 (F_RM 22).2.2.1 ∈ am_T := am_in 632 (by decide +kernel) (by rfl)
theorem fd_RM_40 : am_fd R_RM 40 5 22 := ⟨R_RM, F_RM, 34, rfl, by decide, fd_RM_40w, us_RM⟩
theorem fd_RM_82w : Cond.fieldLink R_RM 82 (F_RM 15).1 (F_RM 15).2.1 (F_RM 15).2.2.1 ∈ am_T := am_in 625 (by decide +kernel) (by rfl)
theorem fd_RM_82 : am_fd R_RM 82 5 15 := ⟨R_RM, F_RM, 34, rfl, by decide, fd_RM_82w, us_RM⟩
theorem fd_RM_43w : Cond.fieldLink R_RM 43 (F_RM 23).1 (F_RM 23).2.1 (F_RM 23).2.2.1 ∈ am_T := am_in 633 (by decide +kernel) (by rfl)
theorem fd_RM_43 : am_fd R_RM 43 5 23 := ⟨R_RM, F_RM, 34, rfl, by decide, fd_RM_43w, us_RM⟩
theorem fd_RM_139w : Cond.fieldLink R_RM 139 (F_RM 33).1 (F_RM 33).2.1 (F_RM 33).2.2.1 ∈ am_T := am_in 643 (by decide +kernel) (by rfl)
theorem fd_RM_139 : am_fd R_RM 139 5 33 := ⟨R_RM, F_RM, 34, rfl, by decide, fd_RM_139w, us_RM⟩
theorem fd_RM_46w : Cond.fieldLink R_RM 46 (F_RM 24).1 (F_RM 24).2.1 (F_RM 24).2.2.1 ∈ am_T := am_in 634 (by decide +kernel) (by rfl)
theorem fd_RM_46 : am_fd R_RM 46 5 24 := ⟨R_RM, F_RM, 34, rfl, by decide, fd_RM_46w, us_RM⟩
theorem fd_RM_49w : Cond.fieldLink R_RM 49 (F_RM 25).1 (F_RM 25).2.1 (F_RM 25).2.2.1 ∈ am_T := am_in 635 (by decide +kernel) (by rfl)
theorem fd_RM_49 : am_fd R_RM 49 5 25 := ⟨R_RM, F_RM, 34, rfl, by decide, fd_RM_49w, us_RM⟩
theorem fd_RM_52w : Cond.fieldLink R_RM 52 (F_RM 26).1 (F_RM 26).2.1 (F_RM 26).2.2.1 ∈ am_T := am_in 636 (by decide +kernel) (by rfl)
theorem fd_RM_52 : am_fd R_RM 52 5 26 := ⟨R_RM, F_RM, 34, rfl, by decide, fd_RM_52w, us_RM⟩
theorem fd_RM_55w : Cond.fieldLink R_RM 55 (F_RM 27).1 (F_RM 27).2.1 (F_RM 27).2.2.1 ∈ am_T := am_in 637 (by decide +kernel) (by rfl)
theorem fd_RM_55 : am_fd R_RM 55 5 27 := ⟨R_RM, F_RM, 34, rfl, by decide, fd_RM_55w, us_RM⟩
theorem fd_RM_58w : Cond.fieldLink R_RM 58 (F_RM 28).1 (F_RM 28).2.1 (F_RM 28).2.2.1 ∈ am_T := am_in 638 (by decide +kernel) (by rfl)
theorem fd_RM_58 : am_fd R_RM 58 5 28 := ⟨R_RM, F_RM, 34, rfl, by decide, fd_RM_58w, us_RM⟩
theorem fd_RM_88w : Cond.fieldLink R_RM 88 (F_RM 17).1 (F_RM 17).2.1 (F_RM 17).2.2.1 ∈ am_T := am_in 627 (by decide +kernel) (by rfl)
theorem fd_RM_88 : am_fd R_RM 88 5 17 := ⟨R_RM, F_RM, 34, rfl, by decide, fd_RM_88w, us_RM⟩
theorem fd_RM_73w : Cond.fieldLink R_RM 73 (F_RM 2).1 (F_RM 2).2.1 (F_RM 2).2.2.1 ∈ am_T := am_in 612 (by decide +kernel) (by rfl)
theorem fd_RM_73 : am_fd R_RM 73 5 2 := ⟨R_RM, F_RM, 34, rfl, by decide, fd_RM_73w, us_RM⟩
theorem fd_RM_91w : Cond.fieldLink R_RM 91 (F_RM 18).1 (F_RM 18).2.1 (F_RM 18).2.2.1 ∈ am_T := am_in 628 (by decide +kernel) (by rfl)
theorem fd_RM_91 : am_fd R_RM 91 5 18 := ⟨R_RM, F_RM, 34, rfl, by decide, fd_RM_91w, us_RM⟩
theorem fd_RM_97w : Cond.fieldLink R_RM 97 (F_RM 20).1 (F_RM 20).2.1 (F_RM 20).2.2.1 ∈ am_T := am_in 630 (by decide +kernel) (by rfl)
theorem fd_RM_97 : am_fd R_RM 97 5 20 := ⟨R_RM, F_RM, 34, rfl, by decide, fd_RM_97w, us_RM⟩
theorem fd_RM_85w : Cond.fieldLink R_RM 85 (F_RM 16).1 (F_RM 16).2.1 (F_RM 16).2.2.1 ∈ am_T := am_in 626 (by decide +kernel) (by rfl)
theorem fd_RM_85 : am_fd R_RM 85 5 16 := ⟨R_RM, F_RM, 34, rfl, by decide, fd_RM_85w, us_RM⟩
theorem fd_RM_94w : Cond.fieldLink R_RM 94 (F_RM 19).1 (F_RM 19).2.1 (F_RM 19).2.2.1 ∈ am_T := am_in 629 (by decide +kernel) (by rfl)
theorem fd_RM_94 : am_fd R_RM 94 5 19 := ⟨R_RM, F_RM, 34, rfl, by decide, fd_RM_94w, us_RM⟩
theorem fd_RM_100w : Cond.fieldLink R_RM 100 (F_RM 21).1 (F_RM 21).2.1 (F_RM 21).2.2.1 ∈ am_T := am_in 631 (by decide +kernel) (by rfl)
theorem fd_RM_100 : am_fd R_RM 100 5 21 := ⟨R_RM, F_RM, 34, rfl, by decide, fd_RM_100w, us_RM⟩
theorem fp_Mo_18 : am_fp R_Mo 18 1 3 .int false := ⟨R_Mo, F_Mo, 12, t_Mo, rfl, by decide, fd_Mo_18w, us_Mo, t_Mo_ok, n_Mo, rfl, (fun h => nomatch h), by decide +kernel⟩
theorem fp_Mo_43 : am_fp R_Mo 43 1 11 .long false := ⟨R_Mo, F_Mo, 12, t_Mo, rfl, by decide, fd_Mo_43w, us_Mo, t_Mo_ok, n_Mo, rfl, (fun h => nomatch h), by decide +kernel⟩
theorem fp_Dr_18 : am_fp R_Dr 18 4 4 .int false := ⟨R_Dr, F_Dr, 8, t_Dr, rfl, by decide, fd_Dr_18w, us_Dr, t_Dr_ok, n_Dr, rfl, (fun h => nomatch h), by decide +kernel⟩
theorem fp_Dr_22 : am_fp R_Dr 22 4 5 .long false := ⟨R_Dr, F_Dr, 8, t_Dr, rfl, by decide, fd_Dr_22w, us_Dr, t_Dr_ok, n_Dr, rfl, (fun h => nomatch h), by decide +kernel⟩
theorem fp_Dr_26 : am_fp R_Dr 26 4 6 .int false := ⟨R_Dr, F_Dr, 8, t_Dr, rfl, by decide, fd_Dr_26w, us_Dr, t_Dr_ok, n_Dr, rfl, (fun h => nomatch h), by decide +kernel⟩
theorem fp_St_9 : am_fp R_St 9 2 0 .int false := ⟨R_St, F_St, 8, t_St, rfl, by decide, fd_St_9w, us_St, t_St_ok, n_St, rfl, (fun h => nomatch h), by decide +kernel⟩
theorem fp_Ex_9 : am_fp R_Ex 9 3 2 .int false := ⟨R_Ex, F_Ex, 11, t_Ex, rfl, by decide, fd_Ex_9w, us_Ex, t_Ex_ok, n_Ex, rfl, (fun h => nomatch h), by decide +kernel⟩
theorem fp_Ex_15 : am_fp R_Ex 15 3 3 .int false := ⟨R_Ex, F_Ex, 11, t_Ex, rfl, by decide, fd_Ex_15w, us_Ex, t_Ex_ok, n_Ex, rfl, (fun h => nomatch h), by decide +kernel⟩
theorem fp_Ex_18 : am_fp R_Ex 18 3 4 .int false := ⟨R_Ex, F_Ex, 11, t_Ex, rfl, by decide, fd_Ex_18w, us_Ex, t_Ex_ok, n_Ex, rfl, (fun h => nomatch h), by decide +kernel⟩
theorem fp_Ex_21 : am_fp R_Ex 21 3 5 .int false := ⟨R_Ex, F_Ex, 11, t_Ex, rfl, by decide, fd_Ex_21w, us_Ex, t_Ex_ok, n_Ex, rfl, (fun h => nomatch h), by decide +kernel⟩
theorem fp_Ex_24 : am_fp R_Ex 24 3 6 .int false := ⟨R_Ex, F_Ex, 11, t_Ex, rfl, by decide, fd_Ex_24w, us_Ex, t_Ex_ok, n_Ex, rfl, (fun h => nomatch h), by decide +kernel⟩
theorem fp_Ex_27 : am_fp R_Ex 27 3 7 .int false := ⟨R_Ex, F_Ex, 11, t_Ex, rfl, by decide, fd_Ex_27w, us_Ex, t_Ex_ok, n_Ex, rfl, (fun h => nomatch h), by decide +kernel⟩
theorem fp_Ex_30 : am_fp R_Ex 30 3 8 .int false := ⟨R_Ex, F_Ex, 11, t_Ex, rfl, by decide, fd_Ex_30w, us_Ex, t_Ex_ok, n_Ex, rfl, (fun h => nomatch h), by decide +kernel⟩
theorem fp_SE_40 : am_fp R_SE 40 1 1 .int false := ⟨R_Mo, F_Mo, 12, t_Mo, rfl, by decide, fd_SE_40w, us_Mo, t_Mo_ok, n_Mo, rfl, (fun h => nomatch h), by decide +kernel⟩
theorem fp_SE_54 : am_fp R_SE 54 1 2 .int false := ⟨R_Mo, F_Mo, 12, t_Mo, rfl, by decide, fd_SE_54w, us_Mo, t_Mo_ok, n_Mo, rfl, (fun h => nomatch h), by decide +kernel⟩
theorem fp_RM_79 : am_fp R_RM 79 5 0 .int false := ⟨R_RM, F_RM, 34, t_RM, rfl, by decide, fd_RM_79w, us_RM, t_RM_ok, n_RM, rfl, (fun h => nomatch h), by decide +kernel⟩
theorem fp_RM_82 : am_fp R_RM 82 5 15 .int false := ⟨R_RM, F_RM, 34, t_RM, rfl, by decide, fd_RM_82w, us_RM, t_RM_ok, n_RM, rfl, (fun h => nomatch h), by decide +kernel⟩
theorem fp_RM_85 : am_fp R_RM 85 5 16 .int false := ⟨R_RM, F_RM, 34, t_RM, rfl, by decide, fd_RM_85w, us_RM, t_RM_ok, n_RM, rfl, (fun h => nomatch h), by decide +kernel⟩
theorem fp_RM_88 : am_fp R_RM 88 5 17 .int false := ⟨R_RM, F_RM, 34, t_RM, rfl, by decide, fd_RM_88w, us_RM, t_RM_ok, n_RM, rfl, (fun h => nomatch h), by decide +kernel⟩
theorem fp_RM_91 : am_fp R_RM 91 5 18 .int false := ⟨R_RM, F_RM, 34, t_RM, rfl, by decide, fd_RM_91w, us_RM, t_RM_ok, n_RM, rfl, (fun h => nomatch h), by decide +kernel⟩
theorem fp_RM_94 : am_fp R_RM 94 5 19 .int false := ⟨R_RM, F_RM, 34, t_RM, rfl, by decide, fd_RM_94w, us_RM, t_RM_ok, n_RM, rfl, (fun h => nomatch h), by decide +kernel⟩
theorem fp_RM_97 : am_fp R_RM 97 5 20 .int false := ⟨R_RM, F_RM, 34, t_RM, rfl, by decide, fd_RM_97w, us_RM, t_RM_ok, n_RM, rfl, (fun h => nomatch h), by decide +kernel⟩
theorem fp_RM_100 : am_fp R_RM 100 5 21 .int false := ⟨R_RM, F_RM, 34, t_RM, rfl, by decide, fd_RM_100w, us_RM, t_RM_ok, n_RM, rfl, (fun h => nomatch h), by decide +kernel⟩
theorem fp_RM_7 : am_fp R_RM 7 5 3 .int false := ⟨R_RM, F_RM, 34, t_RM, rfl, by decide, fd_RM_7w, us_RM, t_RM_ok, n_RM, rfl, (fun h => nomatch h), by decide +kernel⟩
theorem fp_RM_110 : am_fp R_RM 110 5 4 .int false := ⟨R_RM, F_RM, 34, t_RM, rfl, by decide, fd_RM_110w, us_RM, t_RM_ok, n_RM, rfl, (fun h => nomatch h), by decide +kernel⟩
theorem fp_RM_117 : am_fp R_RM 117 5 5 .int false := ⟨R_RM, F_RM, 34, t_RM, rfl, by decide, fd_RM_117w, us_RM, t_RM_ok, n_RM, rfl, (fun h => nomatch h), by decide +kernel⟩
theorem fp_RM_124 : am_fp R_RM 124 5 32 .int false := ⟨R_RM, F_RM, 34, t_RM, rfl, by decide, fd_RM_124w, us_RM, t_RM_ok, n_RM, rfl, (fun h => nomatch h), by decide +kernel⟩
theorem fp_RM_139 : am_fp R_RM 139 5 33 .int false := ⟨R_RM, F_RM, 34, t_RM, rfl, by decide, fd_RM_139w, us_RM, t_RM_ok, n_RM, rfl, (fun h => nomatch h), by decide +kernel⟩
theorem wd_Dr_61 : Cond.constantLong R_Dr 61 9223372036854775807 ∈ am_T := am_in 290 (by decide +kernel) (by rfl)
theorem wd_St_48 : Cond.constantLong R_St 48 (-7046029254386353131) ∈ am_T := am_in 304 (by decide +kernel) (by rfl)
set_option maxRecDepth 20000 in
theorem cc_Mo_isBadPair : Cond.code y_Mo_isBadPair b_Mo_isBadPair 3 (some .boolean) ∈ am_T := am_in 324 (by rfl) (by rfl)
theorem cn_Mo : Cond.initialized R_Mo ∈ am_T := am_in 27 (by decide +kernel) (by rfl)
theorem ci_Mo_isBadPair : Cond.instanceMethod y_Mo_isBadPair ∈ am_T := am_in 322 (by decide +kernel) (by rfl)
theorem cs_Mo_isBadPair : Cond.selects y_Mo_isBadPair.cls y_Mo_isBadPair y_Mo_isBadPair ∈ am_T := am_in 323 (by decide +kernel) (by rfl)
theorem cl_Mo_54 : Cond.methodLink R_Mo 54 y_Mo_isBadPair ∈ am_T := am_in 321 (by decide +kernel) (by rfl)
theorem cb_Mo_54 : am_cB R_Mo 54 y_Mo_isBadPair b_Mo_isBadPair 3 (some .boolean) 2 := ⟨cl_Mo_54, cn_Mo, cc_Mo_isBadPair, ⟨by decide, by decide, by decide +kernel⟩, by decide⟩
set_option maxRecDepth 20000 in
theorem cc_SE_codeIn : Cond.code y_SE_codeIn b_SE_codeIn 3 (some .int) ∈ am_T := am_in 284 (by rfl) (by rfl)
theorem cn_SE : Cond.initialized R_SE ∈ am_T := am_in 26 (by decide +kernel) (by rfl)
theorem ct_SE_codeIn : Cond.static y_SE_codeIn ∈ am_T := am_in 283 (by decide +kernel) (by rfl)
theorem cl_SE_144 : Cond.methodLink R_SE 144 y_SE_codeIn ∈ am_T := am_in 282 (by decide +kernel) (by rfl)
theorem cb_SE_144 : am_cB R_SE 144 y_SE_codeIn b_SE_codeIn 3 (some .int) 2 := ⟨cl_SE_144, cn_SE, cc_SE_codeIn, ⟨by decide, by decide, by decide +kernel⟩, by decide⟩
set_option maxRecDepth 20000 in
theorem cc_SE_codesIn : Cond.code y_SE_codesIn b_SE_codesIn 3 (some .int) ∈ am_T := am_in 281 (by rfl) (by rfl)
theorem ct_SE_codesIn : Cond.static y_SE_codesIn ∈ am_T := am_in 280 (by decide +kernel) (by rfl)
theorem cb_Dr_46 : am_cN R_Dr 46 y_SE_codesIn R_SE b_SE_codesIn 3 (some .int) 1 := ⟨by decide +kernel, cn_SE, cc_SE_codesIn, ⟨by decide, by decide, by decide +kernel⟩, by decide⟩
set_option maxRecDepth 20000 in
theorem cc_SE_stateIn : Cond.code y_SE_stateIn b_SE_stateIn 3 (some .int) ∈ am_T := am_in 278 (by rfl) (by rfl)
theorem ct_SE_stateIn : Cond.static y_SE_stateIn ∈ am_T := am_in 277 (by decide +kernel) (by rfl)
theorem cb_Dr_42 : am_cN R_Dr 42 y_SE_stateIn R_SE b_SE_stateIn 3 (some .int) 2 := ⟨by decide +kernel, cn_SE, cc_SE_stateIn, ⟨by decide, by decide, by decide +kernel⟩, by decide⟩
theorem cb_Dr_50 : am_cN R_Dr 50 y_SE_codeIn R_SE b_SE_codeIn 3 (some .int) 2 := ⟨by decide +kernel, cn_SE, cc_SE_codeIn, ⟨by decide, by decide, by decide +kernel⟩, by decide⟩
set_option maxRecDepth 20000 in
theorem cc_Dr_statesBy : Cond.code y_Dr_statesBy b_Dr_statesBy 5 (some .long) ∈ am_T := am_in 295 (by rfl) (by rfl)
theorem cn_Dr : Cond.initialized R_Dr ∈ am_T := am_in 31 (by decide +kernel) (by rfl)
theorem ci_Dr_statesBy : Cond.instanceMethod y_Dr_statesBy ∈ am_T := am_in 294 (by decide +kernel) (by rfl)
theorem cs_Dr_statesBy : Cond.selects y_Dr_statesBy.cls y_Dr_statesBy y_Dr_statesBy ∈ am_T := am_in 1 (by decide +kernel) (by rfl)
theorem cl_Dr_66 : Cond.methodLink R_Dr 66 y_Dr_statesBy ∈ am_T := am_in 292 (by decide +kernel) (by rfl)
theorem cb_Dr_66 : am_cB R_Dr 66 y_Dr_statesBy b_Dr_statesBy 5 (some .long) 1 := ⟨cl_Dr_66, cn_Dr, cc_Dr_statesBy, ⟨by decide, by decide, by decide +kernel⟩, by decide⟩
set_option maxRecDepth 20000 in
theorem cc_Dr_codesBy : Cond.code y_Dr_codesBy b_Dr_codesBy 8 (some .long) ∈ am_T := am_in 299 (by rfl) (by rfl)
theorem ci_Dr_codesBy : Cond.instanceMethod y_Dr_codesBy ∈ am_T := am_in 298 (by decide +kernel) (by rfl)
theorem cs_Dr_codesBy : Cond.selects y_Dr_codesBy.cls y_Dr_codesBy y_Dr_codesBy ∈ am_T := am_in 2 (by decide +kernel) (by rfl)
theorem cl_Dr_70 : Cond.methodLink R_Dr 70 y_Dr_codesBy ∈ am_T := am_in 296 (by decide +kernel) (by rfl)
theorem cb_Dr_70 : am_cB R_Dr 70 y_Dr_codesBy b_Dr_codesBy 8 (some .long) 1 := ⟨cl_Dr_70, cn_Dr, cc_Dr_codesBy, ⟨by decide, by decide, by decide +kernel⟩, by decide⟩
set_option maxRecDepth 20000 in
theorem cc_Ar_fill : Cond.code y_Ar_fill b_Ar_fill 4 none ∈ am_T := am_in 465 (by rfl) (by rfl)
theorem cn_Ar : Cond.initialized R_Ar ∈ am_T := am_in 37 (by decide +kernel) (by rfl)
theorem ct_Ar_fill : Cond.static y_Ar_fill ∈ am_T := am_in 464 (by decide +kernel) (by rfl)
theorem cl_St_42 : Cond.methodLink R_St 42 y_Ar_fill ∈ am_T := am_in 463 (by decide +kernel) (by rfl)
theorem cb_St_42 : am_cB R_St 42 y_Ar_fill b_Ar_fill 4 none 2 := ⟨cl_St_42, cn_Ar, cc_Ar_fill, ⟨by decide, by decide, by decide +kernel⟩, by decide⟩
set_option maxRecDepth 20000 in
theorem cc_St_has : Cond.code y_St_has b_St_has 2 (some .boolean) ∈ am_T := am_in 316 (by rfl) (by rfl)
theorem cn_St : Cond.initialized R_St ∈ am_T := am_in 29 (by decide +kernel) (by rfl)
theorem ci_St_has : Cond.instanceMethod y_St_has ∈ am_T := am_in 314 (by decide +kernel) (by rfl)
theorem cs_St_has : Cond.selects y_St_has.cls y_St_has y_St_has ∈ am_T := am_in 315 (by decide +kernel) (by rfl)
theorem cl_St_56 : Cond.methodLink R_St 56 y_St_has ∈ am_T := am_in 313 (by decide +kernel) (by rfl)
theorem cb_St_56 : am_cB R_St 56 y_St_has b_St_has 2 (some .boolean) 1 := ⟨cl_St_56, cn_St, cc_St_has, ⟨by decide, by decide, by decide +kernel⟩, by decide⟩
set_option maxRecDepth 20000 in
theorem cc_St_clear : Cond.code y_St_clear b_St_clear 1 none ∈ am_T := am_in 462 (by rfl) (by rfl)
theorem ci_St_clear : Cond.instanceMethod y_St_clear ∈ am_T := am_in 460 (by decide +kernel) (by rfl)
theorem cs_St_clear : Cond.selects y_St_clear.cls y_St_clear y_St_clear ∈ am_T := am_in 461 (by decide +kernel) (by rfl)
theorem cl_Ex_58 : Cond.methodLink R_Ex 58 y_St_clear ∈ am_T := am_in 459 (by decide +kernel) (by rfl)
theorem cb_Ex_58 : am_cB R_Ex 58 y_St_clear b_St_clear 1 none 0 := ⟨cl_Ex_58, cn_St, cc_St_clear, ⟨by decide, by decide, by decide +kernel⟩, by decide⟩
set_option maxRecDepth 20000 in
theorem cc_Ex_begin : Cond.code y_Ex_begin b_Ex_begin 1 none ∈ am_T := am_in 271 (by rfl) (by rfl)
theorem cn_Ex : Cond.initialized R_Ex ∈ am_T := am_in 30 (by decide +kernel) (by rfl)
theorem ci_Ex_begin : Cond.instanceMethod y_Ex_begin ∈ am_T := am_in 270 (by decide +kernel) (by rfl)
theorem cs_Ex_begin : Cond.selects y_Ex_begin.cls y_Ex_begin y_Ex_begin ∈ am_T := am_in 0 (by decide +kernel) (by rfl)
theorem cl_Ex_66 : Cond.methodLink R_Ex 66 y_Ex_begin ∈ am_T := am_in 268 (by decide +kernel) (by rfl)
theorem cb_Ex_66 : am_cB R_Ex 66 y_Ex_begin b_Ex_begin 1 none 0 := ⟨cl_Ex_66, cn_Ex, cc_Ex_begin, ⟨by decide, by decide, by decide +kernel⟩, by decide⟩
set_option maxRecDepth 20000 in
theorem cc_Ex_goThrough : Cond.code y_Ex_goThrough b_Ex_goThrough 4 none ∈ am_T := am_in 328 (by rfl) (by rfl)
theorem ci_Ex_goThrough : Cond.instanceMethod y_Ex_goThrough ∈ am_T := am_in 327 (by decide +kernel) (by rfl)
theorem cs_Ex_goThrough : Cond.selects y_Ex_goThrough.cls y_Ex_goThrough y_Ex_goThrough ∈ am_T := am_in 4 (by decide +kernel) (by rfl)
theorem cl_Ex_69 : Cond.methodLink R_Ex 69 y_Ex_goThrough ∈ am_T := am_in 325 (by decide +kernel) (by rfl)
theorem cb_Ex_69 : am_cB R_Ex 69 y_Ex_goThrough b_Ex_goThrough 4 none 1 := ⟨cl_Ex_69, cn_Ex, cc_Ex_goThrough, ⟨by decide, by decide, by decide +kernel⟩, by decide⟩
set_option maxRecDepth 20000 in
theorem cc_Dr_load : Cond.code y_Dr_load b_Dr_load 4 none ∈ am_T := am_in 275 (by rfl) (by rfl)
theorem ci_Dr_load : Cond.instanceMethod y_Dr_load ∈ am_T := am_in 273 (by decide +kernel) (by rfl)
theorem cs_Dr_load : Cond.selects y_Dr_load.cls y_Dr_load y_Dr_load ∈ am_T := am_in 274 (by decide +kernel) (by rfl)
theorem cl_Ex_72 : Cond.methodLink R_Ex 72 y_Dr_load ∈ am_T := am_in 272 (by decide +kernel) (by rfl)
theorem cb_Ex_72 : am_cB R_Ex 72 y_Dr_load b_Dr_load 4 none 1 := ⟨cl_Ex_72, cn_Dr, cc_Dr_load, ⟨by decide, by decide, by decide +kernel⟩, by decide⟩
set_option maxRecDepth 20000 in
theorem cc_Dr_settle : Cond.code y_Dr_settle b_Dr_settle 6 none ∈ am_T := am_in 289 (by rfl) (by rfl)
theorem ci_Dr_settle : Cond.instanceMethod y_Dr_settle ∈ am_T := am_in 287 (by decide +kernel) (by rfl)
theorem cs_Dr_settle : Cond.selects y_Dr_settle.cls y_Dr_settle y_Dr_settle ∈ am_T := am_in 288 (by decide +kernel) (by rfl)
theorem cl_Ex_76 : Cond.methodLink R_Ex 76 y_Dr_settle ∈ am_T := am_in 286 (by decide +kernel) (by rfl)
theorem cb_Ex_76 : am_cB R_Ex 76 y_Dr_settle b_Dr_settle 6 none 0 := ⟨cl_Ex_76, cn_Dr, cc_Dr_settle, ⟨by decide, by decide, by decide +kernel⟩, by decide⟩
set_option maxRecDepth 20000 in
theorem cc_St_slotOf : Cond.code y_St_slotOf b_St_slotOf 6 (some .int) ∈ am_T := am_in 303 (by rfl) (by rfl)
theorem ci_St_slotOf : Cond.instanceMethod y_St_slotOf ∈ am_T := am_in 301 (by decide +kernel) (by rfl)
theorem cs_St_slotOf : Cond.selects y_St_slotOf.cls y_St_slotOf y_St_slotOf ∈ am_T := am_in 302 (by decide +kernel) (by rfl)
theorem cl_Ex_83 : Cond.methodLink R_Ex 83 y_St_slotOf ∈ am_T := am_in 300 (by decide +kernel) (by rfl)
theorem cb_Ex_83 : am_cB R_Ex 83 y_St_slotOf b_St_slotOf 6 (some .int) 1 := ⟨cl_Ex_83, cn_St, cc_St_slotOf, ⟨by decide, by decide, by decide +kernel⟩, by decide⟩
set_option maxRecDepth 20000 in
theorem cc_Ex_take : Cond.code y_Ex_take b_Ex_take 4 none ∈ am_T := am_in 308 (by rfl) (by rfl)
theorem ci_Ex_take : Cond.instanceMethod y_Ex_take ∈ am_T := am_in 307 (by decide +kernel) (by rfl)
theorem cs_Ex_take : Cond.selects y_Ex_take.cls y_Ex_take y_Ex_take ∈ am_T := am_in 3 (by decide +kernel) (by rfl)
theorem cl_Ex_87 : Cond.methodLink R_Ex 87 y_Ex_take ∈ am_T := am_in 305 (by decide +kernel) (by rfl)
theorem cb_Ex_87 : am_cB R_Ex 87 y_Ex_take b_Ex_take 4 none 3 := ⟨cl_Ex_87, cn_Ex, cc_Ex_take, ⟨by decide, by decide, by decide +kernel⟩, by decide⟩
set_option maxRecDepth 20000 in
theorem cc_Ex_tryRule : Cond.code y_Ex_tryRule b_Ex_tryRule 7 none ∈ am_T := am_in 332 (by rfl) (by rfl)
theorem ci_Ex_tryRule : Cond.instanceMethod y_Ex_tryRule ∈ am_T := am_in 331 (by decide +kernel) (by rfl)
theorem cs_Ex_tryRule : Cond.selects y_Ex_tryRule.cls y_Ex_tryRule y_Ex_tryRule ∈ am_T := am_in 5 (by decide +kernel) (by rfl)
theorem cl_Ex_98 : Cond.methodLink R_Ex 98 y_Ex_tryRule ∈ am_T := am_in 329 (by decide +kernel) (by rfl)
theorem cb_Ex_98 : am_cB R_Ex 98 y_Ex_tryRule b_Ex_tryRule 7 none 2 := ⟨cl_Ex_98, cn_Ex, cc_Ex_tryRule, ⟨by decide, by decide, by decide +kernel⟩, by decide⟩
set_option maxRecDepth 20000 in
theorem cc_Ex_makeStep : Cond.code y_Ex_makeStep b_Ex_makeStep 5 none ∈ am_T := am_in 336 (by rfl) (by rfl)
theorem ci_Ex_makeStep : Cond.instanceMethod y_Ex_makeStep ∈ am_T := am_in 335 (by decide +kernel) (by rfl)
theorem cs_Ex_makeStep : Cond.selects y_Ex_makeStep.cls y_Ex_makeStep y_Ex_makeStep ∈ am_T := am_in 6 (by decide +kernel) (by rfl)
theorem cl_Ex_118 : Cond.methodLink R_Ex 118 y_Ex_makeStep ∈ am_T := am_in 333 (by decide +kernel) (by rfl)
theorem cb_Ex_118 : am_cB R_Ex 118 y_Ex_makeStep b_Ex_makeStep 5 none 3 := ⟨cl_Ex_118, cn_Ex, cc_Ex_makeStep, ⟨by decide, by decide, by decide +kernel⟩, by decide⟩
set_option maxRecDepth 20000 in
theorem cc_Dr_copyOf : Cond.code y_Dr_copyOf b_Dr_copyOf 2 none ∈ am_T := am_in 340 (by rfl) (by rfl)
theorem ci_Dr_copyOf : Cond.instanceMethod y_Dr_copyOf ∈ am_T := am_in 338 (by decide +kernel) (by rfl)
theorem cs_Dr_copyOf : Cond.selects y_Dr_copyOf.cls y_Dr_copyOf y_Dr_copyOf ∈ am_T := am_in 339 (by decide +kernel) (by rfl)
theorem cl_Ex_124 : Cond.methodLink R_Ex 124 y_Dr_copyOf ∈ am_T := am_in 337 (by decide +kernel) (by rfl)
theorem cb_Ex_124 : am_cB R_Ex 124 y_Dr_copyOf b_Dr_copyOf 2 none 1 := ⟨cl_Ex_124, cn_Dr, cc_Dr_copyOf, ⟨by decide, by decide, by decide +kernel⟩, by decide⟩
set_option maxRecDepth 20000 in
theorem cc_Dr_removeCode : Cond.code y_Dr_removeCode b_Dr_removeCode 3 none ∈ am_T := am_in 347 (by rfl) (by rfl)
theorem ci_Dr_removeCode : Cond.instanceMethod y_Dr_removeCode ∈ am_T := am_in 345 (by decide +kernel) (by rfl)
theorem cs_Dr_removeCode : Cond.selects y_Dr_removeCode.cls y_Dr_removeCode y_Dr_removeCode ∈ am_T := am_in 346 (by decide +kernel) (by rfl)
theorem cl_Ex_131 : Cond.methodLink R_Ex 131 y_Dr_removeCode ∈ am_T := am_in 344 (by decide +kernel) (by rfl)
theorem cb_Ex_131 : am_cB R_Ex 131 y_Dr_removeCode b_Dr_removeCode 3 none 1 := ⟨cl_Ex_131, cn_Dr, cc_Dr_removeCode, ⟨by decide, by decide, by decide +kernel⟩, by decide⟩
set_option maxRecDepth 20000 in
theorem cc_Ex_send : Cond.code y_Ex_send b_Ex_send 7 none ∈ am_T := am_in 351 (by rfl) (by rfl)
theorem ci_Ex_send : Cond.instanceMethod y_Ex_send ∈ am_T := am_in 350 (by decide +kernel) (by rfl)
theorem cs_Ex_send : Cond.selects y_Ex_send.cls y_Ex_send y_Ex_send ∈ am_T := am_in 7 (by decide +kernel) (by rfl)
theorem cl_Ex_134 : Cond.methodLink R_Ex 134 y_Ex_send ∈ am_T := am_in 348 (by decide +kernel) (by rfl)
theorem cb_Ex_134 : am_cB R_Ex 134 y_Ex_send b_Ex_send 7 none 3 := ⟨cl_Ex_134, cn_Ex, cc_Ex_send, ⟨by decide, by decide, by decide +kernel⟩, by decide⟩
set_option maxRecDepth 20000 in
theorem cc_St_isTaken : Cond.code y_St_isTaken b_St_isTaken 2 (some .boolean) ∈ am_T := am_in 359 (by rfl) (by rfl)
theorem ci_St_isTaken : Cond.instanceMethod y_St_isTaken ∈ am_T := am_in 357 (by decide +kernel) (by rfl)
theorem cs_St_isTaken : Cond.selects y_St_isTaken.cls y_St_isTaken y_St_isTaken ∈ am_T := am_in 358 (by decide +kernel) (by rfl)
theorem cl_Ex_137 : Cond.methodLink R_Ex 137 y_St_isTaken ∈ am_T := am_in 356 (by decide +kernel) (by rfl)
theorem cb_Ex_137 : am_cB R_Ex 137 y_St_isTaken b_St_isTaken 2 (some .boolean) 1 := ⟨cl_Ex_137, cn_St, cc_St_isTaken, ⟨by decide, by decide, by decide +kernel⟩, by decide⟩
set_option maxRecDepth 20000 in
theorem cc_St_isFull : Cond.code y_St_isFull b_St_isFull 1 (some .boolean) ∈ am_T := am_in 363 (by rfl) (by rfl)
theorem ci_St_isFull : Cond.instanceMethod y_St_isFull ∈ am_T := am_in 361 (by decide +kernel) (by rfl)
theorem cs_St_isFull : Cond.selects y_St_isFull.cls y_St_isFull y_St_isFull ∈ am_T := am_in 362 (by decide +kernel) (by rfl)
theorem cl_Ex_141 : Cond.methodLink R_Ex 141 y_St_isFull ∈ am_T := am_in 360 (by decide +kernel) (by rfl)
theorem cb_Ex_141 : am_cB R_Ex 141 y_St_isFull b_St_isFull 1 (some .boolean) 0 := ⟨cl_Ex_141, cn_St, cc_St_isFull, ⟨by decide, by decide, by decide +kernel⟩, by decide⟩
set_option maxRecDepth 20000 in
theorem cc_Dr_addCode : Cond.code y_Dr_addCode b_Dr_addCode 4 none ∈ am_T := am_in 355 (by rfl) (by rfl)
theorem ci_Dr_addCode : Cond.instanceMethod y_Dr_addCode ∈ am_T := am_in 353 (by decide +kernel) (by rfl)
theorem cs_Dr_addCode : Cond.selects y_Dr_addCode.cls y_Dr_addCode y_Dr_addCode ∈ am_T := am_in 354 (by decide +kernel) (by rfl)
theorem cl_Ex_154 : Cond.methodLink R_Ex 154 y_Dr_addCode ∈ am_T := am_in 352 (by decide +kernel) (by rfl)
theorem cb_Ex_154 : am_cB R_Ex 154 y_Dr_addCode b_Dr_addCode 4 none 3 := ⟨cl_Ex_154, cn_Dr, cc_Dr_addCode, ⟨by decide, by decide, by decide +kernel⟩, by decide⟩
set_option maxRecDepth 20000 in
theorem cc_St_add : Cond.code y_St_add b_St_add 5 none ∈ am_T := am_in 312 (by rfl) (by rfl)
theorem ci_St_add : Cond.instanceMethod y_St_add ∈ am_T := am_in 310 (by decide +kernel) (by rfl)
theorem cs_St_add : Cond.selects y_St_add.cls y_St_add y_St_add ∈ am_T := am_in 311 (by decide +kernel) (by rfl)
theorem cl_Ex_157 : Cond.methodLink R_Ex 157 y_St_add ∈ am_T := am_in 309 (by decide +kernel) (by rfl)
theorem cb_Ex_157 : am_cB R_Ex 157 y_St_add b_St_add 5 none 4 := ⟨cl_Ex_157, cn_St, cc_St_add, ⟨by decide, by decide, by decide +kernel⟩, by decide⟩
set_option maxRecDepth 20000 in
theorem cc_Mo_isBadWhole : Cond.code y_Mo_isBadWhole b_Mo_isBadWhole 4 (some .boolean) ∈ am_T := am_in 320 (by rfl) (by rfl)
theorem ci_Mo_isBadWhole : Cond.instanceMethod y_Mo_isBadWhole ∈ am_T := am_in 318 (by decide +kernel) (by rfl)
theorem cs_Mo_isBadWhole : Cond.selects y_Mo_isBadWhole.cls y_Mo_isBadWhole y_Mo_isBadWhole ∈ am_T := am_in 319 (by decide +kernel) (by rfl)
theorem cl_Ex_167 : Cond.methodLink R_Ex 167 y_Mo_isBadWhole ∈ am_T := am_in 317 (by decide +kernel) (by rfl)
theorem cb_Ex_167 : am_cB R_Ex 167 y_Mo_isBadWhole b_Mo_isBadWhole 4 (some .boolean) 1 := ⟨cl_Ex_167, cn_Mo, cc_Mo_isBadWhole, ⟨by decide, by decide, by decide +kernel⟩, by decide⟩
set_option maxRecDepth 20000 in
theorem cc_Ex_forget : Cond.code y_Ex_forget b_Ex_forget 1 none ∈ am_T := am_in 458 (by rfl) (by rfl)
theorem ci_Ex_forget : Cond.instanceMethod y_Ex_forget ∈ am_T := am_in 456 (by decide +kernel) (by rfl)
theorem cs_Ex_forget : Cond.selects y_Ex_forget.cls y_Ex_forget y_Ex_forget ∈ am_T := am_in 457 (by decide +kernel) (by rfl)
theorem cl_SE_51 : Cond.methodLink R_SE 51 y_Ex_forget ∈ am_T := am_in 455 (by decide +kernel) (by rfl)
theorem cb_SE_51 : am_cB R_SE 51 y_Ex_forget b_Ex_forget 1 none 0 := ⟨cl_SE_51, cn_Ex, cc_Ex_forget, ⟨by decide, by decide, by decide +kernel⟩, by decide⟩
set_option maxRecDepth 20000 in
theorem cc_Mo_hasState : Cond.code y_Mo_hasState b_Mo_hasState 2 (some .boolean) ∈ am_T := am_in 485 (by rfl) (by rfl)
theorem ci_Mo_hasState : Cond.instanceMethod y_Mo_hasState ∈ am_T := am_in 483 (by decide +kernel) (by rfl)
theorem cs_Mo_hasState : Cond.selects y_Mo_hasState.cls y_Mo_hasState y_Mo_hasState ∈ am_T := am_in 484 (by decide +kernel) (by rfl)
theorem cl_SE_59 : Cond.methodLink R_SE 59 y_Mo_hasState ∈ am_T := am_in 482 (by decide +kernel) (by rfl)
theorem cb_SE_59 : am_cB R_SE 59 y_Mo_hasState b_Mo_hasState 2 (some .boolean) 1 := ⟨cl_SE_59, cn_Mo, cc_Mo_hasState, ⟨by decide, by decide, by decide +kernel⟩, by decide⟩
set_option maxRecDepth 20000 in
theorem cc_Mo_hasKind : Cond.code y_Mo_hasKind b_Mo_hasKind 2 (some .boolean) ∈ am_T := am_in 505 (by rfl) (by rfl)
theorem ci_Mo_hasKind : Cond.instanceMethod y_Mo_hasKind ∈ am_T := am_in 503 (by decide +kernel) (by rfl)
theorem cs_Mo_hasKind : Cond.selects y_Mo_hasKind.cls y_Mo_hasKind y_Mo_hasKind ∈ am_T := am_in 504 (by decide +kernel) (by rfl)
theorem cl_SE_68 : Cond.methodLink R_SE 68 y_Mo_hasKind ∈ am_T := am_in 502 (by decide +kernel) (by rfl)
theorem cb_SE_68 : am_cB R_SE 68 y_Mo_hasKind b_Mo_hasKind 2 (some .boolean) 1 := ⟨cl_SE_68, cn_Mo, cc_Mo_hasKind, ⟨by decide, by decide, by decide +kernel⟩, by decide⟩
set_option maxRecDepth 20000 in
theorem cc_Mo_addRule : Cond.code y_Mo_addRule b_Mo_addRule 4 (some .int) ∈ am_T := am_in 511 (by rfl) (by rfl)
theorem ci_Mo_addRule : Cond.instanceMethod y_Mo_addRule ∈ am_T := am_in 509 (by decide +kernel) (by rfl)
theorem cs_Mo_addRule : Cond.selects y_Mo_addRule.cls y_Mo_addRule y_Mo_addRule ∈ am_T := am_in 510 (by decide +kernel) (by rfl)
theorem cl_SE_78 : Cond.methodLink R_SE 78 y_Mo_addRule ∈ am_T := am_in 508 (by decide +kernel) (by rfl)
theorem cb_SE_78 : am_cB R_SE 78 y_Mo_addRule b_Mo_addRule 4 (some .int) 3 := ⟨cl_SE_78, cn_Mo, cc_Mo_addRule, ⟨by decide, by decide, by decide +kernel⟩, by decide⟩
set_option maxRecDepth 20000 in
theorem cc_Mo_addSend : Cond.code y_Mo_addSend b_Mo_addSend 5 (some .int) ∈ am_T := am_in 526 (by rfl) (by rfl)
theorem ci_Mo_addSend : Cond.instanceMethod y_Mo_addSend ∈ am_T := am_in 524 (by decide +kernel) (by rfl)
theorem cs_Mo_addSend : Cond.selects y_Mo_addSend.cls y_Mo_addSend y_Mo_addSend ∈ am_T := am_in 525 (by decide +kernel) (by rfl)
theorem cl_SE_97 : Cond.methodLink R_SE 97 y_Mo_addSend ∈ am_T := am_in 523 (by decide +kernel) (by rfl)
theorem cb_SE_97 : am_cB R_SE 97 y_Mo_addSend b_Mo_addSend 5 (some .int) 3 := ⟨cl_SE_97, cn_Mo, cc_Mo_addSend, ⟨by decide, by decide, by decide +kernel⟩, by decide⟩
theorem cl_SE_100 : Cond.methodLink R_SE 100 y_Mo_isBadPair ∈ am_T := am_in 534 (by decide +kernel) (by rfl)
theorem cb_SE_100 : am_cB R_SE 100 y_Mo_isBadPair b_Mo_isBadPair 3 (some .boolean) 2 := ⟨cl_SE_100, cn_Mo, cc_Mo_isBadPair, ⟨by decide, by decide, by decide +kernel⟩, by decide⟩
set_option maxRecDepth 20000 in
theorem cc_Mo_addBadPair : Cond.code y_Mo_addBadPair b_Mo_addBadPair 3 none ∈ am_T := am_in 538 (by rfl) (by rfl)
theorem ci_Mo_addBadPair : Cond.instanceMethod y_Mo_addBadPair ∈ am_T := am_in 536 (by decide +kernel) (by rfl)
theorem cs_Mo_addBadPair : Cond.selects y_Mo_addBadPair.cls y_Mo_addBadPair y_Mo_addBadPair ∈ am_T := am_in 537 (by decide +kernel) (by rfl)
theorem cl_SE_104 : Cond.methodLink R_SE 104 y_Mo_addBadPair ∈ am_T := am_in 535 (by decide +kernel) (by rfl)
theorem cb_SE_104 : am_cB R_SE 104 y_Mo_addBadPair b_Mo_addBadPair 3 none 2 := ⟨cl_SE_104, cn_Mo, cc_Mo_addBadPair, ⟨by decide, by decide, by decide +kernel⟩, by decide⟩
set_option maxRecDepth 20000 in
theorem cc_Ex_goOn : Cond.code y_Ex_goOn b_Ex_goOn 3 none ∈ am_T := am_in 267 (by rfl) (by rfl)
theorem ci_Ex_goOn : Cond.instanceMethod y_Ex_goOn ∈ am_T := am_in 265 (by decide +kernel) (by rfl)
theorem cs_Ex_goOn : Cond.selects y_Ex_goOn.cls y_Ex_goOn y_Ex_goOn ∈ am_T := am_in 266 (by decide +kernel) (by rfl)
theorem cl_SE_108 : Cond.methodLink R_SE 108 y_Ex_goOn ∈ am_T := am_in 264 (by decide +kernel) (by rfl)
theorem cb_SE_108 : am_cB R_SE 108 y_Ex_goOn b_Ex_goOn 3 none 1 := ⟨cl_SE_108, cn_Ex, cc_Ex_goOn, ⟨by decide, by decide, by decide +kernel⟩, by decide⟩
theorem cl_SE_119 : Cond.methodLink R_SE 119 y_St_has ∈ am_T := am_in 555 (by decide +kernel) (by rfl)
theorem cb_SE_119 : am_cB R_SE 119 y_St_has b_St_has 2 (some .boolean) 1 := ⟨cl_SE_119, cn_St, cc_St_has, ⟨by decide, by decide, by decide +kernel⟩, by decide⟩
theorem cl_SE_134 : Cond.methodLink R_SE 134 y_SE_stateIn ∈ am_T := am_in 572 (by decide +kernel) (by rfl)
theorem cb_SE_134 : am_cB R_SE 134 y_SE_stateIn b_SE_stateIn 3 (some .int) 2 := ⟨cl_SE_134, cn_SE, cc_SE_stateIn, ⟨by decide, by decide, by decide +kernel⟩, by decide⟩
theorem cl_SE_138 : Cond.methodLink R_SE 138 y_SE_codesIn ∈ am_T := am_in 580 (by decide +kernel) (by rfl)
theorem cb_SE_138 : am_cB R_SE 138 y_SE_codesIn b_SE_codesIn 3 (some .int) 1 := ⟨cl_SE_138, cn_SE, cc_SE_codesIn, ⟨by decide, by decide, by decide +kernel⟩, by decide⟩
set_option maxRecDepth 20000 in
theorem cc_St_greatestLevel : Cond.code y_St_greatestLevel b_St_greatestLevel 1 (some .int) ∈ am_T := am_in 371 (by rfl) (by rfl)
theorem ci_St_greatestLevel : Cond.instanceMethod y_St_greatestLevel ∈ am_T := am_in 369 (by decide +kernel) (by rfl)
theorem cs_St_greatestLevel : Cond.selects y_St_greatestLevel.cls y_St_greatestLevel y_St_greatestLevel ∈ am_T := am_in 370 (by decide +kernel) (by rfl)
theorem cl_SE_165 : Cond.methodLink R_SE 165 y_St_greatestLevel ∈ am_T := am_in 368 (by decide +kernel) (by rfl)
theorem cb_SE_165 : am_cB R_SE 165 y_St_greatestLevel b_St_greatestLevel 1 (some .int) 0 := ⟨cl_SE_165, cn_St, cc_St_greatestLevel, ⟨by decide, by decide, by decide +kernel⟩, by decide⟩
set_option maxRecDepth 20000 in
theorem cc_St_beforeLast : Cond.code y_St_beforeLast b_St_beforeLast 4 (some .int) ∈ am_T := am_in 602 (by rfl) (by rfl)
theorem ci_St_beforeLast : Cond.instanceMethod y_St_beforeLast ∈ am_T := am_in 600 (by decide +kernel) (by rfl)
theorem cs_St_beforeLast : Cond.selects y_St_beforeLast.cls y_St_beforeLast y_St_beforeLast ∈ am_T := am_in 601 (by decide +kernel) (by rfl)
theorem cl_SE_171 : Cond.methodLink R_SE 171 y_St_beforeLast ∈ am_T := am_in 599 (by decide +kernel) (by rfl)
theorem cb_SE_171 : am_cB R_SE 171 y_St_beforeLast b_St_beforeLast 4 (some .int) 1 := ⟨cl_SE_171, cn_St, cc_St_beforeLast, ⟨by decide, by decide, by decide +kernel⟩, by decide⟩
set_option maxRecDepth 20000 in
theorem cc_RM_throwing : Cond.code y_RM_throwing b_RM_throwing 3 (some .boolean) ∈ am_T := am_in 725 (by rfl) (by rfl)
theorem cn_RM : Cond.initialized R_RM ∈ am_T := am_in 32 (by decide +kernel) (by rfl)
theorem ci_RM_throwing : Cond.instanceMethod y_RM_throwing ∈ am_T := am_in 724 (by decide +kernel) (by rfl)
theorem cs_RM_throwing : Cond.selects y_RM_throwing.cls y_RM_throwing y_RM_throwing ∈ am_T := am_in 9 (by decide +kernel) (by rfl)
theorem cl_RM_103 : Cond.methodLink R_RM 103 y_RM_throwing ∈ am_T := am_in 722 (by decide +kernel) (by rfl)
theorem cb_RM_103 : am_cB R_RM 103 y_RM_throwing b_RM_throwing 3 (some .boolean) 2 := ⟨cl_RM_103, cn_RM, cc_RM_throwing, ⟨by decide, by decide, by decide +kernel⟩, by decide⟩
set_option maxRecDepth 20000 in
theorem cc_RM_forget : Cond.code y_RM_forget b_RM_forget 1 none ∈ am_T := am_in 729 (by rfl) (by rfl)
theorem ci_RM_forget : Cond.instanceMethod y_RM_forget ∈ am_T := am_in 728 (by decide +kernel) (by rfl)
theorem cs_RM_forget : Cond.selects y_RM_forget.cls y_RM_forget y_RM_forget ∈ am_T := am_in 10 (by decide +kernel) (by rfl)
theorem cl_RM_107 : Cond.methodLink R_RM 107 y_RM_forget ∈ am_T := am_in 726 (by decide +kernel) (by rfl)
theorem cb_RM_107 : am_cB R_RM 107 y_RM_forget b_RM_forget 1 none 0 := ⟨cl_RM_107, cn_RM, cc_RM_forget, ⟨by decide, by decide, by decide +kernel⟩, by decide⟩
set_option maxRecDepth 20000 in
theorem cc_RM_isOf : Cond.code y_RM_isOf b_RM_isOf 2 (some .boolean) ∈ am_T := am_in 740 (by rfl) (by rfl)
theorem ct_RM_isOf : Cond.static y_RM_isOf ∈ am_T := am_in 739 (by decide +kernel) (by rfl)
theorem cl_RM_113 : Cond.methodLink R_RM 113 y_RM_isOf ∈ am_T := am_in 738 (by decide +kernel) (by rfl)
theorem cb_RM_113 : am_cB R_RM 113 y_RM_isOf b_RM_isOf 2 (some .boolean) 2 := ⟨cl_RM_113, cn_RM, cc_RM_isOf, ⟨by decide, by decide, by decide +kernel⟩, by decide⟩
set_option maxRecDepth 20000 in
theorem cc_RM_add : Cond.code y_RM_add b_RM_add 5 none ∈ am_T := am_in 768 (by rfl) (by rfl)
theorem ci_RM_add : Cond.instanceMethod y_RM_add ∈ am_T := am_in 767 (by decide +kernel) (by rfl)
theorem cs_RM_add : Cond.selects y_RM_add.cls y_RM_add y_RM_add ∈ am_T := am_in 14 (by decide +kernel) (by rfl)
theorem cl_RM_120 : Cond.methodLink R_RM 120 y_RM_add ∈ am_T := am_in 765 (by decide +kernel) (by rfl)
theorem cb_RM_120 : am_cB R_RM 120 y_RM_add b_RM_add 5 none 2 := ⟨cl_RM_120, cn_RM, cc_RM_add, ⟨by decide, by decide, by decide +kernel⟩, by decide⟩
set_option maxRecDepth 20000 in
theorem cc_RM_number : Cond.code y_RM_number b_RM_number 4 none ∈ am_T := am_in 764 (by rfl) (by rfl)
theorem ci_RM_number : Cond.instanceMethod y_RM_number ∈ am_T := am_in 763 (by decide +kernel) (by rfl)
theorem cs_RM_number : Cond.selects y_RM_number.cls y_RM_number y_RM_number ∈ am_T := am_in 13 (by decide +kernel) (by rfl)
theorem cl_RM_127 : Cond.methodLink R_RM 127 y_RM_number ∈ am_T := am_in 761 (by decide +kernel) (by rfl)
theorem cb_RM_127 : am_cB R_RM 127 y_RM_number b_RM_number 4 none 1 := ⟨cl_RM_127, cn_RM, cc_RM_number, ⟨by decide, by decide, by decide +kernel⟩, by decide⟩
set_option maxRecDepth 20000 in
theorem cc_RM_compare : Cond.code y_RM_compare b_RM_compare 4 (some .int) ∈ am_T := am_in 771 (by rfl) (by rfl)
theorem ct_RM_compare : Cond.static y_RM_compare ∈ am_T := am_in 770 (by decide +kernel) (by rfl)
theorem cl_RM_131 : Cond.methodLink R_RM 131 y_RM_compare ∈ am_T := am_in 769 (by decide +kernel) (by rfl)
theorem cb_RM_131 : am_cB R_RM 131 y_RM_compare b_RM_compare 4 (some .int) 3 := ⟨cl_RM_131, cn_RM, cc_RM_compare, ⟨by decide, by decide, by decide +kernel⟩, by decide⟩
set_option maxRecDepth 20000 in
theorem cc_RM_compareRow : Cond.code y_RM_compareRow b_RM_compareRow 3 (some .int) ∈ am_T := am_in 803 (by rfl) (by rfl)
theorem ci_RM_compareRow : Cond.instanceMethod y_RM_compareRow ∈ am_T := am_in 802 (by decide +kernel) (by rfl)
theorem cs_RM_compareRow : Cond.selects y_RM_compareRow.cls y_RM_compareRow y_RM_compareRow ∈ am_T := am_in 22 (by decide +kernel) (by rfl)
theorem cl_RM_135 : Cond.methodLink R_RM 135 y_RM_compareRow ∈ am_T := am_in 800 (by decide +kernel) (by rfl)
theorem cb_RM_135 : am_cB R_RM 135 y_RM_compareRow b_RM_compareRow 3 (some .int) 1 := ⟨cl_RM_135, cn_RM, cc_RM_compareRow, ⟨by decide, by decide, by decide +kernel⟩, by decide⟩
set_option maxRecDepth 20000 in
theorem cc_RM_isBad : Cond.code y_RM_isBad b_RM_isBad 4 (some .boolean) ∈ am_T := am_in 779 (by rfl) (by rfl)
theorem ci_RM_isBad : Cond.instanceMethod y_RM_isBad ∈ am_T := am_in 778 (by decide +kernel) (by rfl)
theorem cs_RM_isBad : Cond.selects y_RM_isBad.cls y_RM_isBad y_RM_isBad ∈ am_T := am_in 16 (by decide +kernel) (by rfl)
theorem cl_RM_142 : Cond.methodLink R_RM 142 y_RM_isBad ∈ am_T := am_in 776 (by decide +kernel) (by rfl)
theorem cb_RM_142 : am_cB R_RM 142 y_RM_isBad b_RM_isBad 4 (some .boolean) 0 := ⟨cl_RM_142, cn_RM, cc_RM_isBad, ⟨by decide, by decide, by decide +kernel⟩, by decide⟩
set_option maxRecDepth 20000 in
theorem cc_RM_form : Cond.code y_RM_form b_RM_form 4 none ∈ am_T := am_in 760 (by rfl) (by rfl)
theorem ci_RM_form : Cond.instanceMethod y_RM_form ∈ am_T := am_in 759 (by decide +kernel) (by rfl)
theorem cs_RM_form : Cond.selects y_RM_form.cls y_RM_form y_RM_form ∈ am_T := am_in 12 (by decide +kernel) (by rfl)
theorem cl_RM_146 : Cond.methodLink R_RM 146 y_RM_form ∈ am_T := am_in 757 (by decide +kernel) (by rfl)
theorem cb_RM_146 : am_cB R_RM 146 y_RM_form b_RM_form 4 none 0 := ⟨cl_RM_146, cn_RM, cc_RM_form, ⟨by decide, by decide, by decide +kernel⟩, by decide⟩
set_option maxRecDepth 20000 in
theorem cc_RM_come : Cond.code y_RM_come b_RM_come 4 none ∈ am_T := am_in 775 (by rfl) (by rfl)
theorem ci_RM_come : Cond.instanceMethod y_RM_come ∈ am_T := am_in 774 (by decide +kernel) (by rfl)
theorem cs_RM_come : Cond.selects y_RM_come.cls y_RM_come y_RM_come ∈ am_T := am_in 15 (by decide +kernel) (by rfl)
theorem cl_RM_149 : Cond.methodLink R_RM 149 y_RM_come ∈ am_T := am_in 772 (by decide +kernel) (by rfl)
theorem cb_RM_149 : am_cB R_RM 149 y_RM_come b_RM_come 4 none 2 := ⟨cl_RM_149, cn_RM, cc_RM_come, ⟨by decide, by decide, by decide +kernel⟩, by decide⟩
set_option maxRecDepth 20000 in
theorem cc_RM_isThere : Cond.code y_RM_isThere b_RM_isThere 4 (some .boolean) ∈ am_T := am_in 799 (by rfl) (by rfl)
theorem ci_RM_isThere : Cond.instanceMethod y_RM_isThere ∈ am_T := am_in 798 (by decide +kernel) (by rfl)
theorem cs_RM_isThere : Cond.selects y_RM_isThere.cls y_RM_isThere y_RM_isThere ∈ am_T := am_in 21 (by decide +kernel) (by rfl)
theorem cl_RM_153 : Cond.methodLink R_RM 153 y_RM_isThere ∈ am_T := am_in 796 (by decide +kernel) (by rfl)
theorem cb_RM_153 : am_cB R_RM 153 y_RM_isThere b_RM_isThere 4 (some .boolean) 0 := ⟨cl_RM_153, cn_RM, cc_RM_isThere, ⟨by decide, by decide, by decide +kernel⟩, by decide⟩
set_option maxRecDepth 20000 in
theorem cc_RM_make : Cond.code y_RM_make b_RM_make 10 (some .boolean) ∈ am_T := am_in 791 (by rfl) (by rfl)
theorem ci_RM_make : Cond.instanceMethod y_RM_make ∈ am_T := am_in 790 (by decide +kernel) (by rfl)
theorem cs_RM_make : Cond.selects y_RM_make.cls y_RM_make y_RM_make ∈ am_T := am_in 19 (by decide +kernel) (by rfl)
theorem cl_RM_156 : Cond.methodLink R_RM 156 y_RM_make ∈ am_T := am_in 788 (by decide +kernel) (by rfl)
theorem cb_RM_156 : am_cB R_RM 156 y_RM_make b_RM_make 10 (some .boolean) 4 := ⟨cl_RM_156, cn_RM, cc_RM_make, ⟨by decide, by decide, by decide +kernel⟩, by decide⟩
set_option maxRecDepth 20000 in
theorem cc_RM_step : Cond.code y_RM_step b_RM_step 3 (some .boolean) ∈ am_T := am_in 795 (by rfl) (by rfl)
theorem ci_RM_step : Cond.instanceMethod y_RM_step ∈ am_T := am_in 794 (by decide +kernel) (by rfl)
theorem cs_RM_step : Cond.selects y_RM_step.cls y_RM_step y_RM_step ∈ am_T := am_in 20 (by decide +kernel) (by rfl)
theorem cl_RM_160 : Cond.methodLink R_RM 160 y_RM_step ∈ am_T := am_in 792 (by decide +kernel) (by rfl)
theorem cb_RM_160 : am_cB R_RM 160 y_RM_step b_RM_step 3 (some .boolean) 2 := ⟨cl_RM_160, cn_RM, cc_RM_step, ⟨by decide, by decide, by decide +kernel⟩, by decide⟩
set_option maxRecDepth 20000 in
theorem cc_RM_allSteps : Cond.code y_RM_allSteps b_RM_allSteps 8 (some .int) ∈ am_T := am_in 787 (by rfl) (by rfl)
theorem ci_RM_allSteps : Cond.instanceMethod y_RM_allSteps ∈ am_T := am_in 786 (by decide +kernel) (by rfl)
theorem cs_RM_allSteps : Cond.selects y_RM_allSteps.cls y_RM_allSteps y_RM_allSteps ∈ am_T := am_in 18 (by decide +kernel) (by rfl)
theorem cl_RM_163 : Cond.methodLink R_RM 163 y_RM_allSteps ∈ am_T := am_in 784 (by decide +kernel) (by rfl)
theorem cb_RM_163 : am_cB R_RM 163 y_RM_allSteps b_RM_allSteps 8 (some .int) 3 := ⟨cl_RM_163, cn_RM, cc_RM_allSteps, ⟨by decide, by decide, by decide +kernel⟩, by decide⟩
set_option maxRecDepth 20000 in
theorem cc_RM_begin : Cond.code y_RM_begin b_RM_begin 2 none ∈ am_T := am_in 756 (by rfl) (by rfl)
theorem ci_RM_begin : Cond.instanceMethod y_RM_begin ∈ am_T := am_in 755 (by decide +kernel) (by rfl)
theorem cs_RM_begin : Cond.selects y_RM_begin.cls y_RM_begin y_RM_begin ∈ am_T := am_in 11 (by decide +kernel) (by rfl)
theorem cl_RM_167 : Cond.methodLink R_RM 167 y_RM_begin ∈ am_T := am_in 753 (by decide +kernel) (by rfl)
theorem cb_RM_167 : am_cB R_RM 167 y_RM_begin b_RM_begin 2 none 0 := ⟨cl_RM_167, cn_RM, cc_RM_begin, ⟨by decide, by decide, by decide +kernel⟩, by decide⟩
set_option maxRecDepth 20000 in
theorem cc_RM_goThrough : Cond.code y_RM_goThrough b_RM_goThrough 6 none ∈ am_T := am_in 783 (by rfl) (by rfl)
theorem ci_RM_goThrough : Cond.instanceMethod y_RM_goThrough ∈ am_T := am_in 782 (by decide +kernel) (by rfl)
theorem cs_RM_goThrough : Cond.selects y_RM_goThrough.cls y_RM_goThrough y_RM_goThrough ∈ am_T := am_in 17 (by decide +kernel) (by rfl)
theorem cl_RM_170 : Cond.methodLink R_RM 170 y_RM_goThrough ∈ am_T := am_in 780 (by decide +kernel) (by rfl)
theorem cb_RM_170 : am_cB R_RM 170 y_RM_goThrough b_RM_goThrough 6 none 0 := ⟨cl_RM_170, cn_RM, cc_RM_goThrough, ⟨by decide, by decide, by decide +kernel⟩, by decide⟩
set_option maxRecDepth 20000 in
theorem cc_RM_greatestLevel : Cond.code y_RM_greatestLevel b_RM_greatestLevel 3 (some .int) ∈ am_T := am_in 835 (by rfl) (by rfl)
theorem ci_RM_greatestLevel : Cond.instanceMethod y_RM_greatestLevel ∈ am_T := am_in 834 (by decide +kernel) (by rfl)
theorem cs_RM_greatestLevel : Cond.selects y_RM_greatestLevel.cls y_RM_greatestLevel y_RM_greatestLevel ∈ am_T := am_in 23 (by decide +kernel) (by rfl)
theorem cl_RM_173 : Cond.methodLink R_RM 173 y_RM_greatestLevel ∈ am_T := am_in 832 (by decide +kernel) (by rfl)
theorem cb_RM_173 : am_cB R_RM 173 y_RM_greatestLevel b_RM_greatestLevel 3 (some .int) 0 := ⟨cl_RM_173, cn_RM, cc_RM_greatestLevel, ⟨by decide, by decide, by decide +kernel⟩, by decide⟩
set_option maxRecDepth 20000 in
theorem cc_RM_sums : Cond.code y_RM_sums b_RM_sums 3 (some .int) ∈ am_T := am_in 839 (by rfl) (by rfl)
theorem ci_RM_sums : Cond.instanceMethod y_RM_sums ∈ am_T := am_in 838 (by decide +kernel) (by rfl)
theorem cs_RM_sums : Cond.selects y_RM_sums.cls y_RM_sums y_RM_sums ∈ am_T := am_in 24 (by decide +kernel) (by rfl)
theorem cl_RM_177 : Cond.methodLink R_RM 177 y_RM_sums ∈ am_T := am_in 836 (by decide +kernel) (by rfl)
theorem cb_RM_177 : am_cB R_RM 177 y_RM_sums b_RM_sums 3 (some .int) 0 := ⟨cl_RM_177, cn_RM, cc_RM_sums, ⟨by decide, by decide, by decide +kernel⟩, by decide⟩
theorem mm_SE_192 : am_mm R_SE 192 := ⟨am_in 173 (by decide +kernel) (by rfl), am_in 174 (by decide +kernel) (by rfl), am_in 28 (by decide +kernel) (by rfl), am_in 175 (by rfl) (by rfl)⟩
theorem mm_Dr_53 : am_mc R_Dr 53 := ⟨am_in 341 (by decide +kernel) (by rfl), am_in 343 (by decide +kernel) (by rfl), am_in 342 (by decide +kernel) (by rfl), am_in 39 (by decide +kernel) (by rfl)⟩
theorem sf_SE_189 : Cond.fieldLink R_SE 189 "StateExplore" "NUMBERINGS" "[I" ∈ am_T := am_in 171 (by decide +kernel) (by rfl)
theorem sf_Dr_63 : (R_Dr, 63, "StateExplore", "NUMBERINGS", "[I", R_SE) ∈ am_NF := by decide +kernel
end
section
theorem d_Mo_init_0 : decode b_Mo_init 0 = .ok (.aload_n 0, 1) := by decide +kernel
theorem d_Mo_init_1 : decode b_Mo_init 1 = .ok (.invokespecial 3, 3) := by decide +kernel
theorem d_Mo_init_4 : decode b_Mo_init 4 = .ok (.aload_n 0, 1) := by decide +kernel
theorem d_Mo_init_5 : decode b_Mo_init 5 = .ok (.iconst 1, 1) := by decide +kernel
theorem d_Mo_init_6 : decode b_Mo_init 6 = .ok (.putfield 9, 3) := by decide +kernel
theorem d_Mo_init_9 : decode b_Mo_init 9 = .ok (.aload_n 0, 1) := by decide +kernel
theorem d_Mo_init_10 : decode b_Mo_init 10 = .ok (.iconst 0, 1) := by decide +kernel
theorem d_Mo_init_11 : decode b_Mo_init 11 = .ok (.putfield 15, 3) := by decide +kernel
theorem d_Mo_init_14 : decode b_Mo_init 14 = .ok (.aload_n 0, 1) := by decide +kernel
theorem d_Mo_init_15 : decode b_Mo_init 15 = .ok (.iconst 0, 1) := by decide +kernel
theorem d_Mo_init_16 : decode b_Mo_init 16 = .ok (.putfield 18, 3) := by decide +kernel
theorem d_Mo_init_19 : decode b_Mo_init 19 = .ok (.aload_n 0, 1) := by decide +kernel
theorem d_Mo_init_20 : decode b_Mo_init 20 = .ok (.bipush 40, 2) := by decide +kernel
theorem d_Mo_init_22 : decode b_Mo_init 22 = .ok (.newarray .int, 2) := by decide +kernel
theorem d_Mo_init_24 : decode b_Mo_init 24 = .ok (.putfield 21, 3) := by decide +kernel
theorem d_Mo_init_27 : decode b_Mo_init 27 = .ok (.aload_n 0, 1) := by decide +kernel
theorem d_Mo_init_28 : decode b_Mo_init 28 = .ok (.bipush 40, 2) := by decide +kernel
theorem d_Mo_init_30 : decode b_Mo_init 30 = .ok (.newarray .int, 2) := by decide +kernel
theorem d_Mo_init_32 : decode b_Mo_init 32 = .ok (.putfield 25, 3) := by decide +kernel
theorem d_Mo_init_35 : decode b_Mo_init 35 = .ok (.aload_n 0, 1) := by decide +kernel
theorem d_Mo_init_36 : decode b_Mo_init 36 = .ok (.bipush 40, 2) := by decide +kernel
theorem d_Mo_init_38 : decode b_Mo_init 38 = .ok (.newarray .int, 2) := by decide +kernel
theorem d_Mo_init_40 : decode b_Mo_init 40 = .ok (.putfield 28, 3) := by decide +kernel
theorem d_Mo_init_43 : decode b_Mo_init 43 = .ok (.aload_n 0, 1) := by decide +kernel
theorem d_Mo_init_44 : decode b_Mo_init 44 = .ok (.bipush 40, 2) := by decide +kernel
theorem d_Mo_init_46 : decode b_Mo_init 46 = .ok (.newarray .int, 2) := by decide +kernel
theorem d_Mo_init_48 : decode b_Mo_init 48 = .ok (.putfield 31, 3) := by decide +kernel
theorem d_Mo_init_51 : decode b_Mo_init 51 = .ok (.aload_n 0, 1) := by decide +kernel
theorem d_Mo_init_52 : decode b_Mo_init 52 = .ok (.sipush 160, 3) := by decide +kernel
theorem d_Mo_init_55 : decode b_Mo_init 55 = .ok (.newarray .int, 2) := by decide +kernel
theorem d_Mo_init_57 : decode b_Mo_init 57 = .ok (.putfield 34, 3) := by decide +kernel
theorem d_Mo_init_60 : decode b_Mo_init 60 = .ok (.aload_n 0, 1) := by decide +kernel
theorem d_Mo_init_61 : decode b_Mo_init 61 = .ok (.sipush 160, 3) := by decide +kernel
theorem d_Mo_init_64 : decode b_Mo_init 64 = .ok (.newarray .int, 2) := by decide +kernel
theorem d_Mo_init_66 : decode b_Mo_init 66 = .ok (.putfield 37, 3) := by decide +kernel
theorem d_Mo_init_69 : decode b_Mo_init 69 = .ok (.aload_n 0, 1) := by decide +kernel
theorem d_Mo_init_70 : decode b_Mo_init 70 = .ok (.bipush 40, 2) := by decide +kernel
theorem d_Mo_init_72 : decode b_Mo_init 72 = .ok (.newarray .int, 2) := by decide +kernel
theorem d_Mo_init_74 : decode b_Mo_init 74 = .ok (.putfield 40, 3) := by decide +kernel
theorem d_Mo_init_77 : decode b_Mo_init 77 = .ok (.aload_n 0, 1) := by decide +kernel
theorem d_Mo_init_78 : decode b_Mo_init 78 = .ok (.lconst 0, 1) := by decide +kernel
theorem d_Mo_init_79 : decode b_Mo_init 79 = .ok (.putfield 43, 3) := by decide +kernel
theorem d_Mo_init_82 : decode b_Mo_init 82 = .ok (.aload_n 0, 1) := by decide +kernel
theorem d_Mo_init_83 : decode b_Mo_init 83 = .ok (.iload_n 1, 1) := by decide +kernel
theorem d_Mo_init_84 : decode b_Mo_init 84 = .ok (.putfield 47, 3) := by decide +kernel
theorem d_Mo_init_87 : decode b_Mo_init 87 = .ok (.return_, 1) := by decide +kernel
theorem d_Mo_hasState_0 : decode b_Mo_hasState 0 = .ok (.iload_n 1, 1) := by decide +kernel
theorem d_Mo_hasState_1 : decode b_Mo_hasState 1 = .ok (.ifCond .lt 15, 3) := by decide +kernel
theorem d_Mo_hasState_4 : decode b_Mo_hasState 4 = .ok (.iload_n 1, 1) := by decide +kernel
theorem d_Mo_hasState_5 : decode b_Mo_hasState 5 = .ok (.aload_n 0, 1) := by decide +kernel
theorem d_Mo_hasState_6 : decode b_Mo_hasState 6 = .ok (.getfield 9, 3) := by decide +kernel
theorem d_Mo_hasState_9 : decode b_Mo_hasState 9 = .ok (.if_icmp .ge 7, 3) := by decide +kernel
theorem d_Mo_hasState_12 : decode b_Mo_hasState 12 = .ok (.iconst 1, 1) := by decide +kernel
theorem d_Mo_hasState_13 : decode b_Mo_hasState 13 = .ok (.goto 4, 3) := by decide +kernel
theorem d_Mo_hasState_16 : decode b_Mo_hasState 16 = .ok (.iconst 0, 1) := by decide +kernel
theorem d_Mo_hasState_17 : decode b_Mo_hasState 17 = .ok (.ireturn, 1) := by decide +kernel
theorem d_Mo_hasKind_0 : decode b_Mo_hasKind 0 = .ok (.iload_n 1, 1) := by decide +kernel
theorem d_Mo_hasKind_1 : decode b_Mo_hasKind 1 = .ok (.ifCond .lt 15, 3) := by decide +kernel
theorem d_Mo_hasKind_4 : decode b_Mo_hasKind 4 = .ok (.iload_n 1, 1) := by decide +kernel
theorem d_Mo_hasKind_5 : decode b_Mo_hasKind 5 = .ok (.aload_n 0, 1) := by decide +kernel
theorem d_Mo_hasKind_6 : decode b_Mo_hasKind 6 = .ok (.getfield 15, 3) := by decide +kernel
theorem d_Mo_hasKind_9 : decode b_Mo_hasKind 9 = .ok (.if_icmp .ge 7, 3) := by decide +kernel
theorem d_Mo_hasKind_12 : decode b_Mo_hasKind 12 = .ok (.iconst 1, 1) := by decide +kernel
theorem d_Mo_hasKind_13 : decode b_Mo_hasKind 13 = .ok (.goto 4, 3) := by decide +kernel
theorem d_Mo_hasKind_16 : decode b_Mo_hasKind 16 = .ok (.iconst 0, 1) := by decide +kernel
theorem d_Mo_hasKind_17 : decode b_Mo_hasKind 17 = .ok (.ireturn, 1) := by decide +kernel
theorem d_Mo_addRule_0 : decode b_Mo_addRule 0 = .ok (.aload_n 0, 1) := by decide +kernel
theorem d_Mo_addRule_1 : decode b_Mo_addRule 1 = .ok (.getfield 21, 3) := by decide +kernel
theorem d_Mo_addRule_4 : decode b_Mo_addRule 4 = .ok (.aload_n 0, 1) := by decide +kernel
theorem d_Mo_addRule_5 : decode b_Mo_addRule 5 = .ok (.getfield 18, 3) := by decide +kernel
theorem d_Mo_addRule_8 : decode b_Mo_addRule 8 = .ok (.iload_n 1, 1) := by decide +kernel
theorem d_Mo_addRule_9 : decode b_Mo_addRule 9 = .ok (.iastore, 1) := by decide +kernel
theorem d_Mo_addRule_10 : decode b_Mo_addRule 10 = .ok (.aload_n 0, 1) := by decide +kernel
theorem d_Mo_addRule_11 : decode b_Mo_addRule 11 = .ok (.getfield 25, 3) := by decide +kernel
theorem d_Mo_addRule_14 : decode b_Mo_addRule 14 = .ok (.aload_n 0, 1) := by decide +kernel
theorem d_Mo_addRule_15 : decode b_Mo_addRule 15 = .ok (.getfield 18, 3) := by decide +kernel
theorem d_Mo_addRule_18 : decode b_Mo_addRule 18 = .ok (.iload_n 2, 1) := by decide +kernel
theorem d_Mo_addRule_19 : decode b_Mo_addRule 19 = .ok (.iastore, 1) := by decide +kernel
theorem d_Mo_addRule_20 : decode b_Mo_addRule 20 = .ok (.aload_n 0, 1) := by decide +kernel
theorem d_Mo_addRule_21 : decode b_Mo_addRule 21 = .ok (.getfield 28, 3) := by decide +kernel
theorem d_Mo_addRule_24 : decode b_Mo_addRule 24 = .ok (.aload_n 0, 1) := by decide +kernel
theorem d_Mo_addRule_25 : decode b_Mo_addRule 25 = .ok (.getfield 18, 3) := by decide +kernel
theorem d_Mo_addRule_28 : decode b_Mo_addRule 28 = .ok (.iload_n 3, 1) := by decide +kernel
theorem d_Mo_addRule_29 : decode b_Mo_addRule 29 = .ok (.iastore, 1) := by decide +kernel
theorem d_Mo_addRule_30 : decode b_Mo_addRule 30 = .ok (.aload_n 0, 1) := by decide +kernel
theorem d_Mo_addRule_31 : decode b_Mo_addRule 31 = .ok (.getfield 40, 3) := by decide +kernel
theorem d_Mo_addRule_34 : decode b_Mo_addRule 34 = .ok (.aload_n 0, 1) := by decide +kernel
theorem d_Mo_addRule_35 : decode b_Mo_addRule 35 = .ok (.getfield 18, 3) := by decide +kernel
theorem d_Mo_addRule_38 : decode b_Mo_addRule 38 = .ok (.iload_n 2, 1) := by decide +kernel
theorem d_Mo_addRule_39 : decode b_Mo_addRule 39 = .ok (.iconst (-1), 1) := by decide +kernel
theorem d_Mo_addRule_40 : decode b_Mo_addRule 40 = .ok (.if_icmp .ne 7, 3) := by decide +kernel
theorem d_Mo_addRule_43 : decode b_Mo_addRule 43 = .ok (.iconst 0, 1) := by decide +kernel
theorem d_Mo_addRule_44 : decode b_Mo_addRule 44 = .ok (.goto 4, 3) := by decide +kernel
theorem d_Mo_addRule_47 : decode b_Mo_addRule 47 = .ok (.iconst (-1), 1) := by decide +kernel
theorem d_Mo_addRule_48 : decode b_Mo_addRule 48 = .ok (.iastore, 1) := by decide +kernel
theorem d_Mo_addRule_49 : decode b_Mo_addRule 49 = .ok (.aload_n 0, 1) := by decide +kernel
theorem d_Mo_addRule_50 : decode b_Mo_addRule 50 = .ok (.dup, 1) := by decide +kernel
theorem d_Mo_addRule_51 : decode b_Mo_addRule 51 = .ok (.getfield 18, 3) := by decide +kernel
theorem d_Mo_addRule_54 : decode b_Mo_addRule 54 = .ok (.dup_x1, 1) := by decide +kernel
theorem d_Mo_addRule_55 : decode b_Mo_addRule 55 = .ok (.iconst 1, 1) := by decide +kernel
theorem d_Mo_addRule_56 : decode b_Mo_addRule 56 = .ok (.iadd, 1) := by decide +kernel
theorem d_Mo_addRule_57 : decode b_Mo_addRule 57 = .ok (.putfield 18, 3) := by decide +kernel
theorem d_Mo_addRule_60 : decode b_Mo_addRule 60 = .ok (.ireturn, 1) := by decide +kernel
theorem d_Mo_addSend_0 : decode b_Mo_addSend 0 = .ok (.iload_n 1, 1) := by decide +kernel
theorem d_Mo_addSend_1 : decode b_Mo_addSend 1 = .ok (.iconst 4, 1) := by decide +kernel
theorem d_Mo_addSend_2 : decode b_Mo_addSend 2 = .ok (.imul, 1) := by decide +kernel
theorem d_Mo_addSend_3 : decode b_Mo_addSend 3 = .ok (.aload_n 0, 1) := by decide +kernel
theorem d_Mo_addSend_4 : decode b_Mo_addSend 4 = .ok (.getfield 31, 3) := by decide +kernel
theorem d_Mo_addSend_7 : decode b_Mo_addSend 7 = .ok (.iload_n 1, 1) := by decide +kernel
theorem d_Mo_addSend_8 : decode b_Mo_addSend 8 = .ok (.iaload, 1) := by decide +kernel
theorem d_Mo_addSend_9 : decode b_Mo_addSend 9 = .ok (.iadd, 1) := by decide +kernel
theorem d_Mo_addSend_10 : decode b_Mo_addSend 10 = .ok (.istore 4, 2) := by decide +kernel
theorem d_Mo_addSend_12 : decode b_Mo_addSend 12 = .ok (.aload_n 0, 1) := by decide +kernel
theorem d_Mo_addSend_13 : decode b_Mo_addSend 13 = .ok (.getfield 34, 3) := by decide +kernel
theorem d_Mo_addSend_16 : decode b_Mo_addSend 16 = .ok (.iload 4, 2) := by decide +kernel
theorem d_Mo_addSend_18 : decode b_Mo_addSend 18 = .ok (.iload_n 2, 1) := by decide +kernel
theorem d_Mo_addSend_19 : decode b_Mo_addSend 19 = .ok (.iastore, 1) := by decide +kernel
theorem d_Mo_addSend_20 : decode b_Mo_addSend 20 = .ok (.aload_n 0, 1) := by decide +kernel
theorem d_Mo_addSend_21 : decode b_Mo_addSend 21 = .ok (.getfield 37, 3) := by decide +kernel
theorem d_Mo_addSend_24 : decode b_Mo_addSend 24 = .ok (.iload 4, 2) := by decide +kernel
theorem d_Mo_addSend_26 : decode b_Mo_addSend 26 = .ok (.iload_n 3, 1) := by decide +kernel
theorem d_Mo_addSend_27 : decode b_Mo_addSend 27 = .ok (.iastore, 1) := by decide +kernel
theorem d_Mo_addSend_28 : decode b_Mo_addSend 28 = .ok (.aload_n 0, 1) := by decide +kernel
theorem d_Mo_addSend_29 : decode b_Mo_addSend 29 = .ok (.getfield 40, 3) := by decide +kernel
theorem d_Mo_addSend_32 : decode b_Mo_addSend 32 = .ok (.iload_n 1, 1) := by decide +kernel
theorem d_Mo_addSend_33 : decode b_Mo_addSend 33 = .ok (.dup2, 1) := by decide +kernel
theorem d_Mo_addSend_34 : decode b_Mo_addSend 34 = .ok (.iaload, 1) := by decide +kernel
theorem d_Mo_addSend_35 : decode b_Mo_addSend 35 = .ok (.iload_n 3, 1) := by decide +kernel
theorem d_Mo_addSend_36 : decode b_Mo_addSend 36 = .ok (.ifCond .ne 7, 3) := by decide +kernel
theorem d_Mo_addSend_39 : decode b_Mo_addSend 39 = .ok (.iconst 1, 1) := by decide +kernel
theorem d_Mo_addSend_40 : decode b_Mo_addSend 40 = .ok (.goto 9, 3) := by decide +kernel
theorem d_Mo_addSend_43 : decode b_Mo_addSend 43 = .ok (.aload_n 0, 1) := by decide +kernel
theorem d_Mo_addSend_44 : decode b_Mo_addSend 44 = .ok (.getfield 47, 3) := by decide +kernel
theorem d_Mo_addSend_47 : decode b_Mo_addSend 47 = .ok (.iconst 1, 1) := by decide +kernel
theorem d_Mo_addSend_48 : decode b_Mo_addSend 48 = .ok (.isub, 1) := by decide +kernel
theorem d_Mo_addSend_49 : decode b_Mo_addSend 49 = .ok (.iadd, 1) := by decide +kernel
theorem d_Mo_addSend_50 : decode b_Mo_addSend 50 = .ok (.iastore, 1) := by decide +kernel
theorem d_Mo_addSend_51 : decode b_Mo_addSend 51 = .ok (.aload_n 0, 1) := by decide +kernel
theorem d_Mo_addSend_52 : decode b_Mo_addSend 52 = .ok (.getfield 31, 3) := by decide +kernel
theorem d_Mo_addSend_55 : decode b_Mo_addSend 55 = .ok (.iload_n 1, 1) := by decide +kernel
theorem d_Mo_addSend_56 : decode b_Mo_addSend 56 = .ok (.dup2, 1) := by decide +kernel
theorem d_Mo_addSend_57 : decode b_Mo_addSend 57 = .ok (.iaload, 1) := by decide +kernel
theorem d_Mo_addSend_58 : decode b_Mo_addSend 58 = .ok (.iconst 1, 1) := by decide +kernel
theorem d_Mo_addSend_59 : decode b_Mo_addSend 59 = .ok (.iadd, 1) := by decide +kernel
theorem d_Mo_addSend_60 : decode b_Mo_addSend 60 = .ok (.dup_x2, 1) := by decide +kernel
theorem d_Mo_addSend_61 : decode b_Mo_addSend 61 = .ok (.iastore, 1) := by decide +kernel
theorem d_Mo_addSend_62 : decode b_Mo_addSend 62 = .ok (.ireturn, 1) := by decide +kernel
theorem d_Mo_isBadPair_0 : decode b_Mo_isBadPair 0 = .ok (.aload_n 0, 1) := by decide +kernel
theorem d_Mo_isBadPair_1 : decode b_Mo_isBadPair 1 = .ok (.getfield 43, 3) := by decide +kernel
theorem d_Mo_isBadPair_4 : decode b_Mo_isBadPair 4 = .ok (.lconst 1, 1) := by decide +kernel
theorem d_Mo_isBadPair_5 : decode b_Mo_isBadPair 5 = .ok (.bipush 8, 2) := by decide +kernel
theorem d_Mo_isBadPair_7 : decode b_Mo_isBadPair 7 = .ok (.iload_n 1, 1) := by decide +kernel
theorem d_Mo_isBadPair_8 : decode b_Mo_isBadPair 8 = .ok (.imul, 1) := by decide +kernel
theorem d_Mo_isBadPair_9 : decode b_Mo_isBadPair 9 = .ok (.iload_n 2, 1) := by decide +kernel
theorem d_Mo_isBadPair_10 : decode b_Mo_isBadPair 10 = .ok (.iadd, 1) := by decide +kernel
theorem d_Mo_isBadPair_11 : decode b_Mo_isBadPair 11 = .ok (.lshl, 1) := by decide +kernel
theorem d_Mo_isBadPair_12 : decode b_Mo_isBadPair 12 = .ok (.land, 1) := by decide +kernel
theorem d_Mo_isBadPair_13 : decode b_Mo_isBadPair 13 = .ok (.lconst 0, 1) := by decide +kernel
theorem d_Mo_isBadPair_14 : decode b_Mo_isBadPair 14 = .ok (.lcmp, 1) := by decide +kernel
theorem d_Mo_isBadPair_15 : decode b_Mo_isBadPair 15 = .ok (.ifCond .eq 7, 3) := by decide +kernel
theorem d_Mo_isBadPair_18 : decode b_Mo_isBadPair 18 = .ok (.iconst 1, 1) := by decide +kernel
theorem d_Mo_isBadPair_19 : decode b_Mo_isBadPair 19 = .ok (.goto 4, 3) := by decide +kernel
theorem d_Mo_isBadPair_22 : decode b_Mo_isBadPair 22 = .ok (.iconst 0, 1) := by decide +kernel
theorem d_Mo_isBadPair_23 : decode b_Mo_isBadPair 23 = .ok (.ireturn, 1) := by decide +kernel
theorem d_Mo_addBadPair_0 : decode b_Mo_addBadPair 0 = .ok (.aload_n 0, 1) := by decide +kernel
theorem d_Mo_addBadPair_1 : decode b_Mo_addBadPair 1 = .ok (.dup, 1) := by decide +kernel
theorem d_Mo_addBadPair_2 : decode b_Mo_addBadPair 2 = .ok (.getfield 43, 3) := by decide +kernel
theorem d_Mo_addBadPair_5 : decode b_Mo_addBadPair 5 = .ok (.lconst 1, 1) := by decide +kernel
theorem d_Mo_addBadPair_6 : decode b_Mo_addBadPair 6 = .ok (.bipush 8, 2) := by decide +kernel
theorem d_Mo_addBadPair_8 : decode b_Mo_addBadPair 8 = .ok (.iload_n 1, 1) := by decide +kernel
theorem d_Mo_addBadPair_9 : decode b_Mo_addBadPair 9 = .ok (.imul, 1) := by decide +kernel
theorem d_Mo_addBadPair_10 : decode b_Mo_addBadPair 10 = .ok (.iload_n 2, 1) := by decide +kernel
theorem d_Mo_addBadPair_11 : decode b_Mo_addBadPair 11 = .ok (.iadd, 1) := by decide +kernel
theorem d_Mo_addBadPair_12 : decode b_Mo_addBadPair 12 = .ok (.lshl, 1) := by decide +kernel
theorem d_Mo_addBadPair_13 : decode b_Mo_addBadPair 13 = .ok (.lconst 1, 1) := by decide +kernel
theorem d_Mo_addBadPair_14 : decode b_Mo_addBadPair 14 = .ok (.bipush 8, 2) := by decide +kernel
theorem d_Mo_addBadPair_16 : decode b_Mo_addBadPair 16 = .ok (.iload_n 2, 1) := by decide +kernel
theorem d_Mo_addBadPair_17 : decode b_Mo_addBadPair 17 = .ok (.imul, 1) := by decide +kernel
theorem d_Mo_addBadPair_18 : decode b_Mo_addBadPair 18 = .ok (.iload_n 1, 1) := by decide +kernel
theorem d_Mo_addBadPair_19 : decode b_Mo_addBadPair 19 = .ok (.iadd, 1) := by decide +kernel
theorem d_Mo_addBadPair_20 : decode b_Mo_addBadPair 20 = .ok (.lshl, 1) := by decide +kernel
theorem d_Mo_addBadPair_21 : decode b_Mo_addBadPair 21 = .ok (.lor, 1) := by decide +kernel
theorem d_Mo_addBadPair_22 : decode b_Mo_addBadPair 22 = .ok (.lor, 1) := by decide +kernel
theorem d_Mo_addBadPair_23 : decode b_Mo_addBadPair 23 = .ok (.putfield 43, 3) := by decide +kernel
theorem d_Mo_addBadPair_26 : decode b_Mo_addBadPair 26 = .ok (.return_, 1) := by decide +kernel
theorem d_Mo_isBadWhole_0 : decode b_Mo_isBadWhole 0 = .ok (.iconst 0, 1) := by decide +kernel
theorem d_Mo_isBadWhole_1 : decode b_Mo_isBadWhole 1 = .ok (.istore_n 2, 1) := by decide +kernel
theorem d_Mo_isBadWhole_2 : decode b_Mo_isBadWhole 2 = .ok (.iload_n 2, 1) := by decide +kernel
theorem d_Mo_isBadWhole_3 : decode b_Mo_isBadWhole 3 = .ok (.aload_n 0, 1) := by decide +kernel
theorem d_Mo_isBadWhole_4 : decode b_Mo_isBadWhole 4 = .ok (.getfield 47, 3) := by decide +kernel
theorem d_Mo_isBadWhole_7 : decode b_Mo_isBadWhole 7 = .ok (.if_icmp .ge 48, 3) := by decide +kernel
theorem d_Mo_isBadWhole_10 : decode b_Mo_isBadWhole 10 = .ok (.iload_n 2, 1) := by decide +kernel
theorem d_Mo_isBadWhole_11 : decode b_Mo_isBadWhole 11 = .ok (.iconst 1, 1) := by decide +kernel
theorem d_Mo_isBadWhole_12 : decode b_Mo_isBadWhole 12 = .ok (.iadd, 1) := by decide +kernel
theorem d_Mo_isBadWhole_13 : decode b_Mo_isBadWhole 13 = .ok (.istore_n 3, 1) := by decide +kernel
theorem d_Mo_isBadWhole_14 : decode b_Mo_isBadWhole 14 = .ok (.iload_n 3, 1) := by decide +kernel
theorem d_Mo_isBadWhole_15 : decode b_Mo_isBadWhole 15 = .ok (.aload_n 0, 1) := by decide +kernel
theorem d_Mo_isBadWhole_16 : decode b_Mo_isBadWhole 16 = .ok (.getfield 47, 3) := by decide +kernel
theorem d_Mo_isBadWhole_19 : decode b_Mo_isBadWhole 19 = .ok (.if_icmp .ge 30, 3) := by decide +kernel
theorem d_Mo_isBadWhole_22 : decode b_Mo_isBadWhole 22 = .ok (.aload_n 0, 1) := by decide +kernel
theorem d_Mo_isBadWhole_23 : decode b_Mo_isBadWhole 23 = .ok (.aload_n 1, 1) := by decide +kernel
theorem d_Mo_isBadWhole_24 : decode b_Mo_isBadWhole 24 = .ok (.getfield 50, 3) := by decide +kernel
theorem d_Mo_isBadWhole_27 : decode b_Mo_isBadWhole 27 = .ok (.iload_n 2, 1) := by decide +kernel
theorem d_Mo_isBadWhole_28 : decode b_Mo_isBadWhole 28 = .ok (.iaload, 1) := by decide +kernel
theorem d_Mo_isBadWhole_29 : decode b_Mo_isBadWhole 29 = .ok (.aload_n 1, 1) := by decide +kernel
theorem d_Mo_isBadWhole_30 : decode b_Mo_isBadWhole 30 = .ok (.getfield 50, 3) := by decide +kernel
theorem d_Mo_isBadWhole_33 : decode b_Mo_isBadWhole 33 = .ok (.iload_n 3, 1) := by decide +kernel
theorem d_Mo_isBadWhole_34 : decode b_Mo_isBadWhole 34 = .ok (.iaload, 1) := by decide +kernel
theorem d_Mo_isBadWhole_35 : decode b_Mo_isBadWhole 35 = .ok (.invokevirtual 54, 3) := by decide +kernel
theorem d_Mo_isBadWhole_38 : decode b_Mo_isBadWhole 38 = .ok (.ifCond .eq 5, 3) := by decide +kernel
theorem d_Mo_isBadWhole_41 : decode b_Mo_isBadWhole 41 = .ok (.iconst 1, 1) := by decide +kernel
theorem d_Mo_isBadWhole_42 : decode b_Mo_isBadWhole 42 = .ok (.ireturn, 1) := by decide +kernel
theorem d_Mo_isBadWhole_43 : decode b_Mo_isBadWhole 43 = .ok (.iinc 3 1, 3) := by decide +kernel
theorem d_Mo_isBadWhole_46 : decode b_Mo_isBadWhole 46 = .ok (.goto (-32), 3) := by decide +kernel
theorem d_Mo_isBadWhole_49 : decode b_Mo_isBadWhole 49 = .ok (.iinc 2 1, 3) := by decide +kernel
theorem d_Mo_isBadWhole_52 : decode b_Mo_isBadWhole 52 = .ok (.goto (-50), 3) := by decide +kernel
theorem d_Mo_isBadWhole_55 : decode b_Mo_isBadWhole 55 = .ok (.iconst 0, 1) := by decide +kernel
theorem d_Mo_isBadWhole_56 : decode b_Mo_isBadWhole 56 = .ok (.ireturn, 1) := by decide +kernel
theorem d_St_init_0 : decode b_St_init 0 = .ok (.aload_n 0, 1) := by decide +kernel
theorem d_St_init_1 : decode b_St_init 1 = .ok (.invokespecial 3, 3) := by decide +kernel
theorem d_St_init_4 : decode b_St_init 4 = .ok (.aload_n 0, 1) := by decide +kernel
theorem d_St_init_5 : decode b_St_init 5 = .ok (.iconst 0, 1) := by decide +kernel
theorem d_St_init_6 : decode b_St_init 6 = .ok (.putfield 9, 3) := by decide +kernel
theorem d_St_init_9 : decode b_St_init 9 = .ok (.aload_n 0, 1) := by decide +kernel
theorem d_St_init_10 : decode b_St_init 10 = .ok (.iload_n 1, 1) := by decide +kernel
theorem d_St_init_11 : decode b_St_init 11 = .ok (.newarray .long, 2) := by decide +kernel
theorem d_St_init_13 : decode b_St_init 13 = .ok (.putfield 15, 3) := by decide +kernel
theorem d_St_init_16 : decode b_St_init 16 = .ok (.aload_n 0, 1) := by decide +kernel
theorem d_St_init_17 : decode b_St_init 17 = .ok (.iload_n 1, 1) := by decide +kernel
theorem d_St_init_18 : decode b_St_init 18 = .ok (.newarray .int, 2) := by decide +kernel
theorem d_St_init_20 : decode b_St_init 20 = .ok (.putfield 19, 3) := by decide +kernel
theorem d_St_init_23 : decode b_St_init 23 = .ok (.aload_n 0, 1) := by decide +kernel
theorem d_St_init_24 : decode b_St_init 24 = .ok (.iload_n 1, 1) := by decide +kernel
theorem d_St_init_25 : decode b_St_init 25 = .ok (.newarray .int, 2) := by decide +kernel
theorem d_St_init_27 : decode b_St_init 27 = .ok (.putfield 23, 3) := by decide +kernel
theorem d_St_init_30 : decode b_St_init 30 = .ok (.aload_n 0, 1) := by decide +kernel
theorem d_St_init_31 : decode b_St_init 31 = .ok (.iload_n 1, 1) := by decide +kernel
theorem d_St_init_32 : decode b_St_init 32 = .ok (.newarray .int, 2) := by decide +kernel
theorem d_St_init_34 : decode b_St_init 34 = .ok (.putfield 26, 3) := by decide +kernel
theorem d_St_init_37 : decode b_St_init 37 = .ok (.aload_n 0, 1) := by decide +kernel
theorem d_St_init_38 : decode b_St_init 38 = .ok (.iload_n 1, 1) := by decide +kernel
theorem d_St_init_39 : decode b_St_init 39 = .ok (.newarray .int, 2) := by decide +kernel
theorem d_St_init_41 : decode b_St_init 41 = .ok (.putfield 29, 3) := by decide +kernel
theorem d_St_init_44 : decode b_St_init 44 = .ok (.aload_n 0, 1) := by decide +kernel
theorem d_St_init_45 : decode b_St_init 45 = .ok (.iload_n 1, 1) := by decide +kernel
theorem d_St_init_46 : decode b_St_init 46 = .ok (.newarray .int, 2) := by decide +kernel
theorem d_St_init_48 : decode b_St_init 48 = .ok (.putfield 32, 3) := by decide +kernel
theorem d_St_init_51 : decode b_St_init 51 = .ok (.aload_n 0, 1) := by decide +kernel
theorem d_St_init_52 : decode b_St_init 52 = .ok (.iload_n 1, 1) := by decide +kernel
theorem d_St_init_53 : decode b_St_init 53 = .ok (.invokestatic 35, 3) := by decide +kernel
theorem d_St_init_56 : decode b_St_init 56 = .ok (.newarray .int, 2) := by decide +kernel
theorem d_St_init_58 : decode b_St_init 58 = .ok (.putfield 39, 3) := by decide +kernel
theorem d_St_init_61 : decode b_St_init 61 = .ok (.return_, 1) := by decide +kernel
theorem d_St_slotsFor_0 : decode b_St_slotsFor 0 = .ok (.iconst 2, 1) := by decide +kernel
theorem d_St_slotsFor_1 : decode b_St_slotsFor 1 = .ok (.istore_n 1, 1) := by decide +kernel
theorem d_St_slotsFor_2 : decode b_St_slotsFor 2 = .ok (.iload_n 1, 1) := by decide +kernel
theorem d_St_slotsFor_3 : decode b_St_slotsFor 3 = .ok (.iconst 2, 1) := by decide +kernel
theorem d_St_slotsFor_4 : decode b_St_slotsFor 4 = .ok (.iload_n 0, 1) := by decide +kernel
theorem d_St_slotsFor_5 : decode b_St_slotsFor 5 = .ok (.imul, 1) := by decide +kernel
theorem d_St_slotsFor_6 : decode b_St_slotsFor 6 = .ok (.if_icmp .ge 10, 3) := by decide +kernel
theorem d_St_slotsFor_9 : decode b_St_slotsFor 9 = .ok (.iload_n 1, 1) := by decide +kernel
theorem d_St_slotsFor_10 : decode b_St_slotsFor 10 = .ok (.iconst 2, 1) := by decide +kernel
theorem d_St_slotsFor_11 : decode b_St_slotsFor 11 = .ok (.imul, 1) := by decide +kernel
theorem d_St_slotsFor_12 : decode b_St_slotsFor 12 = .ok (.istore_n 1, 1) := by decide +kernel
theorem d_St_slotsFor_13 : decode b_St_slotsFor 13 = .ok (.goto (-11), 3) := by decide +kernel
theorem d_St_slotsFor_16 : decode b_St_slotsFor 16 = .ok (.iload_n 1, 1) := by decide +kernel
theorem d_St_slotsFor_17 : decode b_St_slotsFor 17 = .ok (.ireturn, 1) := by decide +kernel
theorem d_St_has_0 : decode b_St_has 0 = .ok (.iload_n 1, 1) := by decide +kernel
theorem d_St_has_1 : decode b_St_has 1 = .ok (.ifCond .lt 15, 3) := by decide +kernel
theorem d_St_has_4 : decode b_St_has 4 = .ok (.iload_n 1, 1) := by decide +kernel
theorem d_St_has_5 : decode b_St_has 5 = .ok (.aload_n 0, 1) := by decide +kernel
theorem d_St_has_6 : decode b_St_has 6 = .ok (.getfield 9, 3) := by decide +kernel
theorem d_St_has_9 : decode b_St_has 9 = .ok (.if_icmp .ge 7, 3) := by decide +kernel
theorem d_St_has_12 : decode b_St_has 12 = .ok (.iconst 1, 1) := by decide +kernel
theorem d_St_has_13 : decode b_St_has 13 = .ok (.goto 4, 3) := by decide +kernel
theorem d_St_has_16 : decode b_St_has 16 = .ok (.iconst 0, 1) := by decide +kernel
theorem d_St_has_17 : decode b_St_has 17 = .ok (.ireturn, 1) := by decide +kernel
theorem d_St_isFull_0 : decode b_St_isFull 0 = .ok (.aload_n 0, 1) := by decide +kernel
theorem d_St_isFull_1 : decode b_St_isFull 1 = .ok (.getfield 9, 3) := by decide +kernel
theorem d_St_isFull_4 : decode b_St_isFull 4 = .ok (.aload_n 0, 1) := by decide +kernel
theorem d_St_isFull_5 : decode b_St_isFull 5 = .ok (.getfield 15, 3) := by decide +kernel
theorem d_St_isFull_8 : decode b_St_isFull 8 = .ok (.arraylength, 1) := by decide +kernel
theorem d_St_isFull_9 : decode b_St_isFull 9 = .ok (.if_icmp .lt 7, 3) := by decide +kernel
theorem d_St_isFull_12 : decode b_St_isFull 12 = .ok (.iconst 1, 1) := by decide +kernel
theorem d_St_isFull_13 : decode b_St_isFull 13 = .ok (.goto 4, 3) := by decide +kernel
theorem d_St_isFull_16 : decode b_St_isFull 16 = .ok (.iconst 0, 1) := by decide +kernel
theorem d_St_isFull_17 : decode b_St_isFull 17 = .ok (.ireturn, 1) := by decide +kernel
theorem d_St_clear_0 : decode b_St_clear 0 = .ok (.aload_n 0, 1) := by decide +kernel
theorem d_St_clear_1 : decode b_St_clear 1 = .ok (.getfield 9, 3) := by decide +kernel
theorem d_St_clear_4 : decode b_St_clear 4 = .ok (.ifCond .le 16, 3) := by decide +kernel
theorem d_St_clear_7 : decode b_St_clear 7 = .ok (.aload_n 0, 1) := by decide +kernel
theorem d_St_clear_8 : decode b_St_clear 8 = .ok (.getfield 39, 3) := by decide +kernel
theorem d_St_clear_11 : decode b_St_clear 11 = .ok (.iconst 0, 1) := by decide +kernel
theorem d_St_clear_12 : decode b_St_clear 12 = .ok (.invokestatic 42, 3) := by decide +kernel
theorem d_St_clear_15 : decode b_St_clear 15 = .ok (.aload_n 0, 1) := by decide +kernel
theorem d_St_clear_16 : decode b_St_clear 16 = .ok (.iconst 0, 1) := by decide +kernel
theorem d_St_clear_17 : decode b_St_clear 17 = .ok (.putfield 9, 3) := by decide +kernel
theorem d_St_clear_20 : decode b_St_clear 20 = .ok (.return_, 1) := by decide +kernel
theorem d_St_slotOf_0 : decode b_St_slotOf 0 = .ok (.aload_n 0, 1) := by decide +kernel
theorem d_St_slotOf_1 : decode b_St_slotOf 1 = .ok (.getfield 39, 3) := by decide +kernel
theorem d_St_slotOf_4 : decode b_St_slotOf 4 = .ok (.arraylength, 1) := by decide +kernel
theorem d_St_slotOf_5 : decode b_St_slotOf 5 = .ok (.iconst 1, 1) := by decide +kernel
theorem d_St_slotOf_6 : decode b_St_slotOf 6 = .ok (.isub, 1) := by decide +kernel
theorem d_St_slotOf_7 : decode b_St_slotOf 7 = .ok (.istore_n 3, 1) := by decide +kernel
theorem d_St_slotOf_8 : decode b_St_slotOf 8 = .ok (.lload_n 1, 1) := by decide +kernel
theorem d_St_slotOf_9 : decode b_St_slotOf 9 = .ok (.ldc2_w 48, 3) := by decide +kernel
theorem d_St_slotOf_12 : decode b_St_slotOf 12 = .ok (.lmul, 1) := by decide +kernel
theorem d_St_slotOf_13 : decode b_St_slotOf 13 = .ok (.bipush 40, 2) := by decide +kernel
theorem d_St_slotOf_15 : decode b_St_slotOf 15 = .ok (.lushr, 1) := by decide +kernel
theorem d_St_slotOf_16 : decode b_St_slotOf 16 = .ok (.l2i, 1) := by decide +kernel
theorem d_St_slotOf_17 : decode b_St_slotOf 17 = .ok (.iload_n 3, 1) := by decide +kernel
theorem d_St_slotOf_18 : decode b_St_slotOf 18 = .ok (.iand, 1) := by decide +kernel
theorem d_St_slotOf_19 : decode b_St_slotOf 19 = .ok (.istore 4, 2) := by decide +kernel
theorem d_St_slotOf_21 : decode b_St_slotOf 21 = .ok (.iconst 0, 1) := by decide +kernel
theorem d_St_slotOf_22 : decode b_St_slotOf 22 = .ok (.istore 5, 2) := by decide +kernel
theorem d_St_slotOf_24 : decode b_St_slotOf 24 = .ok (.iload 5, 2) := by decide +kernel
theorem d_St_slotOf_26 : decode b_St_slotOf 26 = .ok (.iload_n 3, 1) := by decide +kernel
theorem d_St_slotOf_27 : decode b_St_slotOf 27 = .ok (.if_icmp .ge 46, 3) := by decide +kernel
theorem d_St_slotOf_30 : decode b_St_slotOf 30 = .ok (.aload_n 0, 1) := by decide +kernel
theorem d_St_slotOf_31 : decode b_St_slotOf 31 = .ok (.getfield 39, 3) := by decide +kernel
theorem d_St_slotOf_34 : decode b_St_slotOf 34 = .ok (.iload 4, 2) := by decide +kernel
theorem d_St_slotOf_36 : decode b_St_slotOf 36 = .ok (.iaload, 1) := by decide +kernel
theorem d_St_slotOf_37 : decode b_St_slotOf 37 = .ok (.ifCond .eq 36, 3) := by decide +kernel
theorem d_St_slotOf_40 : decode b_St_slotOf 40 = .ok (.aload_n 0, 1) := by decide +kernel
theorem d_St_slotOf_41 : decode b_St_slotOf 41 = .ok (.getfield 15, 3) := by decide +kernel
theorem d_St_slotOf_44 : decode b_St_slotOf 44 = .ok (.aload_n 0, 1) := by decide +kernel
theorem d_St_slotOf_45 : decode b_St_slotOf 45 = .ok (.getfield 39, 3) := by decide +kernel
theorem d_St_slotOf_48 : decode b_St_slotOf 48 = .ok (.iload 4, 2) := by decide +kernel
theorem d_St_slotOf_50 : decode b_St_slotOf 50 = .ok (.iaload, 1) := by decide +kernel
theorem d_St_slotOf_51 : decode b_St_slotOf 51 = .ok (.iconst 1, 1) := by decide +kernel
theorem d_St_slotOf_52 : decode b_St_slotOf 52 = .ok (.isub, 1) := by decide +kernel
theorem d_St_slotOf_53 : decode b_St_slotOf 53 = .ok (.laload, 1) := by decide +kernel
theorem d_St_slotOf_54 : decode b_St_slotOf 54 = .ok (.lload_n 1, 1) := by decide +kernel
theorem d_St_slotOf_55 : decode b_St_slotOf 55 = .ok (.lcmp, 1) := by decide +kernel
theorem d_St_slotOf_56 : decode b_St_slotOf 56 = .ok (.ifCond .eq 17, 3) := by decide +kernel
theorem d_St_slotOf_59 : decode b_St_slotOf 59 = .ok (.iload 4, 2) := by decide +kernel
theorem d_St_slotOf_61 : decode b_St_slotOf 61 = .ok (.iconst 1, 1) := by decide +kernel
theorem d_St_slotOf_62 : decode b_St_slotOf 62 = .ok (.iadd, 1) := by decide +kernel
theorem d_St_slotOf_63 : decode b_St_slotOf 63 = .ok (.iload_n 3, 1) := by decide +kernel
theorem d_St_slotOf_64 : decode b_St_slotOf 64 = .ok (.iand, 1) := by decide +kernel
theorem d_St_slotOf_65 : decode b_St_slotOf 65 = .ok (.istore 4, 2) := by decide +kernel
theorem d_St_slotOf_67 : decode b_St_slotOf 67 = .ok (.iinc 5 1, 3) := by decide +kernel
theorem d_St_slotOf_70 : decode b_St_slotOf 70 = .ok (.goto (-46), 3) := by decide +kernel
theorem d_St_slotOf_73 : decode b_St_slotOf 73 = .ok (.iload 4, 2) := by decide +kernel
theorem d_St_slotOf_75 : decode b_St_slotOf 75 = .ok (.ireturn, 1) := by decide +kernel
theorem d_St_isTaken_0 : decode b_St_isTaken 0 = .ok (.aload_n 0, 1) := by decide +kernel
theorem d_St_isTaken_1 : decode b_St_isTaken 1 = .ok (.getfield 39, 3) := by decide +kernel
theorem d_St_isTaken_4 : decode b_St_isTaken 4 = .ok (.iload_n 1, 1) := by decide +kernel
theorem d_St_isTaken_5 : decode b_St_isTaken 5 = .ok (.iaload, 1) := by decide +kernel
theorem d_St_isTaken_6 : decode b_St_isTaken 6 = .ok (.ifCond .eq 7, 3) := by decide +kernel
theorem d_St_isTaken_9 : decode b_St_isTaken 9 = .ok (.iconst 1, 1) := by decide +kernel
theorem d_St_isTaken_10 : decode b_St_isTaken 10 = .ok (.goto 4, 3) := by decide +kernel
theorem d_St_isTaken_13 : decode b_St_isTaken 13 = .ok (.iconst 0, 1) := by decide +kernel
theorem d_St_isTaken_14 : decode b_St_isTaken 14 = .ok (.ireturn, 1) := by decide +kernel
theorem d_St_add_0 : decode b_St_add 0 = .ok (.aload_n 0, 1) := by decide +kernel
theorem d_St_add_1 : decode b_St_add 1 = .ok (.getfield 15, 3) := by decide +kernel
theorem d_St_add_4 : decode b_St_add 4 = .ok (.aload_n 0, 1) := by decide +kernel
theorem d_St_add_5 : decode b_St_add 5 = .ok (.getfield 9, 3) := by decide +kernel
theorem d_St_add_8 : decode b_St_add 8 = .ok (.aload_n 2, 1) := by decide +kernel
theorem d_St_add_9 : decode b_St_add 9 = .ok (.getfield 50, 3) := by decide +kernel
theorem d_St_add_12 : decode b_St_add 12 = .ok (.lastore, 1) := by decide +kernel
theorem d_St_add_13 : decode b_St_add 13 = .ok (.aload_n 0, 1) := by decide +kernel
theorem d_St_add_14 : decode b_St_add 14 = .ok (.getfield 19, 3) := by decide +kernel
theorem d_St_add_17 : decode b_St_add 17 = .ok (.aload_n 0, 1) := by decide +kernel
theorem d_St_add_18 : decode b_St_add 18 = .ok (.getfield 9, 3) := by decide +kernel
theorem d_St_add_21 : decode b_St_add 21 = .ok (.aload_n 0, 1) := by decide +kernel
theorem d_St_add_22 : decode b_St_add 22 = .ok (.iload_n 3, 1) := by decide +kernel
theorem d_St_add_23 : decode b_St_add 23 = .ok (.invokevirtual 56, 3) := by decide +kernel
theorem d_St_add_26 : decode b_St_add 26 = .ok (.ifCond .eq 14, 3) := by decide +kernel
theorem d_St_add_29 : decode b_St_add 29 = .ok (.aload_n 0, 1) := by decide +kernel
theorem d_St_add_30 : decode b_St_add 30 = .ok (.getfield 19, 3) := by decide +kernel
theorem d_St_add_33 : decode b_St_add 33 = .ok (.iload_n 3, 1) := by decide +kernel
theorem d_St_add_34 : decode b_St_add 34 = .ok (.iaload, 1) := by decide +kernel
theorem d_St_add_35 : decode b_St_add 35 = .ok (.iconst 1, 1) := by decide +kernel
theorem d_St_add_36 : decode b_St_add 36 = .ok (.iadd, 1) := by decide +kernel
theorem d_St_add_37 : decode b_St_add 37 = .ok (.goto 4, 3) := by decide +kernel
theorem d_St_add_40 : decode b_St_add 40 = .ok (.iconst 0, 1) := by decide +kernel
theorem d_St_add_41 : decode b_St_add 41 = .ok (.iastore, 1) := by decide +kernel
theorem d_St_add_42 : decode b_St_add 42 = .ok (.aload_n 0, 1) := by decide +kernel
theorem d_St_add_43 : decode b_St_add 43 = .ok (.getfield 23, 3) := by decide +kernel
theorem d_St_add_46 : decode b_St_add 46 = .ok (.aload_n 0, 1) := by decide +kernel
theorem d_St_add_47 : decode b_St_add 47 = .ok (.getfield 9, 3) := by decide +kernel
theorem d_St_add_50 : decode b_St_add 50 = .ok (.iload_n 3, 1) := by decide +kernel
theorem d_St_add_51 : decode b_St_add 51 = .ok (.iastore, 1) := by decide +kernel
theorem d_St_add_52 : decode b_St_add 52 = .ok (.aload_n 0, 1) := by decide +kernel
theorem d_St_add_53 : decode b_St_add 53 = .ok (.getfield 26, 3) := by decide +kernel
theorem d_St_add_56 : decode b_St_add 56 = .ok (.aload_n 0, 1) := by decide +kernel
theorem d_St_add_57 : decode b_St_add 57 = .ok (.getfield 9, 3) := by decide +kernel
theorem d_St_add_60 : decode b_St_add 60 = .ok (.iload 4, 2) := by decide +kernel
theorem d_St_add_62 : decode b_St_add 62 = .ok (.iastore, 1) := by decide +kernel
theorem d_St_add_63 : decode b_St_add 63 = .ok (.aload_n 0, 1) := by decide +kernel
theorem d_St_add_64 : decode b_St_add 64 = .ok (.getfield 29, 3) := by decide +kernel
theorem d_St_add_67 : decode b_St_add 67 = .ok (.aload_n 0, 1) := by decide +kernel
theorem d_St_add_68 : decode b_St_add 68 = .ok (.getfield 9, 3) := by decide +kernel
theorem d_St_add_71 : decode b_St_add 71 = .ok (.iconst (-1), 1) := by decide +kernel
theorem d_St_add_72 : decode b_St_add 72 = .ok (.iastore, 1) := by decide +kernel
theorem d_St_add_73 : decode b_St_add 73 = .ok (.aload_n 0, 1) := by decide +kernel
theorem d_St_add_74 : decode b_St_add 74 = .ok (.getfield 32, 3) := by decide +kernel
theorem d_St_add_77 : decode b_St_add 77 = .ok (.aload_n 0, 1) := by decide +kernel
theorem d_St_add_78 : decode b_St_add 78 = .ok (.getfield 9, 3) := by decide +kernel
theorem d_St_add_81 : decode b_St_add 81 = .ok (.aload_n 2, 1) := by decide +kernel
theorem d_St_add_82 : decode b_St_add 82 = .ok (.getfield 60, 3) := by decide +kernel
theorem d_St_add_85 : decode b_St_add 85 = .ok (.iastore, 1) := by decide +kernel
theorem d_St_add_86 : decode b_St_add 86 = .ok (.aload_n 0, 1) := by decide +kernel
theorem d_St_add_87 : decode b_St_add 87 = .ok (.getfield 39, 3) := by decide +kernel
theorem d_St_add_90 : decode b_St_add 90 = .ok (.iload_n 1, 1) := by decide +kernel
theorem d_St_add_91 : decode b_St_add 91 = .ok (.aload_n 0, 1) := by decide +kernel
theorem d_St_add_92 : decode b_St_add 92 = .ok (.dup, 1) := by decide +kernel
theorem d_St_add_93 : decode b_St_add 93 = .ok (.getfield 9, 3) := by decide +kernel
theorem d_St_add_96 : decode b_St_add 96 = .ok (.iconst 1, 1) := by decide +kernel
theorem d_St_add_97 : decode b_St_add 97 = .ok (.iadd, 1) := by decide +kernel
theorem d_St_add_98 : decode b_St_add 98 = .ok (.dup_x1, 1) := by decide +kernel
theorem d_St_add_99 : decode b_St_add 99 = .ok (.putfield 9, 3) := by decide +kernel
theorem d_St_add_102 : decode b_St_add 102 = .ok (.iastore, 1) := by decide +kernel
theorem d_St_add_103 : decode b_St_add 103 = .ok (.return_, 1) := by decide +kernel
theorem d_St_greatestLevel_0 : decode b_St_greatestLevel 0 = .ok (.aload_n 0, 1) := by decide +kernel
theorem d_St_greatestLevel_1 : decode b_St_greatestLevel 1 = .ok (.getfield 9, 3) := by decide +kernel
theorem d_St_greatestLevel_4 : decode b_St_greatestLevel 4 = .ok (.ifCond .le 17, 3) := by decide +kernel
theorem d_St_greatestLevel_7 : decode b_St_greatestLevel 7 = .ok (.aload_n 0, 1) := by decide +kernel
theorem d_St_greatestLevel_8 : decode b_St_greatestLevel 8 = .ok (.getfield 19, 3) := by decide +kernel
theorem d_St_greatestLevel_11 : decode b_St_greatestLevel 11 = .ok (.aload_n 0, 1) := by decide +kernel
theorem d_St_greatestLevel_12 : decode b_St_greatestLevel 12 = .ok (.getfield 9, 3) := by decide +kernel
theorem d_St_greatestLevel_15 : decode b_St_greatestLevel 15 = .ok (.iconst 1, 1) := by decide +kernel
theorem d_St_greatestLevel_16 : decode b_St_greatestLevel 16 = .ok (.isub, 1) := by decide +kernel
theorem d_St_greatestLevel_17 : decode b_St_greatestLevel 17 = .ok (.iaload, 1) := by decide +kernel
theorem d_St_greatestLevel_18 : decode b_St_greatestLevel 18 = .ok (.goto 4, 3) := by decide +kernel
theorem d_St_greatestLevel_21 : decode b_St_greatestLevel 21 = .ok (.iconst (-1), 1) := by decide +kernel
theorem d_St_greatestLevel_22 : decode b_St_greatestLevel 22 = .ok (.ireturn, 1) := by decide +kernel
theorem d_St_beforeLast_0 : decode b_St_beforeLast 0 = .ok (.aload_n 0, 1) := by decide +kernel
theorem d_St_beforeLast_1 : decode b_St_beforeLast 1 = .ok (.getfield 9, 3) := by decide +kernel
theorem d_St_beforeLast_4 : decode b_St_beforeLast 4 = .ok (.iconst 1, 1) := by decide +kernel
theorem d_St_beforeLast_5 : decode b_St_beforeLast 5 = .ok (.isub, 1) := by decide +kernel
theorem d_St_beforeLast_6 : decode b_St_beforeLast 6 = .ok (.istore_n 2, 1) := by decide +kernel
theorem d_St_beforeLast_7 : decode b_St_beforeLast 7 = .ok (.iconst 0, 1) := by decide +kernel
theorem d_St_beforeLast_8 : decode b_St_beforeLast 8 = .ok (.istore_n 3, 1) := by decide +kernel
theorem d_St_beforeLast_9 : decode b_St_beforeLast 9 = .ok (.iload_n 3, 1) := by decide +kernel
theorem d_St_beforeLast_10 : decode b_St_beforeLast 10 = .ok (.aload_n 0, 1) := by decide +kernel
theorem d_St_beforeLast_11 : decode b_St_beforeLast 11 = .ok (.getfield 9, 3) := by decide +kernel
theorem d_St_beforeLast_14 : decode b_St_beforeLast 14 = .ok (.if_icmp .ge 34, 3) := by decide +kernel
theorem d_St_beforeLast_17 : decode b_St_beforeLast 17 = .ok (.aload_n 0, 1) := by decide +kernel
theorem d_St_beforeLast_18 : decode b_St_beforeLast 18 = .ok (.iload_n 2, 1) := by decide +kernel
theorem d_St_beforeLast_19 : decode b_St_beforeLast 19 = .ok (.invokevirtual 56, 3) := by decide +kernel
theorem d_St_beforeLast_22 : decode b_St_beforeLast 22 = .ok (.ifCond .eq 26, 3) := by decide +kernel
theorem d_St_beforeLast_25 : decode b_St_beforeLast 25 = .ok (.aload_n 0, 1) := by decide +kernel
theorem d_St_beforeLast_26 : decode b_St_beforeLast 26 = .ok (.getfield 19, 3) := by decide +kernel
theorem d_St_beforeLast_29 : decode b_St_beforeLast 29 = .ok (.iload_n 2, 1) := by decide +kernel
theorem d_St_beforeLast_30 : decode b_St_beforeLast 30 = .ok (.iaload, 1) := by decide +kernel
theorem d_St_beforeLast_31 : decode b_St_beforeLast 31 = .ok (.iload_n 1, 1) := by decide +kernel
theorem d_St_beforeLast_32 : decode b_St_beforeLast 32 = .ok (.if_icmp .le 16, 3) := by decide +kernel
theorem d_St_beforeLast_35 : decode b_St_beforeLast 35 = .ok (.aload_n 0, 1) := by decide +kernel
theorem d_St_beforeLast_36 : decode b_St_beforeLast 36 = .ok (.getfield 23, 3) := by decide +kernel
theorem d_St_beforeLast_39 : decode b_St_beforeLast 39 = .ok (.iload_n 2, 1) := by decide +kernel
theorem d_St_beforeLast_40 : decode b_St_beforeLast 40 = .ok (.iaload, 1) := by decide +kernel
theorem d_St_beforeLast_41 : decode b_St_beforeLast 41 = .ok (.istore_n 2, 1) := by decide +kernel
theorem d_St_beforeLast_42 : decode b_St_beforeLast 42 = .ok (.iinc 3 1, 3) := by decide +kernel
theorem d_St_beforeLast_45 : decode b_St_beforeLast 45 = .ok (.goto (-36), 3) := by decide +kernel
theorem d_St_beforeLast_48 : decode b_St_beforeLast 48 = .ok (.iload_n 2, 1) := by decide +kernel
theorem d_St_beforeLast_49 : decode b_St_beforeLast 49 = .ok (.ireturn, 1) := by decide +kernel
theorem d_Ma_floorMod_0 : decode b_Ma_floorMod 0 = .ok (.iload_n 0, 1) := by decide +kernel
theorem d_Ma_floorMod_1 : decode b_Ma_floorMod 1 = .ok (.iload_n 1, 1) := by decide +kernel
theorem d_Ma_floorMod_2 : decode b_Ma_floorMod 2 = .ok (.irem, 1) := by decide +kernel
theorem d_Ma_floorMod_3 : decode b_Ma_floorMod 3 = .ok (.istore_n 2, 1) := by decide +kernel
theorem d_Ma_floorMod_4 : decode b_Ma_floorMod 4 = .ok (.iload_n 0, 1) := by decide +kernel
theorem d_Ma_floorMod_5 : decode b_Ma_floorMod 5 = .ok (.iload_n 1, 1) := by decide +kernel
theorem d_Ma_floorMod_6 : decode b_Ma_floorMod 6 = .ok (.ixor, 1) := by decide +kernel
theorem d_Ma_floorMod_7 : decode b_Ma_floorMod 7 = .ok (.ifCond .ge 11, 3) := by decide +kernel
theorem d_Ma_floorMod_10 : decode b_Ma_floorMod 10 = .ok (.iload_n 2, 1) := by decide +kernel
theorem d_Ma_floorMod_11 : decode b_Ma_floorMod 11 = .ok (.ifCond .eq 7, 3) := by decide +kernel
theorem d_Ma_floorMod_14 : decode b_Ma_floorMod 14 = .ok (.iload_n 2, 1) := by decide +kernel
theorem d_Ma_floorMod_15 : decode b_Ma_floorMod 15 = .ok (.iload_n 1, 1) := by decide +kernel
theorem d_Ma_floorMod_16 : decode b_Ma_floorMod 16 = .ok (.iadd, 1) := by decide +kernel
theorem d_Ma_floorMod_17 : decode b_Ma_floorMod 17 = .ok (.ireturn, 1) := by decide +kernel
theorem d_Ma_floorMod_18 : decode b_Ma_floorMod 18 = .ok (.iload_n 2, 1) := by decide +kernel
theorem d_Ma_floorMod_19 : decode b_Ma_floorMod 19 = .ok (.ireturn, 1) := by decide +kernel
theorem d_Ar_fill_0 : decode b_Ar_fill 0 = .ok (.iconst 0, 1) := by decide +kernel
theorem d_Ar_fill_1 : decode b_Ar_fill 1 = .ok (.istore_n 2, 1) := by decide +kernel
theorem d_Ar_fill_2 : decode b_Ar_fill 2 = .ok (.aload_n 0, 1) := by decide +kernel
theorem d_Ar_fill_3 : decode b_Ar_fill 3 = .ok (.arraylength, 1) := by decide +kernel
theorem d_Ar_fill_4 : decode b_Ar_fill 4 = .ok (.istore_n 3, 1) := by decide +kernel
theorem d_Ar_fill_5 : decode b_Ar_fill 5 = .ok (.iload_n 2, 1) := by decide +kernel
theorem d_Ar_fill_6 : decode b_Ar_fill 6 = .ok (.iload_n 3, 1) := by decide +kernel
theorem d_Ar_fill_7 : decode b_Ar_fill 7 = .ok (.if_icmp .ge 13, 3) := by decide +kernel
theorem d_Ar_fill_10 : decode b_Ar_fill 10 = .ok (.aload_n 0, 1) := by decide +kernel
theorem d_Ar_fill_11 : decode b_Ar_fill 11 = .ok (.iload_n 2, 1) := by decide +kernel
theorem d_Ar_fill_12 : decode b_Ar_fill 12 = .ok (.iload_n 1, 1) := by decide +kernel
theorem d_Ar_fill_13 : decode b_Ar_fill 13 = .ok (.iastore, 1) := by decide +kernel
theorem d_Ar_fill_14 : decode b_Ar_fill 14 = .ok (.iinc 2 1, 3) := by decide +kernel
theorem d_Ar_fill_17 : decode b_Ar_fill 17 = .ok (.goto (-12), 3) := by decide +kernel
theorem d_Ar_fill_20 : decode b_Ar_fill 20 = .ok (.return_, 1) := by decide +kernel
end
section
set_option maxRecDepth 20000 in
theorem x_Mo_hasState_0 {X : am_X} {dd bc bs : Nat} (K : am_ok X b_Mo_hasState R_Mo 2 dd) {post : Option am_V → List am_C → Prop} (hr : am_rt X (some .boolean) post) {l1 m_nodes m_states m_kinds m_rules : Int32} {m_badPairs : Int64} {c0 c2 c3 c4 c5 c6 c7 c8 c9 c10 c11 c12 c13 c14 c15 c16 c17 c18 c19 c20 c21 c22 c23 c24 c25 : am_C}
    (h : (l1 < 0 → post (some (aI 0)) [c0, oC 1 [aI m_nodes, aI m_states, aI m_kinds, aI m_rules, aR 2, aR 3, aR 4, aR 5, aR 6, aR 7, aR 8, aL m_badPairs], c2, c3, c4, c5, c6, c7, c8, c9, c10, c11, c12, c13, c14, c15, c16, c17, c18, c19, c20, c21, c22, c23, c24, c25]) ∧ (¬ l1 < 0 → (m_states ≤ l1 → post (some (aI 0)) [c0, oC 1 [aI m_nodes, aI m_states, aI m_kinds, aI m_rules, aR 2, aR 3, aR 4, aR 5, aR 6, aR 7, aR 8, aL m_badPairs], c2, c3, c4, c5, c6, c7, c8, c9, c10, c11, c12, c13, c14, c15, c16, c17, c18, c19, c20, c21, c22, c23, c24, c25]) ∧ (¬ m_states ≤ l1 → post (some (aI 1)) [c0, oC 1 [aI m_nodes, aI m_states, aI m_kinds, aI m_rules, aR 2, aR 3, aR 4, aR 5, aR 6, aR 7, aR 8, aL m_badPairs], c2, c3, c4, c5, c6, c7, c8, c9, c10, c11, c12, c13, c14, c15, c16, c17, c18, c19, c20, c21, c22, c23, c24, c25]))) :
    AW X 0 [some (aR 1), some (aI l1)] [] [c0, oC 1 [aI m_nodes, aI m_states, aI m_kinds, aI m_rules, aR 2, aR 3, aR 4, aR 5, aR 6, aR 7, aR 8, aL m_badPairs], c2, c3, c4, c5, c6, c7, c8, c9, c10, c11, c12, c13, c14, c15, c16, c17, c18, c19, c20, c21, c22, c23, c24, c25] bc bs := by
  refine aw_iload_n K d_Mo_hasState_0 rfl rfl ?_
  refine aw_if_lt K d_Mo_hasState_1 (t := 16) (by decide) rfl (fun q => ?_) (fun q => ?_)
  · replace h := h.1 q
    refine aw_iconst K d_Mo_hasState_16 rfl (v := 0) (by decide) ?_
    exact aw_zret K hr d_Mo_hasState_17 (Or.inl rfl) h
  · replace h := h.2 q
    refine aw_iload_n K d_Mo_hasState_4 rfl rfl ?_
    refine aw_aload_n K d_Mo_hasState_5 rfl rfl ?_
    refine aw_getf K fd_Mo_9 d_Mo_hasState_6 rfl rfl rfl ?_
    refine aw_icmp_ge K d_Mo_hasState_9 (t := 16) (by decide) rfl (fun q => ?_) (fun q => ?_)
    · replace h := h.1 q
      refine aw_iconst K d_Mo_hasState_16 rfl (v := 0) (by decide) ?_
      exact aw_zret K hr d_Mo_hasState_17 (Or.inl rfl) h
    · replace h := h.2 q
      refine aw_iconst K d_Mo_hasState_12 rfl (v := 1) (by decide) ?_
      refine aw_goto K d_Mo_hasState_13 (n := 17) (by decide) ?_
      exact aw_zret K hr d_Mo_hasState_17 (Or.inr rfl) h
set_option maxRecDepth 20000 in
theorem x_Mo_hasKind_0 {X : am_X} {dd bc bs : Nat} (K : am_ok X b_Mo_hasKind R_Mo 2 dd) {post : Option am_V → List am_C → Prop} (hr : am_rt X (some .boolean) post) {l1 m_nodes m_states m_kinds m_rules : Int32} {m_badPairs : Int64} {c0 c2 c3 c4 c5 c6 c7 c8 c9 c10 c11 c12 c13 c14 c15 c16 c17 c18 c19 c20 c21 c22 c23 c24 c25 : am_C}
    (h : (l1 < 0 → post (some (aI 0)) [c0, oC 1 [aI m_nodes, aI m_states, aI m_kinds, aI m_rules, aR 2, aR 3, aR 4, aR 5, aR 6, aR 7, aR 8, aL m_badPairs], c2, c3, c4, c5, c6, c7, c8, c9, c10, c11, c12, c13, c14, c15, c16, c17, c18, c19, c20, c21, c22, c23, c24, c25]) ∧ (¬ l1 < 0 → (m_kinds ≤ l1 → post (some (aI 0)) [c0, oC 1 [aI m_nodes, aI m_states, aI m_kinds, aI m_rules, aR 2, aR 3, aR 4, aR 5, aR 6, aR 7, aR 8, aL m_badPairs], c2, c3, c4, c5, c6, c7, c8, c9, c10, c11, c12, c13, c14, c15, c16, c17, c18, c19, c20, c21, c22, c23, c24, c25]) ∧ (¬ m_kinds ≤ l1 → post (some (aI 1)) [c0, oC 1 [aI m_nodes, aI m_states, aI m_kinds, aI m_rules, aR 2, aR 3, aR 4, aR 5, aR 6, aR 7, aR 8, aL m_badPairs], c2, c3, c4, c5, c6, c7, c8, c9, c10, c11, c12, c13, c14, c15, c16, c17, c18, c19, c20, c21, c22, c23, c24, c25]))) :
    AW X 0 [some (aR 1), some (aI l1)] [] [c0, oC 1 [aI m_nodes, aI m_states, aI m_kinds, aI m_rules, aR 2, aR 3, aR 4, aR 5, aR 6, aR 7, aR 8, aL m_badPairs], c2, c3, c4, c5, c6, c7, c8, c9, c10, c11, c12, c13, c14, c15, c16, c17, c18, c19, c20, c21, c22, c23, c24, c25] bc bs := by
  refine aw_iload_n K d_Mo_hasKind_0 rfl rfl ?_
  refine aw_if_lt K d_Mo_hasKind_1 (t := 16) (by decide) rfl (fun q => ?_) (fun q => ?_)
  · replace h := h.1 q
    refine aw_iconst K d_Mo_hasKind_16 rfl (v := 0) (by decide) ?_
    exact aw_zret K hr d_Mo_hasKind_17 (Or.inl rfl) h
  · replace h := h.2 q
    refine aw_iload_n K d_Mo_hasKind_4 rfl rfl ?_
    refine aw_aload_n K d_Mo_hasKind_5 rfl rfl ?_
    refine aw_getf K fd_Mo_15 d_Mo_hasKind_6 rfl rfl rfl ?_
    refine aw_icmp_ge K d_Mo_hasKind_9 (t := 16) (by decide) rfl (fun q => ?_) (fun q => ?_)
    · replace h := h.1 q
      refine aw_iconst K d_Mo_hasKind_16 rfl (v := 0) (by decide) ?_
      exact aw_zret K hr d_Mo_hasKind_17 (Or.inl rfl) h
    · replace h := h.2 q
      refine aw_iconst K d_Mo_hasKind_12 rfl (v := 1) (by decide) ?_
      refine aw_goto K d_Mo_hasKind_13 (n := 17) (by decide) ?_
      exact aw_zret K hr d_Mo_hasKind_17 (Or.inr rfl) h
set_option maxRecDepth 20000 in
theorem x_Mo_addRule_0 {X : am_X} {dd bc bs : Nat} (K : am_ok X b_Mo_addRule R_Mo 4 dd) {post : Option am_V → List am_C → Prop} (hr : am_rt X (some .int) post) {l1 l2 l3 m_nodes m_states m_kinds m_rules : Int32} {m_badPairs : Int64} {m_starts m_events m_targets m_growths : Nat → Int32} {c0 c5 c6 c7 c9 c10 c11 c12 c13 c14 c15 c16 c17 c18 c19 c20 c21 c22 c23 c24 c25 : am_C}
    (h : vp_in m_rules 40 ∧ vp_in m_rules 40 ∧ vp_in m_rules 40 ∧ (¬ l2 = ((-1)) → AW X 48 [some (aR 1), none, none, none] [aI ((-1)), aI m_rules, aR 8] [c0, oC 1 [aI m_nodes, aI m_states, aI m_kinds, aI m_rules, aR 2, aR 3, aR 4, aR 5, aR 6, aR 7, aR 8, aL m_badPairs], iC 40 (upd m_starts m_rules.toNatClampNeg l1), iC 40 (upd m_events m_rules.toNatClampNeg l2), iC 40 (upd m_targets m_rules.toNatClampNeg l3), c5, c6, c7, iC 40 m_growths, c9, c10, c11, c12, c13, c14, c15, c16, c17, c18, c19, c20, c21, c22, c23, c24, c25] bc bs) ∧ (l2 = ((-1)) → AW X 48 [some (aR 1), none, none, none] [aI 0, aI m_rules, aR 8] [c0, oC 1 [aI m_nodes, aI m_states, aI m_kinds, aI m_rules, aR 2, aR 3, aR 4, aR 5, aR 6, aR 7, aR 8, aL m_badPairs], iC 40 (upd m_starts m_rules.toNatClampNeg l1), iC 40 (upd m_events m_rules.toNatClampNeg l2), iC 40 (upd m_targets m_rules.toNatClampNeg l3), c5, c6, c7, iC 40 m_growths, c9, c10, c11, c12, c13, c14, c15, c16, c17, c18, c19, c20, c21, c22, c23, c24, c25] bc bs)) :
    AW X 0 [some (aR 1), some (aI l1), some (aI l2), some (aI l3)] [] [c0, oC 1 [aI m_nodes, aI m_states, aI m_kinds, aI m_rules, aR 2, aR 3, aR 4, aR 5, aR 6, aR 7, aR 8, aL m_badPairs], iC 40 m_starts, iC 40 m_events, iC 40 m_targets, c5, c6, c7, iC 40 m_growths, c9, c10, c11, c12, c13, c14, c15, c16, c17, c18, c19, c20, c21, c22, c23, c24, c25] bc bs := by
  refine aw_aload_n K d_Mo_addRule_0 rfl rfl ?_
  refine aw_getf K fd_Mo_21 d_Mo_addRule_1 rfl rfl rfl ?_
  refine aw_aload_n K d_Mo_addRule_4 rfl rfl ?_
  refine aw_getf K fd_Mo_18 d_Mo_addRule_5 rfl rfl rfl ?_
  refine aw_iload_n K d_Mo_addRule_8 rfl rfl ?_
  refine aw_iast K d_Mo_addRule_9 rfl rfl h.1 (w' := [c0, oC 1 [aI m_nodes, aI m_states, aI m_kinds, aI m_rules, aR 2, aR 3, aR 4, aR 5, aR 6, aR 7, aR 8, aL m_badPairs], iC 40 (upd m_starts m_rules.toNatClampNeg l1), iC 40 m_events, iC 40 m_targets, c5, c6, c7, iC 40 m_growths, c9, c10, c11, c12, c13, c14, c15, c16, c17, c18, c19, c20, c21, c22, c23, c24, c25]) rfl ?_
  replace h := h.2
  refine aw_aload_n K d_Mo_addRule_10 rfl rfl ?_
  refine aw_getf K fd_Mo_25 d_Mo_addRule_11 rfl rfl rfl ?_
  refine aw_aload_n K d_Mo_addRule_14 rfl rfl ?_
  refine aw_getf K fd_Mo_18 d_Mo_addRule_15 rfl rfl rfl ?_
  refine aw_iload_n K d_Mo_addRule_18 rfl rfl ?_
  refine aw_iast K d_Mo_addRule_19 rfl rfl h.1 (w' := [c0, oC 1 [aI m_nodes, aI m_states, aI m_kinds, aI m_rules, aR 2, aR 3, aR 4, aR 5, aR 6, aR 7, aR 8, aL m_badPairs], iC 40 (upd m_starts m_rules.toNatClampNeg l1), iC 40 (upd m_events m_rules.toNatClampNeg l2), iC 40 m_targets, c5, c6, c7, iC 40 m_growths, c9, c10, c11, c12, c13, c14, c15, c16, c17, c18, c19, c20, c21, c22, c23, c24, c25]) rfl ?_
  replace h := h.2
  refine aw_aload_n K d_Mo_addRule_20 rfl rfl ?_
  refine aw_getf K fd_Mo_28 d_Mo_addRule_21 rfl rfl rfl ?_
  refine aw_aload_n K d_Mo_addRule_24 rfl rfl ?_
  refine aw_getf K fd_Mo_18 d_Mo_addRule_25 rfl rfl rfl ?_
  refine aw_iload_n K d_Mo_addRule_28 rfl rfl ?_
  refine aw_iast K d_Mo_addRule_29 rfl rfl h.1 (w' := [c0, oC 1 [aI m_nodes, aI m_states, aI m_kinds, aI m_rules, aR 2, aR 3, aR 4, aR 5, aR 6, aR 7, aR 8, aL m_badPairs], iC 40 (upd m_starts m_rules.toNatClampNeg l1), iC 40 (upd m_events m_rules.toNatClampNeg l2), iC 40 (upd m_targets m_rules.toNatClampNeg l3), c5, c6, c7, iC 40 m_growths, c9, c10, c11, c12, c13, c14, c15, c16, c17, c18, c19, c20, c21, c22, c23, c24, c25]) rfl ?_
  replace h := h.2
  refine aw_aload_n K d_Mo_addRule_30 rfl rfl ?_
  refine aw_getf K fd_Mo_40 d_Mo_addRule_31 rfl rfl rfl ?_
  refine aw_aload_n K d_Mo_addRule_34 rfl rfl ?_
  refine aw_getf K fd_Mo_18 d_Mo_addRule_35 rfl rfl rfl ?_
  refine aw_iload_n K d_Mo_addRule_38 rfl rfl ?_
  refine aw_iconst K d_Mo_addRule_39 rfl (v := (-1)) (by decide) ?_
  refine aw_icmp_ne K d_Mo_addRule_40 (t := 47) (by decide) rfl (fun q => ?_) (fun q => ?_)
  · replace h := h.1 q
    refine aw_iconst K d_Mo_addRule_47 rfl (v := (-1)) (by decide) ?_
    refine aw_less [1, 2, 3] rfl ?_
    exact h
  · replace h := h.2 q
    refine aw_iconst K d_Mo_addRule_43 rfl (v := 0) (by decide) ?_
    refine aw_goto K d_Mo_addRule_44 (n := 48) (by decide) ?_
    refine aw_less [1, 2, 3] rfl ?_
    exact h
set_option maxRecDepth 20000 in
theorem x_Mo_addRule_48 {X : am_X} {dd bc bs : Nat} (K : am_ok X b_Mo_addRule R_Mo 4 dd) {post : Option am_V → List am_C → Prop} (hr : am_rt X (some .int) post) {s0 s1 m_nodes m_states m_kinds m_rules : Int32} {m_badPairs : Int64} {m_starts m_events m_targets m_growths : Nat → Int32} {c0 c5 c6 c7 c9 c10 c11 c12 c13 c14 c15 c16 c17 c18 c19 c20 c21 c22 c23 c24 c25 : am_C}
    (h : vp_in s1 40 ∧ post (some (aI m_rules)) [c0, oC 1 [aI m_nodes, aI m_states, aI m_kinds, aI (m_rules + 1), aR 2, aR 3, aR 4, aR 5, aR 6, aR 7, aR 8, aL m_badPairs], iC 40 m_starts, iC 40 m_events, iC 40 m_targets, c5, c6, c7, iC 40 (upd m_growths s1.toNatClampNeg s0), c9, c10, c11, c12, c13, c14, c15, c16, c17, c18, c19, c20, c21, c22, c23, c24, c25]) :
    AW X 48 [some (aR 1), none, none, none] [aI s0, aI s1, aR 8] [c0, oC 1 [aI m_nodes, aI m_states, aI m_kinds, aI m_rules, aR 2, aR 3, aR 4, aR 5, aR 6, aR 7, aR 8, aL m_badPairs], iC 40 m_starts, iC 40 m_events, iC 40 m_targets, c5, c6, c7, iC 40 m_growths, c9, c10, c11, c12, c13, c14, c15, c16, c17, c18, c19, c20, c21, c22, c23, c24, c25] bc bs := by
  refine aw_iast K d_Mo_addRule_48 rfl rfl h.1 (w' := [c0, oC 1 [aI m_nodes, aI m_states, aI m_kinds, aI m_rules, aR 2, aR 3, aR 4, aR 5, aR 6, aR 7, aR 8, aL m_badPairs], iC 40 m_starts, iC 40 m_events, iC 40 m_targets, c5, c6, c7, iC 40 (upd m_growths s1.toNatClampNeg s0), c9, c10, c11, c12, c13, c14, c15, c16, c17, c18, c19, c20, c21, c22, c23, c24, c25]) rfl ?_
  replace h := h.2
  refine aw_aload_n K d_Mo_addRule_49 rfl rfl ?_
  refine aw_dup K d_Mo_addRule_50 rfl (fun _ e => nomatch e) ?_
  refine aw_getf K fd_Mo_18 d_Mo_addRule_51 rfl rfl rfl ?_
  refine aw_dup_x1 K d_Mo_addRule_54 rfl (fun _ e => nomatch e) (fun _ e => nomatch e) ?_
  refine aw_iconst K d_Mo_addRule_55 rfl (v := 1) (by decide) ?_
  refine aw_iadd K d_Mo_addRule_56 rfl ?_
  refine aw_putf K fp_Mo_18 d_Mo_addRule_57 rfl rfl (Nat.le_of_ble_eq_true rfl) (am_fit_i _) (w' := [c0, oC 1 [aI m_nodes, aI m_states, aI m_kinds, aI (m_rules + 1), aR 2, aR 3, aR 4, aR 5, aR 6, aR 7, aR 8, aL m_badPairs], iC 40 m_starts, iC 40 m_events, iC 40 m_targets, c5, c6, c7, iC 40 (upd m_growths s1.toNatClampNeg s0), c9, c10, c11, c12, c13, c14, c15, c16, c17, c18, c19, c20, c21, c22, c23, c24, c25]) rfl ?_
  exact aw_iret K hr d_Mo_addRule_60 h
set_option maxRecDepth 20000 in
theorem x_Mo_addSend_0 {X : am_X} {dd bc bs : Nat} (K : am_ok X b_Mo_addSend R_Mo 5 dd) {post : Option am_V → List am_C → Prop} (hr : am_rt X (some .int) post) {l1 l2 l3 m_nodes m_states m_kinds m_rules : Int32} {m_badPairs : Int64} {m_sends m_sentKinds m_sentWhom m_growths : Nat → Int32} {c0 c2 c3 c4 c9 c10 c11 c12 c13 c14 c15 c16 c17 c18 c19 c20 c21 c22 c23 c24 c25 : am_C}
    (h : vp_in l1 40 ∧ vp_in ((l1 * 4) + (m_sends l1.toNatClampNeg)) 160 ∧ vp_in ((l1 * 4) + (m_sends l1.toNatClampNeg)) 160 ∧ vp_in l1 40 ∧ (¬ l3 = 0 → AW X 49 [some (aR 1), some (aI l1), none, none, none] [aI (m_nodes - 1), aI (m_growths l1.toNatClampNeg), aI l1, aR 8] [c0, oC 1 [aI m_nodes, aI m_states, aI m_kinds, aI m_rules, aR 2, aR 3, aR 4, aR 5, aR 6, aR 7, aR 8, aL m_badPairs], c2, c3, c4, iC 40 m_sends, iC 160 (upd m_sentKinds ((l1 * 4) + (m_sends l1.toNatClampNeg)).toNatClampNeg l2), iC 160 (upd m_sentWhom ((l1 * 4) + (m_sends l1.toNatClampNeg)).toNatClampNeg l3), iC 40 m_growths, c9, c10, c11, c12, c13, c14, c15, c16, c17, c18, c19, c20, c21, c22, c23, c24, c25] bc bs) ∧ (l3 = 0 → AW X 49 [some (aR 1), some (aI l1), none, none, none] [aI 1, aI (m_growths l1.toNatClampNeg), aI l1, aR 8] [c0, oC 1 [aI m_nodes, aI m_states, aI m_kinds, aI m_rules, aR 2, aR 3, aR 4, aR 5, aR 6, aR 7, aR 8, aL m_badPairs], c2, c3, c4, iC 40 m_sends, iC 160 (upd m_sentKinds ((l1 * 4) + (m_sends l1.toNatClampNeg)).toNatClampNeg l2), iC 160 (upd m_sentWhom ((l1 * 4) + (m_sends l1.toNatClampNeg)).toNatClampNeg l3), iC 40 m_growths, c9, c10, c11, c12, c13, c14, c15, c16, c17, c18, c19, c20, c21, c22, c23, c24, c25] bc bs)) :
    AW X 0 [some (aR 1), some (aI l1), some (aI l2), some (aI l3), none] [] [c0, oC 1 [aI m_nodes, aI m_states, aI m_kinds, aI m_rules, aR 2, aR 3, aR 4, aR 5, aR 6, aR 7, aR 8, aL m_badPairs], c2, c3, c4, iC 40 m_sends, iC 160 m_sentKinds, iC 160 m_sentWhom, iC 40 m_growths, c9, c10, c11, c12, c13, c14, c15, c16, c17, c18, c19, c20, c21, c22, c23, c24, c25] bc bs := by
  refine aw_iload_n K d_Mo_addSend_0 rfl rfl ?_
  refine aw_iconst K d_Mo_addSend_1 rfl (v := 4) (by decide) ?_
  refine aw_imul K d_Mo_addSend_2 rfl ?_
  refine aw_aload_n K d_Mo_addSend_3 rfl rfl ?_
  refine aw_getf K fd_Mo_31 d_Mo_addSend_4 rfl rfl rfl ?_
  refine aw_iload_n K d_Mo_addSend_7 rfl rfl ?_
  refine aw_iald K d_Mo_addSend_8 rfl rfl h.1 ?_
  replace h := h.2
  refine aw_iadd K d_Mo_addSend_9 rfl ?_
  refine aw_istore K d_Mo_addSend_10 rfl (by decide) (lv' := [some (aR 1), some (aI l1), some (aI l2), some (aI l3), some (aI ((l1 * 4) + (m_sends l1.toNatClampNeg)))]) rfl ?_
  refine aw_aload_n K d_Mo_addSend_12 rfl rfl ?_
  refine aw_getf K fd_Mo_34 d_Mo_addSend_13 rfl rfl rfl ?_
  refine aw_iload K d_Mo_addSend_16 rfl rfl ?_
  refine aw_iload_n K d_Mo_addSend_18 rfl rfl ?_
  refine aw_iast K d_Mo_addSend_19 rfl rfl h.1 (w' := [c0, oC 1 [aI m_nodes, aI m_states, aI m_kinds, aI m_rules, aR 2, aR 3, aR 4, aR 5, aR 6, aR 7, aR 8, aL m_badPairs], c2, c3, c4, iC 40 m_sends, iC 160 (upd m_sentKinds ((l1 * 4) + (m_sends l1.toNatClampNeg)).toNatClampNeg l2), iC 160 m_sentWhom, iC 40 m_growths, c9, c10, c11, c12, c13, c14, c15, c16, c17, c18, c19, c20, c21, c22, c23, c24, c25]) rfl ?_
  replace h := h.2
  refine aw_aload_n K d_Mo_addSend_20 rfl rfl ?_
  refine aw_getf K fd_Mo_37 d_Mo_addSend_21 rfl rfl rfl ?_
  refine aw_iload K d_Mo_addSend_24 rfl rfl ?_
  refine aw_iload_n K d_Mo_addSend_26 rfl rfl ?_
  refine aw_iast K d_Mo_addSend_27 rfl rfl h.1 (w' := [c0, oC 1 [aI m_nodes, aI m_states, aI m_kinds, aI m_rules, aR 2, aR 3, aR 4, aR 5, aR 6, aR 7, aR 8, aL m_badPairs], c2, c3, c4, iC 40 m_sends, iC 160 (upd m_sentKinds ((l1 * 4) + (m_sends l1.toNatClampNeg)).toNatClampNeg l2), iC 160 (upd m_sentWhom ((l1 * 4) + (m_sends l1.toNatClampNeg)).toNatClampNeg l3), iC 40 m_growths, c9, c10, c11, c12, c13, c14, c15, c16, c17, c18, c19, c20, c21, c22, c23, c24, c25]) rfl ?_
  replace h := h.2
  refine aw_aload_n K d_Mo_addSend_28 rfl rfl ?_
  refine aw_getf K fd_Mo_40 d_Mo_addSend_29 rfl rfl rfl ?_
  refine aw_iload_n K d_Mo_addSend_32 rfl rfl ?_
  refine aw_dup2 K d_Mo_addSend_33 rfl (fun _ e => nomatch e) (fun _ e => nomatch e) ?_
  refine aw_iald K d_Mo_addSend_34 rfl rfl h.1 ?_
  replace h := h.2
  refine aw_iload_n K d_Mo_addSend_35 rfl rfl ?_
  refine aw_if_ne K d_Mo_addSend_36 (t := 43) (by decide) rfl (fun q => ?_) (fun q => ?_)
  · replace h := h.1 q
    refine aw_aload_n K d_Mo_addSend_43 rfl rfl ?_
    refine aw_getf K fd_Mo_47 d_Mo_addSend_44 rfl rfl rfl ?_
    refine aw_iconst K d_Mo_addSend_47 rfl (v := 1) (by decide) ?_
    refine aw_isub K d_Mo_addSend_48 rfl ?_
    refine aw_less [2, 3, 4] rfl ?_
    exact h
  · replace h := h.2 q
    refine aw_iconst K d_Mo_addSend_39 rfl (v := 1) (by decide) ?_
    refine aw_goto K d_Mo_addSend_40 (n := 49) (by decide) ?_
    refine aw_less [2, 3, 4] rfl ?_
    exact h
set_option maxRecDepth 20000 in
theorem x_Mo_addSend_49 {X : am_X} {dd bc bs : Nat} (K : am_ok X b_Mo_addSend R_Mo 5 dd) {post : Option am_V → List am_C → Prop} (hr : am_rt X (some .int) post) {l1 s0 s1 s2 m_nodes m_states m_kinds m_rules : Int32} {m_badPairs : Int64} {m_sends m_sentKinds m_sentWhom m_growths : Nat → Int32} {c0 c2 c3 c4 c9 c10 c11 c12 c13 c14 c15 c16 c17 c18 c19 c20 c21 c22 c23 c24 c25 : am_C}
    (h : vp_in s2 40 ∧ vp_in l1 40 ∧ vp_in l1 40 ∧ post (some (aI ((m_sends l1.toNatClampNeg) + 1))) [c0, oC 1 [aI m_nodes, aI m_states, aI m_kinds, aI m_rules, aR 2, aR 3, aR 4, aR 5, aR 6, aR 7, aR 8, aL m_badPairs], c2, c3, c4, iC 40 (upd m_sends l1.toNatClampNeg ((m_sends l1.toNatClampNeg) + 1)), iC 160 m_sentKinds, iC 160 m_sentWhom, iC 40 (upd m_growths s2.toNatClampNeg (s1 + s0)), c9, c10, c11, c12, c13, c14, c15, c16, c17, c18, c19, c20, c21, c22, c23, c24, c25]) :
    AW X 49 [some (aR 1), some (aI l1), none, none, none] [aI s0, aI s1, aI s2, aR 8] [c0, oC 1 [aI m_nodes, aI m_states, aI m_kinds, aI m_rules, aR 2, aR 3, aR 4, aR 5, aR 6, aR 7, aR 8, aL m_badPairs], c2, c3, c4, iC 40 m_sends, iC 160 m_sentKinds, iC 160 m_sentWhom, iC 40 m_growths, c9, c10, c11, c12, c13, c14, c15, c16, c17, c18, c19, c20, c21, c22, c23, c24, c25] bc bs := by
  refine aw_iadd K d_Mo_addSend_49 rfl ?_
  refine aw_iast K d_Mo_addSend_50 rfl rfl h.1 (w' := [c0, oC 1 [aI m_nodes, aI m_states, aI m_kinds, aI m_rules, aR 2, aR 3, aR 4, aR 5, aR 6, aR 7, aR 8, aL m_badPairs], c2, c3, c4, iC 40 m_sends, iC 160 m_sentKinds, iC 160 m_sentWhom, iC 40 (upd m_growths s2.toNatClampNeg (s1 + s0)), c9, c10, c11, c12, c13, c14, c15, c16, c17, c18, c19, c20, c21, c22, c23, c24, c25]) rfl ?_
  replace h := h.2
  refine aw_aload_n K d_Mo_addSend_51 rfl rfl ?_
  refine aw_getf K fd_Mo_31 d_Mo_addSend_52 rfl rfl rfl ?_
  refine aw_iload_n K d_Mo_addSend_55 rfl rfl ?_
  refine aw_dup2 K d_Mo_addSend_56 rfl (fun _ e => nomatch e) (fun _ e => nomatch e) ?_
  refine aw_iald K d_Mo_addSend_57 rfl rfl h.1 ?_
  replace h := h.2
  refine aw_iconst K d_Mo_addSend_58 rfl (v := 1) (by decide) ?_
  refine aw_iadd K d_Mo_addSend_59 rfl ?_
  refine aw_dup_x2 K d_Mo_addSend_60 rfl (fun _ e => nomatch e) (fun _ e => nomatch e) (fun _ e => nomatch e) ?_
  refine aw_iast K d_Mo_addSend_61 rfl rfl h.1 (w' := [c0, oC 1 [aI m_nodes, aI m_states, aI m_kinds, aI m_rules, aR 2, aR 3, aR 4, aR 5, aR 6, aR 7, aR 8, aL m_badPairs], c2, c3, c4, iC 40 (upd m_sends l1.toNatClampNeg ((m_sends l1.toNatClampNeg) + 1)), iC 160 m_sentKinds, iC 160 m_sentWhom, iC 40 (upd m_growths s2.toNatClampNeg (s1 + s0)), c9, c10, c11, c12, c13, c14, c15, c16, c17, c18, c19, c20, c21, c22, c23, c24, c25]) rfl ?_
  replace h := h.2
  exact aw_iret K hr d_Mo_addSend_62 h
set_option maxRecDepth 20000 in
theorem x_Mo_isBadPair_0 {X : am_X} {dd bc bs : Nat} (K : am_ok X b_Mo_isBadPair R_Mo 3 dd) {post : Option am_V → List am_C → Prop} (hr : am_rt X (some .boolean) post) {l1 l2 m_nodes m_states m_kinds m_rules : Int32} {m_badPairs : Int64} {c0 c2 c3 c4 c5 c6 c7 c8 c9 c10 c11 c12 c13 c14 c15 c16 c17 c18 c19 c20 c21 c22 c23 c24 c25 : am_C}
    (h : ((lg_cmp (m_badPairs &&& (1 <<< (((8 * l1) + l2).toInt64 &&& 63))) 0) = 0 → post (some (aI 0)) [c0, oC 1 [aI m_nodes, aI m_states, aI m_kinds, aI m_rules, aR 2, aR 3, aR 4, aR 5, aR 6, aR 7, aR 8, aL m_badPairs], c2, c3, c4, c5, c6, c7, c8, c9, c10, c11, c12, c13, c14, c15, c16, c17, c18, c19, c20, c21, c22, c23, c24, c25]) ∧ (¬ (lg_cmp (m_badPairs &&& (1 <<< (((8 * l1) + l2).toInt64 &&& 63))) 0) = 0 → post (some (aI 1)) [c0, oC 1 [aI m_nodes, aI m_states, aI m_kinds, aI m_rules, aR 2, aR 3, aR 4, aR 5, aR 6, aR 7, aR 8, aL m_badPairs], c2, c3, c4, c5, c6, c7, c8, c9, c10, c11, c12, c13, c14, c15, c16, c17, c18, c19, c20, c21, c22, c23, c24, c25])) :
    AW X 0 [some (aR 1), some (aI l1), some (aI l2)] [] [c0, oC 1 [aI m_nodes, aI m_states, aI m_kinds, aI m_rules, aR 2, aR 3, aR 4, aR 5, aR 6, aR 7, aR 8, aL m_badPairs], c2, c3, c4, c5, c6, c7, c8, c9, c10, c11, c12, c13, c14, c15, c16, c17, c18, c19, c20, c21, c22, c23, c24, c25] bc bs := by
  refine aw_aload_n K d_Mo_isBadPair_0 rfl rfl ?_
  refine aw_getf K fd_Mo_43 d_Mo_isBadPair_1 rfl rfl rfl ?_
  refine aw_lconst K d_Mo_isBadPair_4 rfl (v := 1) (by decide) ?_
  refine aw_bipush K d_Mo_isBadPair_5 rfl (v := 8) (by decide) ?_
  refine aw_iload_n K d_Mo_isBadPair_7 rfl rfl ?_
  refine aw_imul K d_Mo_isBadPair_8 rfl ?_
  refine aw_iload_n K d_Mo_isBadPair_9 rfl rfl ?_
  refine aw_iadd K d_Mo_isBadPair_10 rfl ?_
  refine aw_lshl K d_Mo_isBadPair_11 rfl ?_
  refine aw_land K d_Mo_isBadPair_12 rfl ?_
  refine aw_lconst K d_Mo_isBadPair_13 rfl (v := 0) (by decide) ?_
  refine aw_lcmp K d_Mo_isBadPair_14 rfl ?_
  refine aw_if_eq K d_Mo_isBadPair_15 (t := 22) (by decide) rfl (fun q => ?_) (fun q => ?_)
  · replace h := h.1 q
    refine aw_iconst K d_Mo_isBadPair_22 rfl (v := 0) (by decide) ?_
    exact aw_zret K hr d_Mo_isBadPair_23 (Or.inl rfl) h
  · replace h := h.2 q
    refine aw_iconst K d_Mo_isBadPair_18 rfl (v := 1) (by decide) ?_
    refine aw_goto K d_Mo_isBadPair_19 (n := 23) (by decide) ?_
    exact aw_zret K hr d_Mo_isBadPair_23 (Or.inr rfl) h
set_option maxRecDepth 20000 in
theorem x_Mo_addBadPair_0 {X : am_X} {dd bc bs : Nat} (K : am_ok X b_Mo_addBadPair R_Mo 3 dd) {post : Option am_V → List am_C → Prop} (hr : am_rt X none post) {l1 l2 m_nodes m_states m_kinds m_rules : Int32} {m_badPairs : Int64} {c0 c2 c3 c4 c5 c6 c7 c8 c9 c10 c11 c12 c13 c14 c15 c16 c17 c18 c19 c20 c21 c22 c23 c24 c25 : am_C}
    (h : post none [c0, oC 1 [aI m_nodes, aI m_states, aI m_kinds, aI m_rules, aR 2, aR 3, aR 4, aR 5, aR 6, aR 7, aR 8, aL (m_badPairs ||| ((1 <<< (((8 * l1) + l2).toInt64 &&& 63)) ||| (1 <<< (((8 * l2) + l1).toInt64 &&& 63))))], c2, c3, c4, c5, c6, c7, c8, c9, c10, c11, c12, c13, c14, c15, c16, c17, c18, c19, c20, c21, c22, c23, c24, c25]) :
    AW X 0 [some (aR 1), some (aI l1), some (aI l2)] [] [c0, oC 1 [aI m_nodes, aI m_states, aI m_kinds, aI m_rules, aR 2, aR 3, aR 4, aR 5, aR 6, aR 7, aR 8, aL m_badPairs], c2, c3, c4, c5, c6, c7, c8, c9, c10, c11, c12, c13, c14, c15, c16, c17, c18, c19, c20, c21, c22, c23, c24, c25] bc bs := by
  refine aw_aload_n K d_Mo_addBadPair_0 rfl rfl ?_
  refine aw_dup K d_Mo_addBadPair_1 rfl (fun _ e => nomatch e) ?_
  refine aw_getf K fd_Mo_43 d_Mo_addBadPair_2 rfl rfl rfl ?_
  refine aw_lconst K d_Mo_addBadPair_5 rfl (v := 1) (by decide) ?_
  refine aw_bipush K d_Mo_addBadPair_6 rfl (v := 8) (by decide) ?_
  refine aw_iload_n K d_Mo_addBadPair_8 rfl rfl ?_
  refine aw_imul K d_Mo_addBadPair_9 rfl ?_
  refine aw_iload_n K d_Mo_addBadPair_10 rfl rfl ?_
  refine aw_iadd K d_Mo_addBadPair_11 rfl ?_
  refine aw_lshl K d_Mo_addBadPair_12 rfl ?_
  refine aw_lconst K d_Mo_addBadPair_13 rfl (v := 1) (by decide) ?_
  refine aw_bipush K d_Mo_addBadPair_14 rfl (v := 8) (by decide) ?_
  refine aw_iload_n K d_Mo_addBadPair_16 rfl rfl ?_
  refine aw_imul K d_Mo_addBadPair_17 rfl ?_
  refine aw_iload_n K d_Mo_addBadPair_18 rfl rfl ?_
  refine aw_iadd K d_Mo_addBadPair_19 rfl ?_
  refine aw_lshl K d_Mo_addBadPair_20 rfl ?_
  refine aw_lor K d_Mo_addBadPair_21 rfl ?_
  refine aw_lor K d_Mo_addBadPair_22 rfl ?_
  refine aw_putf K fp_Mo_43 d_Mo_addBadPair_23 rfl rfl (Nat.le_of_ble_eq_true rfl) (am_fit_l _) (w' := [c0, oC 1 [aI m_nodes, aI m_states, aI m_kinds, aI m_rules, aR 2, aR 3, aR 4, aR 5, aR 6, aR 7, aR 8, aL (m_badPairs ||| ((1 <<< (((8 * l1) + l2).toInt64 &&& 63)) ||| (1 <<< (((8 * l2) + l1).toInt64 &&& 63))))], c2, c3, c4, c5, c6, c7, c8, c9, c10, c11, c12, c13, c14, c15, c16, c17, c18, c19, c20, c21, c22, c23, c24, c25]) rfl ?_
  exact aw_vret K hr d_Mo_addBadPair_26 h
set_option maxRecDepth 20000 in
theorem x_Mo_isBadWhole_0 {X : am_X} {dd bc bs : Nat} (K : am_ok X b_Mo_isBadWhole R_Mo 4 dd) {post : Option am_V → List am_C → Prop} (hr : am_rt X (some .boolean) post) {m_nodes m_states m_kinds m_rules v_nodes v_numberings v_size v_symmetries : Int32} {m_badPairs v_form : Int64} {v_states : Nat → Int32} {c0 c2 c3 c4 c5 c6 c7 c8 c9 c10 c11 c12 c13 c14 c15 c16 c17 c18 c19 c20 c21 c24 c25 : am_C}
    (h : AW X 2 [some (aR 1), some (aR 22), some (aI 0), none] [] [c0, oC 1 [aI m_nodes, aI m_states, aI m_kinds, aI m_rules, aR 2, aR 3, aR 4, aR 5, aR 6, aR 7, aR 8, aL m_badPairs], c2, c3, c4, c5, c6, c7, c8, c9, c10, c11, c12, c13, c14, c15, c16, c17, c18, c19, c20, c21, oC 4 [aI v_nodes, aI v_numberings, aR 23, aR 24, aI v_size, aL v_form, aI v_symmetries, aR 25], iC 4 v_states, c24, c25] bc bs) :
    AW X 0 [some (aR 1), some (aR 22), none, none] [] [c0, oC 1 [aI m_nodes, aI m_states, aI m_kinds, aI m_rules, aR 2, aR 3, aR 4, aR 5, aR 6, aR 7, aR 8, aL m_badPairs], c2, c3, c4, c5, c6, c7, c8, c9, c10, c11, c12, c13, c14, c15, c16, c17, c18, c19, c20, c21, oC 4 [aI v_nodes, aI v_numberings, aR 23, aR 24, aI v_size, aL v_form, aI v_symmetries, aR 25], iC 4 v_states, c24, c25] bc bs := by
  refine aw_iconst K d_Mo_isBadWhole_0 rfl (v := 0) (by decide) ?_
  refine aw_istore_n K d_Mo_isBadWhole_1 rfl (by decide) (lv' := [some (aR 1), some (aR 22), some (aI 0), none]) rfl ?_
  exact h
set_option maxRecDepth 20000 in
theorem x_Mo_isBadWhole_2 {X : am_X} {dd bc bs : Nat} (K : am_ok X b_Mo_isBadWhole R_Mo 4 dd) {post : Option am_V → List am_C → Prop} (hr : am_rt X (some .boolean) post) {l2 m_nodes m_states m_kinds m_rules v_nodes v_numberings v_size v_symmetries : Int32} {m_badPairs v_form : Int64} {v_states : Nat → Int32} {c0 c2 c3 c4 c5 c6 c7 c8 c9 c10 c11 c12 c13 c14 c15 c16 c17 c18 c19 c20 c21 c24 c25 : am_C}
    (h : (m_nodes ≤ l2 → post (some (aI 0)) [c0, oC 1 [aI m_nodes, aI m_states, aI m_kinds, aI m_rules, aR 2, aR 3, aR 4, aR 5, aR 6, aR 7, aR 8, aL m_badPairs], c2, c3, c4, c5, c6, c7, c8, c9, c10, c11, c12, c13, c14, c15, c16, c17, c18, c19, c20, c21, oC 4 [aI v_nodes, aI v_numberings, aR 23, aR 24, aI v_size, aL v_form, aI v_symmetries, aR 25], iC 4 v_states, c24, c25]) ∧ (¬ m_nodes ≤ l2 → AW X 14 [some (aR 1), some (aR 22), some (aI l2), some (aI (l2 + 1))] [] [c0, oC 1 [aI m_nodes, aI m_states, aI m_kinds, aI m_rules, aR 2, aR 3, aR 4, aR 5, aR 6, aR 7, aR 8, aL m_badPairs], c2, c3, c4, c5, c6, c7, c8, c9, c10, c11, c12, c13, c14, c15, c16, c17, c18, c19, c20, c21, oC 4 [aI v_nodes, aI v_numberings, aR 23, aR 24, aI v_size, aL v_form, aI v_symmetries, aR 25], iC 4 v_states, c24, c25] bc bs)) :
    AW X 2 [some (aR 1), some (aR 22), some (aI l2), none] [] [c0, oC 1 [aI m_nodes, aI m_states, aI m_kinds, aI m_rules, aR 2, aR 3, aR 4, aR 5, aR 6, aR 7, aR 8, aL m_badPairs], c2, c3, c4, c5, c6, c7, c8, c9, c10, c11, c12, c13, c14, c15, c16, c17, c18, c19, c20, c21, oC 4 [aI v_nodes, aI v_numberings, aR 23, aR 24, aI v_size, aL v_form, aI v_symmetries, aR 25], iC 4 v_states, c24, c25] bc bs := by
  refine aw_iload_n K d_Mo_isBadWhole_2 rfl rfl ?_
  refine aw_aload_n K d_Mo_isBadWhole_3 rfl rfl ?_
  refine aw_getf K fd_Mo_47 d_Mo_isBadWhole_4 rfl rfl rfl ?_
  refine aw_icmp_ge K d_Mo_isBadWhole_7 (t := 55) (by decide) rfl (fun q => ?_) (fun q => ?_)
  · replace h := h.1 q
    refine aw_iconst K d_Mo_isBadWhole_55 rfl (v := 0) (by decide) ?_
    exact aw_zret K hr d_Mo_isBadWhole_56 (Or.inl rfl) h
  · replace h := h.2 q
    refine aw_iload_n K d_Mo_isBadWhole_10 rfl rfl ?_
    refine aw_iconst K d_Mo_isBadWhole_11 rfl (v := 1) (by decide) ?_
    refine aw_iadd K d_Mo_isBadWhole_12 rfl ?_
    refine aw_istore_n K d_Mo_isBadWhole_13 rfl (by decide) (lv' := [some (aR 1), some (aR 22), some (aI l2), some (aI (l2 + 1))]) rfl ?_
    exact h
set_option maxRecDepth 20000 in
theorem x_Mo_isBadWhole_14 {X : am_X} {dd bc bs : Nat} (K : am_ok X b_Mo_isBadWhole R_Mo 4 dd) {post : Option am_V → List am_C → Prop} (hr : am_rt X (some .boolean) post) {sp_Mo_isBadPair : am_S} {dd_Mo_isBadPair : Nat} (c_Mo_isBadPair : Con y_Mo_isBadPair b_Mo_isBadPair 3 (some .boolean) dd_Mo_isBadPair 0 0 false sp_Mo_isBadPair) (hdd_Mo_isBadPair : dd_Mo_isBadPair + 1 ≤ dd) {l2 l3 m_nodes m_states m_kinds m_rules v_nodes v_numberings v_size v_symmetries : Int32} {m_badPairs v_form : Int64} {v_states : Nat → Int32} {c0 c2 c3 c4 c5 c6 c7 c8 c9 c10 c11 c12 c13 c14 c15 c16 c17 c18 c19 c20 c21 c24 c25 : am_C}
    (h : (m_nodes ≤ l3 → AW X 2 [some (aR 1), some (aR 22), some (aI (l2 + 1)), none] [] [c0, oC 1 [aI m_nodes, aI m_states, aI m_kinds, aI m_rules, aR 2, aR 3, aR 4, aR 5, aR 6, aR 7, aR 8, aL m_badPairs], c2, c3, c4, c5, c6, c7, c8, c9, c10, c11, c12, c13, c14, c15, c16, c17, c18, c19, c20, c21, oC 4 [aI v_nodes, aI v_numberings, aR 23, aR 24, aI v_size, aL v_form, aI v_symmetries, aR 25], iC 4 v_states, c24, c25] bc bs) ∧ (¬ m_nodes ≤ l3 → vp_in l2 4 ∧ vp_in l3 4 ∧ sp_Mo_isBadPair [aR 1, aI (v_states l2.toNatClampNeg), aI (v_states l3.toNatClampNeg)] [c0, oC 1 [aI m_nodes, aI m_states, aI m_kinds, aI m_rules, aR 2, aR 3, aR 4, aR 5, aR 6, aR 7, aR 8, aL m_badPairs], c2, c3, c4, c5, c6, c7, c8, c9, c10, c11, c12, c13, c14, c15, c16, c17, c18, c19, c20, c21, oC 4 [aI v_nodes, aI v_numberings, aR 23, aR 24, aI v_size, aL v_form, aI v_symmetries, aR 25], iC 4 v_states, c24, c25] (fun rv w' => AW X 38 [some (aR 1), some (aR 22), some (aI l2), some (aI l3)] (rv.toList ++ []) w' bc bs))) :
    AW X 14 [some (aR 1), some (aR 22), some (aI l2), some (aI l3)] [] [c0, oC 1 [aI m_nodes, aI m_states, aI m_kinds, aI m_rules, aR 2, aR 3, aR 4, aR 5, aR 6, aR 7, aR 8, aL m_badPairs], c2, c3, c4, c5, c6, c7, c8, c9, c10, c11, c12, c13, c14, c15, c16, c17, c18, c19, c20, c21, oC 4 [aI v_nodes, aI v_numberings, aR 23, aR 24, aI v_size, aL v_form, aI v_symmetries, aR 25], iC 4 v_states, c24, c25] bc bs := by
  refine aw_iload_n K d_Mo_isBadWhole_14 rfl rfl ?_
  refine aw_aload_n K d_Mo_isBadWhole_15 rfl rfl ?_
  refine aw_getf K fd_Mo_47 d_Mo_isBadWhole_16 rfl rfl rfl ?_
  refine aw_icmp_ge K d_Mo_isBadWhole_19 (t := 49) (by decide) rfl (fun q => ?_) (fun q => ?_)
  · replace h := h.1 q
    refine aw_iinc K d_Mo_isBadWhole_49 rfl rfl (v := l2 + 1) rfl (by decide) (lv' := [some (aR 1), some (aR 22), some (aI (l2 + 1)), some (aI l3)]) rfl ?_
    refine aw_goto K d_Mo_isBadWhole_52 (n := 2) (by decide) ?_
    refine aw_less [3] rfl ?_
    exact h
  · replace h := h.2 q
    refine aw_aload_n K d_Mo_isBadWhole_22 rfl rfl ?_
    refine aw_aload_n K d_Mo_isBadWhole_23 rfl rfl ?_
    refine aw_getf K fd_Mo_50 d_Mo_isBadWhole_24 rfl rfl rfl ?_
    refine aw_iload_n K d_Mo_isBadWhole_27 rfl rfl ?_
    refine aw_iald K d_Mo_isBadWhole_28 rfl rfl h.1 ?_
    replace h := h.2
    refine aw_aload_n K d_Mo_isBadWhole_29 rfl rfl ?_
    refine aw_getf K fd_Mo_50 d_Mo_isBadWhole_30 rfl rfl rfl ?_
    refine aw_iload_n K d_Mo_isBadWhole_33 rfl rfl ?_
    refine aw_iald K d_Mo_isBadWhole_34 rfl rfl h.1 ?_
    replace h := h.2
    exact aw_callV K c_Mo_isBadPair cb_Mo_54 ci_Mo_isBadPair cs_Mo_isBadPair hdd_Mo_isBadPair (k := 1) rfl rfl d_Mo_isBadWhole_35 rfl (av := [aI (v_states l2.toNatClampNeg), aI (v_states l3.toNatClampNeg)]) rfl (Nat.le_of_ble_eq_true rfl) h (fun rv w' hF => hF)
set_option maxRecDepth 20000 in
theorem x_Mo_isBadWhole_38 {X : am_X} {dd bc bs : Nat} (K : am_ok X b_Mo_isBadWhole R_Mo 4 dd) {post : Option am_V → List am_C → Prop} (hr : am_rt X (some .boolean) post) {l2 l3 s0 m_nodes m_states m_kinds m_rules v_nodes v_numberings v_size v_symmetries : Int32} {m_badPairs v_form : Int64} {v_states : Nat → Int32} {c0 c2 c3 c4 c5 c6 c7 c8 c9 c10 c11 c12 c13 c14 c15 c16 c17 c18 c19 c20 c21 c24 c25 : am_C}
    (h : (s0 = 0 → AW X 14 [some (aR 1), some (aR 22), some (aI l2), some (aI (l3 + 1))] [] [c0, oC 1 [aI m_nodes, aI m_states, aI m_kinds, aI m_rules, aR 2, aR 3, aR 4, aR 5, aR 6, aR 7, aR 8, aL m_badPairs], c2, c3, c4, c5, c6, c7, c8, c9, c10, c11, c12, c13, c14, c15, c16, c17, c18, c19, c20, c21, oC 4 [aI v_nodes, aI v_numberings, aR 23, aR 24, aI v_size, aL v_form, aI v_symmetries, aR 25], iC 4 v_states, c24, c25] bc bs) ∧ (¬ s0 = 0 → post (some (aI 1)) [c0, oC 1 [aI m_nodes, aI m_states, aI m_kinds, aI m_rules, aR 2, aR 3, aR 4, aR 5, aR 6, aR 7, aR 8, aL m_badPairs], c2, c3, c4, c5, c6, c7, c8, c9, c10, c11, c12, c13, c14, c15, c16, c17, c18, c19, c20, c21, oC 4 [aI v_nodes, aI v_numberings, aR 23, aR 24, aI v_size, aL v_form, aI v_symmetries, aR 25], iC 4 v_states, c24, c25])) :
    AW X 38 [some (aR 1), some (aR 22), some (aI l2), some (aI l3)] [aI s0] [c0, oC 1 [aI m_nodes, aI m_states, aI m_kinds, aI m_rules, aR 2, aR 3, aR 4, aR 5, aR 6, aR 7, aR 8, aL m_badPairs], c2, c3, c4, c5, c6, c7, c8, c9, c10, c11, c12, c13, c14, c15, c16, c17, c18, c19, c20, c21, oC 4 [aI v_nodes, aI v_numberings, aR 23, aR 24, aI v_size, aL v_form, aI v_symmetries, aR 25], iC 4 v_states, c24, c25] bc bs := by
  refine aw_if_eq K d_Mo_isBadWhole_38 (t := 43) (by decide) rfl (fun q => ?_) (fun q => ?_)
  · replace h := h.1 q
    refine aw_iinc K d_Mo_isBadWhole_43 rfl rfl (v := l3 + 1) rfl (by decide) (lv' := [some (aR 1), some (aR 22), some (aI l2), some (aI (l3 + 1))]) rfl ?_
    refine aw_goto K d_Mo_isBadWhole_46 (n := 14) (by decide) ?_
    exact h
  · replace h := h.2 q
    refine aw_iconst K d_Mo_isBadWhole_41 rfl (v := 1) (by decide) ?_
    exact aw_zret K hr d_Mo_isBadWhole_42 (Or.inr rfl) h
set_option maxRecDepth 20000 in
theorem x_St_slotsFor_0 {X : am_X} {dd bc bs : Nat} (K : am_ok X b_St_slotsFor R_St 2 dd) {post : Option am_V → List am_C → Prop} (hr : am_rt X (some .int) post) {l0 : Int32} {c0 c1 c2 c3 c4 c5 c6 c7 c8 c9 c10 c11 c12 c13 c14 c15 c16 c17 c18 c19 c20 c21 c22 c23 c24 c25 : am_C}
    (h : AW X 2 [some (aI l0), some (aI 2)] [] [c0, c1, c2, c3, c4, c5, c6, c7, c8, c9, c10, c11, c12, c13, c14, c15, c16, c17, c18, c19, c20, c21, c22, c23, c24, c25] bc bs) :
    AW X 0 [some (aI l0), none] [] [c0, c1, c2, c3, c4, c5, c6, c7, c8, c9, c10, c11, c12, c13, c14, c15, c16, c17, c18, c19, c20, c21, c22, c23, c24, c25] bc bs := by
  refine aw_iconst K d_St_slotsFor_0 rfl (v := 2) (by decide) ?_
  refine aw_istore_n K d_St_slotsFor_1 rfl (by decide) (lv' := [some (aI l0), some (aI 2)]) rfl ?_
  exact h
set_option maxRecDepth 20000 in
theorem x_St_slotsFor_2 {X : am_X} {dd bc bs : Nat} (K : am_ok X b_St_slotsFor R_St 2 dd) {post : Option am_V → List am_C → Prop} (hr : am_rt X (some .int) post) {l0 l1 : Int32} {c0 c1 c2 c3 c4 c5 c6 c7 c8 c9 c10 c11 c12 c13 c14 c15 c16 c17 c18 c19 c20 c21 c22 c23 c24 c25 : am_C}
    (h : ((2 * l0) ≤ l1 → post (some (aI l1)) [c0, c1, c2, c3, c4, c5, c6, c7, c8, c9, c10, c11, c12, c13, c14, c15, c16, c17, c18, c19, c20, c21, c22, c23, c24, c25]) ∧ (¬ (2 * l0) ≤ l1 → AW X 2 [some (aI l0), some (aI (l1 * 2))] [] [c0, c1, c2, c3, c4, c5, c6, c7, c8, c9, c10, c11, c12, c13, c14, c15, c16, c17, c18, c19, c20, c21, c22, c23, c24, c25] bc bs)) :
    AW X 2 [some (aI l0), some (aI l1)] [] [c0, c1, c2, c3, c4, c5, c6, c7, c8, c9, c10, c11, c12, c13, c14, c15, c16, c17, c18, c19, c20, c21, c22, c23, c24, c25] bc bs := by
  refine aw_iload_n K d_St_slotsFor_2 rfl rfl ?_
  refine aw_iconst K d_St_slotsFor_3 rfl (v := 2) (by decide) ?_
  refine aw_iload_n K d_St_slotsFor_4 rfl rfl ?_
  refine aw_imul K d_St_slotsFor_5 rfl ?_
  refine aw_icmp_ge K d_St_slotsFor_6 (t := 16) (by decide) rfl (fun q => ?_) (fun q => ?_)
  · replace h := h.1 q
    refine aw_iload_n K d_St_slotsFor_16 rfl rfl ?_
    exact aw_iret K hr d_St_slotsFor_17 h
  · replace h := h.2 q
    refine aw_iload_n K d_St_slotsFor_9 rfl rfl ?_
    refine aw_iconst K d_St_slotsFor_10 rfl (v := 2) (by decide) ?_
    refine aw_imul K d_St_slotsFor_11 rfl ?_
    refine aw_istore_n K d_St_slotsFor_12 rfl (by decide) (lv' := [some (aI l0), some (aI (l1 * 2))]) rfl ?_
    refine aw_goto K d_St_slotsFor_13 (n := 2) (by decide) ?_
    exact h
set_option maxRecDepth 20000 in
theorem x_St_has_0 {X : am_X} {dd bc bs : Nat} (K : am_ok X b_St_has R_St 2 dd) {post : Option am_V → List am_C → Prop} (hr : am_rt X (some .boolean) post) {l1 s_size : Int32} {c0 c1 c2 c3 c4 c5 c6 c7 c8 c10 c11 c12 c13 c14 c15 c16 c17 c18 c19 c20 c21 c22 c23 c24 c25 : am_C}
    (h : (l1 < 0 → post (some (aI 0)) [c0, c1, c2, c3, c4, c5, c6, c7, c8, oC 2 [aI s_size, aR 10, aR 11, aR 12, aR 13, aR 14, aR 15, aR 16], c10, c11, c12, c13, c14, c15, c16, c17, c18, c19, c20, c21, c22, c23, c24, c25]) ∧ (¬ l1 < 0 → (s_size ≤ l1 → post (some (aI 0)) [c0, c1, c2, c3, c4, c5, c6, c7, c8, oC 2 [aI s_size, aR 10, aR 11, aR 12, aR 13, aR 14, aR 15, aR 16], c10, c11, c12, c13, c14, c15, c16, c17, c18, c19, c20, c21, c22, c23, c24, c25]) ∧ (¬ s_size ≤ l1 → post (some (aI 1)) [c0, c1, c2, c3, c4, c5, c6, c7, c8, oC 2 [aI s_size, aR 10, aR 11, aR 12, aR 13, aR 14, aR 15, aR 16], c10, c11, c12, c13, c14, c15, c16, c17, c18, c19, c20, c21, c22, c23, c24, c25]))) :
    AW X 0 [some (aR 9), some (aI l1)] [] [c0, c1, c2, c3, c4, c5, c6, c7, c8, oC 2 [aI s_size, aR 10, aR 11, aR 12, aR 13, aR 14, aR 15, aR 16], c10, c11, c12, c13, c14, c15, c16, c17, c18, c19, c20, c21, c22, c23, c24, c25] bc bs := by
  refine aw_iload_n K d_St_has_0 rfl rfl ?_
  refine aw_if_lt K d_St_has_1 (t := 16) (by decide) rfl (fun q => ?_) (fun q => ?_)
  · replace h := h.1 q
    refine aw_iconst K d_St_has_16 rfl (v := 0) (by decide) ?_
    exact aw_zret K hr d_St_has_17 (Or.inl rfl) h
  · replace h := h.2 q
    refine aw_iload_n K d_St_has_4 rfl rfl ?_
    refine aw_aload_n K d_St_has_5 rfl rfl ?_
    refine aw_getf K fd_St_9 d_St_has_6 rfl rfl rfl ?_
    refine aw_icmp_ge K d_St_has_9 (t := 16) (by decide) rfl (fun q => ?_) (fun q => ?_)
    · replace h := h.1 q
      refine aw_iconst K d_St_has_16 rfl (v := 0) (by decide) ?_
      exact aw_zret K hr d_St_has_17 (Or.inl rfl) h
    · replace h := h.2 q
      refine aw_iconst K d_St_has_12 rfl (v := 1) (by decide) ?_
      refine aw_goto K d_St_has_13 (n := 17) (by decide) ?_
      exact aw_zret K hr d_St_has_17 (Or.inr rfl) h
set_option maxRecDepth 20000 in
theorem x_St_isFull_0 {X : am_X} {dd bc bs : Nat} (K : am_ok X b_St_isFull R_St 1 dd) {post : Option am_V → List am_C → Prop} (hr : am_rt X (some .boolean) post) {s_size : Int32} {s_forms : Nat → Int64} {room : Nat} {c0 c1 c2 c3 c4 c5 c6 c7 c8 c11 c12 c13 c14 c15 c16 c17 c18 c19 c20 c21 c22 c23 c24 c25 : am_C}
    (h : (s_size < (nI room) → post (some (aI 0)) [c0, c1, c2, c3, c4, c5, c6, c7, c8, oC 2 [aI s_size, aR 10, aR 11, aR 12, aR 13, aR 14, aR 15, aR 16], jC room s_forms, c11, c12, c13, c14, c15, c16, c17, c18, c19, c20, c21, c22, c23, c24, c25]) ∧ (¬ s_size < (nI room) → post (some (aI 1)) [c0, c1, c2, c3, c4, c5, c6, c7, c8, oC 2 [aI s_size, aR 10, aR 11, aR 12, aR 13, aR 14, aR 15, aR 16], jC room s_forms, c11, c12, c13, c14, c15, c16, c17, c18, c19, c20, c21, c22, c23, c24, c25])) :
    AW X 0 [some (aR 9)] [] [c0, c1, c2, c3, c4, c5, c6, c7, c8, oC 2 [aI s_size, aR 10, aR 11, aR 12, aR 13, aR 14, aR 15, aR 16], jC room s_forms, c11, c12, c13, c14, c15, c16, c17, c18, c19, c20, c21, c22, c23, c24, c25] bc bs := by
  refine aw_aload_n K d_St_isFull_0 rfl rfl ?_
  refine aw_getf K fd_St_9 d_St_isFull_1 rfl rfl rfl ?_
  refine aw_aload_n K d_St_isFull_4 rfl rfl ?_
  refine aw_getf K fd_St_15 d_St_isFull_5 rfl rfl rfl ?_
  refine aw_llen K d_St_isFull_8 rfl rfl ?_
  refine aw_icmp_lt K d_St_isFull_9 (t := 16) (by decide) rfl (fun q => ?_) (fun q => ?_)
  · replace h := h.1 q
    refine aw_iconst K d_St_isFull_16 rfl (v := 0) (by decide) ?_
    exact aw_zret K hr d_St_isFull_17 (Or.inl rfl) h
  · replace h := h.2 q
    refine aw_iconst K d_St_isFull_12 rfl (v := 1) (by decide) ?_
    refine aw_goto K d_St_isFull_13 (n := 17) (by decide) ?_
    exact aw_zret K hr d_St_isFull_17 (Or.inr rfl) h
set_option maxRecDepth 20000 in
theorem x_St_clear_0 {X : am_X} {dd bc bs : Nat} (K : am_ok X b_St_clear R_St 1 dd) {post : Option am_V → List am_C → Prop} (hr : am_rt X none post) {sp_Ar_fill : am_S} {dd_Ar_fill : Nat} (c_Ar_fill : Con y_Ar_fill b_Ar_fill 4 none dd_Ar_fill 0 0 false sp_Ar_fill) (hdd_Ar_fill : dd_Ar_fill + 1 ≤ dd) {s_size : Int32} {c0 c1 c2 c3 c4 c5 c6 c7 c8 c10 c11 c12 c13 c14 c15 c16 c17 c18 c19 c20 c21 c22 c23 c24 c25 : am_C}
    (h : (s_size ≤ 0 → post none [c0, c1, c2, c3, c4, c5, c6, c7, c8, oC 2 [aI s_size, aR 10, aR 11, aR 12, aR 13, aR 14, aR 15, aR 16], c10, c11, c12, c13, c14, c15, c16, c17, c18, c19, c20, c21, c22, c23, c24, c25]) ∧ (¬ s_size ≤ 0 → sp_Ar_fill [aR 16, aI 0] [c0, c1, c2, c3, c4, c5, c6, c7, c8, oC 2 [aI s_size, aR 10, aR 11, aR 12, aR 13, aR 14, aR 15, aR 16], c10, c11, c12, c13, c14, c15, c16, c17, c18, c19, c20, c21, c22, c23, c24, c25] (fun rv w' => AW X 15 [some (aR 9)] (rv.toList ++ []) w' bc bs))) :
    AW X 0 [some (aR 9)] [] [c0, c1, c2, c3, c4, c5, c6, c7, c8, oC 2 [aI s_size, aR 10, aR 11, aR 12, aR 13, aR 14, aR 15, aR 16], c10, c11, c12, c13, c14, c15, c16, c17, c18, c19, c20, c21, c22, c23, c24, c25] bc bs := by
  refine aw_aload_n K d_St_clear_0 rfl rfl ?_
  refine aw_getf K fd_St_9 d_St_clear_1 rfl rfl rfl ?_
  refine aw_if_le K d_St_clear_4 (t := 20) (by decide) rfl (fun q => ?_) (fun q => ?_)
  · replace h := h.1 q
    exact aw_vret K hr d_St_clear_20 h
  · replace h := h.2 q
    refine aw_aload_n K d_St_clear_7 rfl rfl ?_
    refine aw_getf K fd_St_39 d_St_clear_8 rfl rfl rfl ?_
    refine aw_iconst K d_St_clear_11 rfl (v := 0) (by decide) ?_
    exact aw_callS K c_Ar_fill cb_St_42 ct_Ar_fill hdd_Ar_fill d_St_clear_12 rfl (av := [aR 16, aI 0]) rfl (Nat.le_of_ble_eq_true rfl) h (fun rv w' hF => hF)
set_option maxRecDepth 20000 in
theorem x_St_clear_15 {X : am_X} {dd bc bs : Nat} (K : am_ok X b_St_clear R_St 1 dd) {post : Option am_V → List am_C → Prop} (hr : am_rt X none post) {s_size : Int32} {c0 c1 c2 c3 c4 c5 c6 c7 c8 c10 c11 c12 c13 c14 c15 c16 c17 c18 c19 c20 c21 c22 c23 c24 c25 : am_C}
    (h : post none [c0, c1, c2, c3, c4, c5, c6, c7, c8, oC 2 [aI 0, aR 10, aR 11, aR 12, aR 13, aR 14, aR 15, aR 16], c10, c11, c12, c13, c14, c15, c16, c17, c18, c19, c20, c21, c22, c23, c24, c25]) :
    AW X 15 [some (aR 9)] [] [c0, c1, c2, c3, c4, c5, c6, c7, c8, oC 2 [aI s_size, aR 10, aR 11, aR 12, aR 13, aR 14, aR 15, aR 16], c10, c11, c12, c13, c14, c15, c16, c17, c18, c19, c20, c21, c22, c23, c24, c25] bc bs := by
  refine aw_aload_n K d_St_clear_15 rfl rfl ?_
  refine aw_iconst K d_St_clear_16 rfl (v := 0) (by decide) ?_
  refine aw_putf K fp_St_9 d_St_clear_17 rfl rfl (Nat.le_of_ble_eq_true rfl) (am_fit_i _) (w' := [c0, c1, c2, c3, c4, c5, c6, c7, c8, oC 2 [aI 0, aR 10, aR 11, aR 12, aR 13, aR 14, aR 15, aR 16], c10, c11, c12, c13, c14, c15, c16, c17, c18, c19, c20, c21, c22, c23, c24, c25]) rfl ?_
  exact aw_vret K hr d_St_clear_20 h
set_option maxRecDepth 20000 in
theorem x_St_slotOf_0 {X : am_X} {dd bc bs : Nat} (K : am_ok X b_St_slotOf R_St 6 dd) {post : Option am_V → List am_C → Prop} (hr : am_rt X (some .int) post) {s_size : Int32} {l1 : Int64} {s_slots : Nat → Int32} {s_forms : Nat → Int64} {room nsl : Nat} {c0 c1 c2 c3 c4 c5 c6 c7 c8 c11 c12 c13 c14 c15 c17 c18 c19 c20 c21 c22 c23 c24 c25 : am_C}
    (h : AW X 24 [some (aR 9), some (aL l1), none, some (aI ((nI nsl) - 1)), some (aI (((((l1 * ((-7046029254386353131))).toUInt64 >>> ((40 : Int32).toInt64.toUInt64 &&& Int64.toUInt64 63)).toInt64).toInt32) &&& ((nI nsl) - 1))), some (aI 0)] [] [c0, c1, c2, c3, c4, c5, c6, c7, c8, oC 2 [aI s_size, aR 10, aR 11, aR 12, aR 13, aR 14, aR 15, aR 16], jC room s_forms, c11, c12, c13, c14, c15, iC nsl s_slots, c17, c18, c19, c20, c21, c22, c23, c24, c25] bc bs) :
    AW X 0 [some (aR 9), some (aL l1), none, none, none, none] [] [c0, c1, c2, c3, c4, c5, c6, c7, c8, oC 2 [aI s_size, aR 10, aR 11, aR 12, aR 13, aR 14, aR 15, aR 16], jC room s_forms, c11, c12, c13, c14, c15, iC nsl s_slots, c17, c18, c19, c20, c21, c22, c23, c24, c25] bc bs := by
  refine aw_aload_n K d_St_slotOf_0 rfl rfl ?_
  refine aw_getf K fd_St_39 d_St_slotOf_1 rfl rfl rfl ?_
  refine aw_ilen K d_St_slotOf_4 rfl rfl ?_
  refine aw_iconst K d_St_slotOf_5 rfl (v := 1) (by decide) ?_
  refine aw_isub K d_St_slotOf_6 rfl ?_
  refine aw_istore_n K d_St_slotOf_7 rfl (by decide) (lv' := [some (aR 9), some (aL l1), none, some (aI ((nI nsl) - 1)), none, none]) rfl ?_
  refine aw_lload_n K d_St_slotOf_8 rfl rfl ?_
  refine aw_ldc2 K d_St_slotOf_9 rfl (v := (-7046029254386353131)) wd_St_48 ?_
  refine aw_lmul K d_St_slotOf_12 rfl ?_
  refine aw_bipush K d_St_slotOf_13 rfl (v := 40) (by decide) ?_
  refine aw_lushr K d_St_slotOf_15 rfl ?_
  refine aw_l2i K d_St_slotOf_16 rfl ?_
  refine aw_iload_n K d_St_slotOf_17 rfl rfl ?_
  refine aw_iand K d_St_slotOf_18 rfl ?_
  refine aw_istore K d_St_slotOf_19 rfl (by decide) (lv' := [some (aR 9), some (aL l1), none, some (aI ((nI nsl) - 1)), some (aI (((((l1 * ((-7046029254386353131))).toUInt64 >>> ((40 : Int32).toInt64.toUInt64 &&& Int64.toUInt64 63)).toInt64).toInt32) &&& ((nI nsl) - 1))), none]) rfl ?_
  refine aw_iconst K d_St_slotOf_21 rfl (v := 0) (by decide) ?_
  refine aw_istore K d_St_slotOf_22 rfl (by decide) (lv' := [some (aR 9), some (aL l1), none, some (aI ((nI nsl) - 1)), some (aI (((((l1 * ((-7046029254386353131))).toUInt64 >>> ((40 : Int32).toInt64.toUInt64 &&& Int64.toUInt64 63)).toInt64).toInt32) &&& ((nI nsl) - 1))), some (aI 0)]) rfl ?_
  exact h
set_option maxRecDepth 20000 in
theorem x_St_slotOf_24 {X : am_X} {dd bc bs : Nat} (K : am_ok X b_St_slotOf R_St 6 dd) {post : Option am_V → List am_C → Prop} (hr : am_rt X (some .int) post) {l3 l4 l5 s_size : Int32} {l1 : Int64} {s_slots : Nat → Int32} {s_forms : Nat → Int64} {room nsl : Nat} {c0 c1 c2 c3 c4 c5 c6 c7 c8 c11 c12 c13 c14 c15 c17 c18 c19 c20 c21 c22 c23 c24 c25 : am_C}
    (h : (l3 ≤ l5 → post (some (aI l4)) [c0, c1, c2, c3, c4, c5, c6, c7, c8, oC 2 [aI s_size, aR 10, aR 11, aR 12, aR 13, aR 14, aR 15, aR 16], jC room s_forms, c11, c12, c13, c14, c15, iC nsl s_slots, c17, c18, c19, c20, c21, c22, c23, c24, c25]) ∧ (¬ l3 ≤ l5 → vp_in l4 nsl ∧ ((s_slots l4.toNatClampNeg) = 0 → post (some (aI l4)) [c0, c1, c2, c3, c4, c5, c6, c7, c8, oC 2 [aI s_size, aR 10, aR 11, aR 12, aR 13, aR 14, aR 15, aR 16], jC room s_forms, c11, c12, c13, c14, c15, iC nsl s_slots, c17, c18, c19, c20, c21, c22, c23, c24, c25]) ∧ (¬ (s_slots l4.toNatClampNeg) = 0 → vp_in l4 nsl ∧ vp_in ((s_slots l4.toNatClampNeg) - 1) room ∧ ((lg_cmp (s_forms ((s_slots l4.toNatClampNeg) - 1).toNatClampNeg) l1) = 0 → post (some (aI l4)) [c0, c1, c2, c3, c4, c5, c6, c7, c8, oC 2 [aI s_size, aR 10, aR 11, aR 12, aR 13, aR 14, aR 15, aR 16], jC room s_forms, c11, c12, c13, c14, c15, iC nsl s_slots, c17, c18, c19, c20, c21, c22, c23, c24, c25]) ∧ (¬ (lg_cmp (s_forms ((s_slots l4.toNatClampNeg) - 1).toNatClampNeg) l1) = 0 → AW X 24 [some (aR 9), some (aL l1), none, some (aI l3), some (aI ((l4 + 1) &&& l3)), some (aI (l5 + 1))] [] [c0, c1, c2, c3, c4, c5, c6, c7, c8, oC 2 [aI s_size, aR 10, aR 11, aR 12, aR 13, aR 14, aR 15, aR 16], jC room s_forms, c11, c12, c13, c14, c15, iC nsl s_slots, c17, c18, c19, c20, c21, c22, c23, c24, c25] bc bs)))) :
    AW X 24 [some (aR 9), some (aL l1), none, some (aI l3), some (aI l4), some (aI l5)] [] [c0, c1, c2, c3, c4, c5, c6, c7, c8, oC 2 [aI s_size, aR 10, aR 11, aR 12, aR 13, aR 14, aR 15, aR 16], jC room s_forms, c11, c12, c13, c14, c15, iC nsl s_slots, c17, c18, c19, c20, c21, c22, c23, c24, c25] bc bs := by
  refine aw_iload K d_St_slotOf_24 rfl rfl ?_
  refine aw_iload_n K d_St_slotOf_26 rfl rfl ?_
  refine aw_icmp_ge K d_St_slotOf_27 (t := 73) (by decide) rfl (fun q => ?_) (fun q => ?_)
  · replace h := h.1 q
    refine aw_iload K d_St_slotOf_73 rfl rfl ?_
    exact aw_iret K hr d_St_slotOf_75 h
  · replace h := h.2 q
    refine aw_aload_n K d_St_slotOf_30 rfl rfl ?_
    refine aw_getf K fd_St_39 d_St_slotOf_31 rfl rfl rfl ?_
    refine aw_iload K d_St_slotOf_34 rfl rfl ?_
    refine aw_iald K d_St_slotOf_36 rfl rfl h.1 ?_
    replace h := h.2
    refine aw_if_eq K d_St_slotOf_37 (t := 73) (by decide) rfl (fun q => ?_) (fun q => ?_)
    · replace h := h.1 q
      refine aw_iload K d_St_slotOf_73 rfl rfl ?_
      exact aw_iret K hr d_St_slotOf_75 h
    · replace h := h.2 q
      refine aw_aload_n K d_St_slotOf_40 rfl rfl ?_
      refine aw_getf K fd_St_15 d_St_slotOf_41 rfl rfl rfl ?_
      refine aw_aload_n K d_St_slotOf_44 rfl rfl ?_
      refine aw_getf K fd_St_39 d_St_slotOf_45 rfl rfl rfl ?_
      refine aw_iload K d_St_slotOf_48 rfl rfl ?_
      refine aw_iald K d_St_slotOf_50 rfl rfl h.1 ?_
      replace h := h.2
      refine aw_iconst K d_St_slotOf_51 rfl (v := 1) (by decide) ?_
      refine aw_isub K d_St_slotOf_52 rfl ?_
      refine aw_lald K d_St_slotOf_53 rfl rfl h.1 ?_
      replace h := h.2
      refine aw_lload_n K d_St_slotOf_54 rfl rfl ?_
      refine aw_lcmp K d_St_slotOf_55 rfl ?_
      refine aw_if_eq K d_St_slotOf_56 (t := 73) (by decide) rfl (fun q => ?_) (fun q => ?_)
      · replace h := h.1 q
        refine aw_iload K d_St_slotOf_73 rfl rfl ?_
        exact aw_iret K hr d_St_slotOf_75 h
      · replace h := h.2 q
        refine aw_iload K d_St_slotOf_59 rfl rfl ?_
        refine aw_iconst K d_St_slotOf_61 rfl (v := 1) (by decide) ?_
        refine aw_iadd K d_St_slotOf_62 rfl ?_
        refine aw_iload_n K d_St_slotOf_63 rfl rfl ?_
        refine aw_iand K d_St_slotOf_64 rfl ?_
        refine aw_istore K d_St_slotOf_65 rfl (by decide) (lv' := [some (aR 9), some (aL l1), none, some (aI l3), some (aI ((l4 + 1) &&& l3)), some (aI l5)]) rfl ?_
        refine aw_iinc K d_St_slotOf_67 rfl rfl (v := l5 + 1) rfl (by decide) (lv' := [some (aR 9), some (aL l1), none, some (aI l3), some (aI ((l4 + 1) &&& l3)), some (aI (l5 + 1))]) rfl ?_
        refine aw_goto K d_St_slotOf_70 (n := 24) (by decide) ?_
        exact h
set_option maxRecDepth 20000 in
theorem x_St_isTaken_0 {X : am_X} {dd bc bs : Nat} (K : am_ok X b_St_isTaken R_St 2 dd) {post : Option am_V → List am_C → Prop} (hr : am_rt X (some .boolean) post) {l1 s_size : Int32} {s_slots : Nat → Int32} {nsl : Nat} {c0 c1 c2 c3 c4 c5 c6 c7 c8 c10 c11 c12 c13 c14 c15 c17 c18 c19 c20 c21 c22 c23 c24 c25 : am_C}
    (h : vp_in l1 nsl ∧ ((s_slots l1.toNatClampNeg) = 0 → post (some (aI 0)) [c0, c1, c2, c3, c4, c5, c6, c7, c8, oC 2 [aI s_size, aR 10, aR 11, aR 12, aR 13, aR 14, aR 15, aR 16], c10, c11, c12, c13, c14, c15, iC nsl s_slots, c17, c18, c19, c20, c21, c22, c23, c24, c25]) ∧ (¬ (s_slots l1.toNatClampNeg) = 0 → post (some (aI 1)) [c0, c1, c2, c3, c4, c5, c6, c7, c8, oC 2 [aI s_size, aR 10, aR 11, aR 12, aR 13, aR 14, aR 15, aR 16], c10, c11, c12, c13, c14, c15, iC nsl s_slots, c17, c18, c19, c20, c21, c22, c23, c24, c25])) :
    AW X 0 [some (aR 9), some (aI l1)] [] [c0, c1, c2, c3, c4, c5, c6, c7, c8, oC 2 [aI s_size, aR 10, aR 11, aR 12, aR 13, aR 14, aR 15, aR 16], c10, c11, c12, c13, c14, c15, iC nsl s_slots, c17, c18, c19, c20, c21, c22, c23, c24, c25] bc bs := by
  refine aw_aload_n K d_St_isTaken_0 rfl rfl ?_
  refine aw_getf K fd_St_39 d_St_isTaken_1 rfl rfl rfl ?_
  refine aw_iload_n K d_St_isTaken_4 rfl rfl ?_
  refine aw_iald K d_St_isTaken_5 rfl rfl h.1 ?_
  replace h := h.2
  refine aw_if_eq K d_St_isTaken_6 (t := 13) (by decide) rfl (fun q => ?_) (fun q => ?_)
  · replace h := h.1 q
    refine aw_iconst K d_St_isTaken_13 rfl (v := 0) (by decide) ?_
    exact aw_zret K hr d_St_isTaken_14 (Or.inl rfl) h
  · replace h := h.2 q
    refine aw_iconst K d_St_isTaken_9 rfl (v := 1) (by decide) ?_
    refine aw_goto K d_St_isTaken_10 (n := 14) (by decide) ?_
    exact aw_zret K hr d_St_isTaken_14 (Or.inr rfl) h
set_option maxRecDepth 20000 in
theorem x_St_greatestLevel_0 {X : am_X} {dd bc bs : Nat} (K : am_ok X b_St_greatestLevel R_St 1 dd) {post : Option am_V → List am_C → Prop} (hr : am_rt X (some .int) post) {s_size : Int32} {s_levels : Nat → Int32} {room : Nat} {c0 c1 c2 c3 c4 c5 c6 c7 c8 c10 c12 c13 c14 c15 c16 c17 c18 c19 c20 c21 c22 c23 c24 c25 : am_C}
    (h : (s_size ≤ 0 → post (some (aI ((-1)))) [c0, c1, c2, c3, c4, c5, c6, c7, c8, oC 2 [aI s_size, aR 10, aR 11, aR 12, aR 13, aR 14, aR 15, aR 16], c10, iC room s_levels, c12, c13, c14, c15, c16, c17, c18, c19, c20, c21, c22, c23, c24, c25]) ∧ (¬ s_size ≤ 0 → vp_in (s_size - 1) room ∧ post (some (aI (s_levels (s_size - 1).toNatClampNeg))) [c0, c1, c2, c3, c4, c5, c6, c7, c8, oC 2 [aI s_size, aR 10, aR 11, aR 12, aR 13, aR 14, aR 15, aR 16], c10, iC room s_levels, c12, c13, c14, c15, c16, c17, c18, c19, c20, c21, c22, c23, c24, c25])) :
    AW X 0 [some (aR 9)] [] [c0, c1, c2, c3, c4, c5, c6, c7, c8, oC 2 [aI s_size, aR 10, aR 11, aR 12, aR 13, aR 14, aR 15, aR 16], c10, iC room s_levels, c12, c13, c14, c15, c16, c17, c18, c19, c20, c21, c22, c23, c24, c25] bc bs := by
  refine aw_aload_n K d_St_greatestLevel_0 rfl rfl ?_
  refine aw_getf K fd_St_9 d_St_greatestLevel_1 rfl rfl rfl ?_
  refine aw_if_le K d_St_greatestLevel_4 (t := 21) (by decide) rfl (fun q => ?_) (fun q => ?_)
  · replace h := h.1 q
    refine aw_iconst K d_St_greatestLevel_21 rfl (v := (-1)) (by decide) ?_
    exact aw_iret K hr d_St_greatestLevel_22 h
  · replace h := h.2 q
    refine aw_aload_n K d_St_greatestLevel_7 rfl rfl ?_
    refine aw_getf K fd_St_19 d_St_greatestLevel_8 rfl rfl rfl ?_
    refine aw_aload_n K d_St_greatestLevel_11 rfl rfl ?_
    refine aw_getf K fd_St_9 d_St_greatestLevel_12 rfl rfl rfl ?_
    refine aw_iconst K d_St_greatestLevel_15 rfl (v := 1) (by decide) ?_
    refine aw_isub K d_St_greatestLevel_16 rfl ?_
    refine aw_iald K d_St_greatestLevel_17 rfl rfl h.1 ?_
    replace h := h.2
    refine aw_goto K d_St_greatestLevel_18 (n := 22) (by decide) ?_
    exact aw_iret K hr d_St_greatestLevel_22 h
set_option maxRecDepth 20000 in
theorem x_St_beforeLast_0 {X : am_X} {dd bc bs : Nat} (K : am_ok X b_St_beforeLast R_St 4 dd) {post : Option am_V → List am_C → Prop} (hr : am_rt X (some .int) post) {l1 s_size : Int32} {s_levels s_origins : Nat → Int32} {room : Nat} {c0 c1 c2 c3 c4 c5 c6 c7 c8 c10 c13 c14 c15 c16 c17 c18 c19 c20 c21 c22 c23 c24 c25 : am_C}
    (h : AW X 9 [some (aR 9), some (aI l1), some (aI (s_size - 1)), some (aI 0)] [] [c0, c1, c2, c3, c4, c5, c6, c7, c8, oC 2 [aI s_size, aR 10, aR 11, aR 12, aR 13, aR 14, aR 15, aR 16], c10, iC room s_levels, iC room s_origins, c13, c14, c15, c16, c17, c18, c19, c20, c21, c22, c23, c24, c25] bc bs) :
    AW X 0 [some (aR 9), some (aI l1), none, none] [] [c0, c1, c2, c3, c4, c5, c6, c7, c8, oC 2 [aI s_size, aR 10, aR 11, aR 12, aR 13, aR 14, aR 15, aR 16], c10, iC room s_levels, iC room s_origins, c13, c14, c15, c16, c17, c18, c19, c20, c21, c22, c23, c24, c25] bc bs := by
  refine aw_aload_n K d_St_beforeLast_0 rfl rfl ?_
  refine aw_getf K fd_St_9 d_St_beforeLast_1 rfl rfl rfl ?_
  refine aw_iconst K d_St_beforeLast_4 rfl (v := 1) (by decide) ?_
  refine aw_isub K d_St_beforeLast_5 rfl ?_
  refine aw_istore_n K d_St_beforeLast_6 rfl (by decide) (lv' := [some (aR 9), some (aI l1), some (aI (s_size - 1)), none]) rfl ?_
  refine aw_iconst K d_St_beforeLast_7 rfl (v := 0) (by decide) ?_
  refine aw_istore_n K d_St_beforeLast_8 rfl (by decide) (lv' := [some (aR 9), some (aI l1), some (aI (s_size - 1)), some (aI 0)]) rfl ?_
  exact h
set_option maxRecDepth 20000 in
theorem x_St_beforeLast_9 {X : am_X} {dd bc bs : Nat} (K : am_ok X b_St_beforeLast R_St 4 dd) {post : Option am_V → List am_C → Prop} (hr : am_rt X (some .int) post) {sp_St_has : am_S} {dd_St_has : Nat} (c_St_has : Con y_St_has b_St_has 2 (some .boolean) dd_St_has 0 0 false sp_St_has) (hdd_St_has : dd_St_has + 1 ≤ dd) {l1 l2 l3 s_size : Int32} {s_levels s_origins : Nat → Int32} {room : Nat} {c0 c1 c2 c3 c4 c5 c6 c7 c8 c10 c13 c14 c15 c16 c17 c18 c19 c20 c21 c22 c23 c24 c25 : am_C}
    (h : (s_size ≤ l3 → post (some (aI l2)) [c0, c1, c2, c3, c4, c5, c6, c7, c8, oC 2 [aI s_size, aR 10, aR 11, aR 12, aR 13, aR 14, aR 15, aR 16], c10, iC room s_levels, iC room s_origins, c13, c14, c15, c16, c17, c18, c19, c20, c21, c22, c23, c24, c25]) ∧ (¬ s_size ≤ l3 → sp_St_has [aR 9, aI l2] [c0, c1, c2, c3, c4, c5, c6, c7, c8, oC 2 [aI s_size, aR 10, aR 11, aR 12, aR 13, aR 14, aR 15, aR 16], c10, iC room s_levels, iC room s_origins, c13, c14, c15, c16, c17, c18, c19, c20, c21, c22, c23, c24, c25] (fun rv w' => AW X 22 [some (aR 9), some (aI l1), some (aI l2), some (aI l3)] (rv.toList ++ []) w' bc bs))) :
    AW X 9 [some (aR 9), some (aI l1), some (aI l2), some (aI l3)] [] [c0, c1, c2, c3, c4, c5, c6, c7, c8, oC 2 [aI s_size, aR 10, aR 11, aR 12, aR 13, aR 14, aR 15, aR 16], c10, iC room s_levels, iC room s_origins, c13, c14, c15, c16, c17, c18, c19, c20, c21, c22, c23, c24, c25] bc bs := by
  refine aw_iload_n K d_St_beforeLast_9 rfl rfl ?_
  refine aw_aload_n K d_St_beforeLast_10 rfl rfl ?_
  refine aw_getf K fd_St_9 d_St_beforeLast_11 rfl rfl rfl ?_
  refine aw_icmp_ge K d_St_beforeLast_14 (t := 48) (by decide) rfl (fun q => ?_) (fun q => ?_)
  · replace h := h.1 q
    refine aw_iload_n K d_St_beforeLast_48 rfl rfl ?_
    exact aw_iret K hr d_St_beforeLast_49 h
  · replace h := h.2 q
    refine aw_aload_n K d_St_beforeLast_17 rfl rfl ?_
    refine aw_iload_n K d_St_beforeLast_18 rfl rfl ?_
    exact aw_callV K c_St_has cb_St_56 ci_St_has cs_St_has hdd_St_has (k := 9) rfl rfl d_St_beforeLast_19 rfl (av := [aI l2]) rfl (Nat.le_of_ble_eq_true rfl) h (fun rv w' hF => hF)
set_option maxRecDepth 20000 in
theorem x_St_beforeLast_22 {X : am_X} {dd bc bs : Nat} (K : am_ok X b_St_beforeLast R_St 4 dd) {post : Option am_V → List am_C → Prop} (hr : am_rt X (some .int) post) {l1 l2 l3 s0 s_size : Int32} {s_levels s_origins : Nat → Int32} {room : Nat} {c0 c1 c2 c3 c4 c5 c6 c7 c8 c10 c13 c14 c15 c16 c17 c18 c19 c20 c21 c22 c23 c24 c25 : am_C}
    (h : (s0 = 0 → post (some (aI l2)) [c0, c1, c2, c3, c4, c5, c6, c7, c8, oC 2 [aI s_size, aR 10, aR 11, aR 12, aR 13, aR 14, aR 15, aR 16], c10, iC room s_levels, iC room s_origins, c13, c14, c15, c16, c17, c18, c19, c20, c21, c22, c23, c24, c25]) ∧ (¬ s0 = 0 → vp_in l2 room ∧ ((s_levels l2.toNatClampNeg) ≤ l1 → post (some (aI l2)) [c0, c1, c2, c3, c4, c5, c6, c7, c8, oC 2 [aI s_size, aR 10, aR 11, aR 12, aR 13, aR 14, aR 15, aR 16], c10, iC room s_levels, iC room s_origins, c13, c14, c15, c16, c17, c18, c19, c20, c21, c22, c23, c24, c25]) ∧ (¬ (s_levels l2.toNatClampNeg) ≤ l1 → vp_in l2 room ∧ AW X 9 [some (aR 9), some (aI l1), some (aI (s_origins l2.toNatClampNeg)), some (aI (l3 + 1))] [] [c0, c1, c2, c3, c4, c5, c6, c7, c8, oC 2 [aI s_size, aR 10, aR 11, aR 12, aR 13, aR 14, aR 15, aR 16], c10, iC room s_levels, iC room s_origins, c13, c14, c15, c16, c17, c18, c19, c20, c21, c22, c23, c24, c25] bc bs))) :
    AW X 22 [some (aR 9), some (aI l1), some (aI l2), some (aI l3)] [aI s0] [c0, c1, c2, c3, c4, c5, c6, c7, c8, oC 2 [aI s_size, aR 10, aR 11, aR 12, aR 13, aR 14, aR 15, aR 16], c10, iC room s_levels, iC room s_origins, c13, c14, c15, c16, c17, c18, c19, c20, c21, c22, c23, c24, c25] bc bs := by
  refine aw_if_eq K d_St_beforeLast_22 (t := 48) (by decide) rfl (fun q => ?_) (fun q => ?_)
  · replace h := h.1 q
    refine aw_iload_n K d_St_beforeLast_48 rfl rfl ?_
    exact aw_iret K hr d_St_beforeLast_49 h
  · replace h := h.2 q
    refine aw_aload_n K d_St_beforeLast_25 rfl rfl ?_
    refine aw_getf K fd_St_19 d_St_beforeLast_26 rfl rfl rfl ?_
    refine aw_iload_n K d_St_beforeLast_29 rfl rfl ?_
    refine aw_iald K d_St_beforeLast_30 rfl rfl h.1 ?_
    replace h := h.2
    refine aw_iload_n K d_St_beforeLast_31 rfl rfl ?_
    refine aw_icmp_le K d_St_beforeLast_32 (t := 48) (by decide) rfl (fun q => ?_) (fun q => ?_)
    · replace h := h.1 q
      refine aw_iload_n K d_St_beforeLast_48 rfl rfl ?_
      exact aw_iret K hr d_St_beforeLast_49 h
    · replace h := h.2 q
      refine aw_aload_n K d_St_beforeLast_35 rfl rfl ?_
      refine aw_getf K fd_St_23 d_St_beforeLast_36 rfl rfl rfl ?_
      refine aw_iload_n K d_St_beforeLast_39 rfl rfl ?_
      refine aw_iald K d_St_beforeLast_40 rfl rfl h.1 ?_
      replace h := h.2
      refine aw_istore_n K d_St_beforeLast_41 rfl (by decide) (lv' := [some (aR 9), some (aI l1), some (aI (s_origins l2.toNatClampNeg)), some (aI l3)]) rfl ?_
      refine aw_iinc K d_St_beforeLast_42 rfl rfl (v := l3 + 1) rfl (by decide) (lv' := [some (aR 9), some (aI l1), some (aI (s_origins l2.toNatClampNeg)), some (aI (l3 + 1))]) rfl ?_
      refine aw_goto K d_St_beforeLast_45 (n := 9) (by decide) ?_
      exact h
set_option maxRecDepth 20000 in
theorem x_St_add_0 {X : am_X} {dd bc bs : Nat} (K : am_ok X b_St_add R_St 5 dd) {post : Option am_V → List am_C → Prop} (hr : am_rt X none post) {sp_St_has : am_S} {dd_St_has : Nat} (c_St_has : Con y_St_has b_St_has 2 (some .boolean) dd_St_has 0 0 false sp_St_has) (hdd_St_has : dd_St_has + 1 ≤ dd) {l1 l3 l4 s_size v_nodes v_numberings v_size v_symmetries : Int32} {v_form : Int64} {s_levels s_origins s_rules s_steps s_symmetries s_slots : Nat → Int32} {s_forms : Nat → Int64} {room nsl : Nat} {c0 c1 c2 c3 c4 c5 c6 c7 c8 c17 c18 c19 c20 c21 c23 c24 c25 : am_C}
    (h : vp_in s_size room ∧ sp_St_has [aR 9, aI l3] [c0, c1, c2, c3, c4, c5, c6, c7, c8, oC 2 [aI s_size, aR 10, aR 11, aR 12, aR 13, aR 14, aR 15, aR 16], jC room (vp_updL s_forms s_size.toNatClampNeg v_form), iC room s_levels, iC room s_origins, iC room s_rules, iC room s_steps, iC room s_symmetries, iC nsl s_slots, c17, c18, c19, c20, c21, oC 4 [aI v_nodes, aI v_numberings, aR 23, aR 24, aI v_size, aL v_form, aI v_symmetries, aR 25], c23, c24, c25] (fun rv w' => AW X 26 [some (aR 9), some (aI l1), some (aR 22), some (aI l3), some (aI l4)] (rv.toList ++ [aI s_size, aR 11]) w' bc bs)) :
    AW X 0 [some (aR 9), some (aI l1), some (aR 22), some (aI l3), some (aI l4)] [] [c0, c1, c2, c3, c4, c5, c6, c7, c8, oC 2 [aI s_size, aR 10, aR 11, aR 12, aR 13, aR 14, aR 15, aR 16], jC room s_forms, iC room s_levels, iC room s_origins, iC room s_rules, iC room s_steps, iC room s_symmetries, iC nsl s_slots, c17, c18, c19, c20, c21, oC 4 [aI v_nodes, aI v_numberings, aR 23, aR 24, aI v_size, aL v_form, aI v_symmetries, aR 25], c23, c24, c25] bc bs := by
  refine aw_aload_n K d_St_add_0 rfl rfl ?_
  refine aw_getf K fd_St_15 d_St_add_1 rfl rfl rfl ?_
  refine aw_aload_n K d_St_add_4 rfl rfl ?_
  refine aw_getf K fd_St_9 d_St_add_5 rfl rfl rfl ?_
  refine aw_aload_n K d_St_add_8 rfl rfl ?_
  refine aw_getf K fd_St_50 d_St_add_9 rfl rfl rfl ?_
  refine aw_last K d_St_add_12 rfl rfl h.1 (w' := [c0, c1, c2, c3, c4, c5, c6, c7, c8, oC 2 [aI s_size, aR 10, aR 11, aR 12, aR 13, aR 14, aR 15, aR 16], jC room (vp_updL s_forms s_size.toNatClampNeg v_form), iC room s_levels, iC room s_origins, iC room s_rules, iC room s_steps, iC room s_symmetries, iC nsl s_slots, c17, c18, c19, c20, c21, oC 4 [aI v_nodes, aI v_numberings, aR 23, aR 24, aI v_size, aL v_form, aI v_symmetries, aR 25], c23, c24, c25]) rfl ?_
  replace h := h.2
  refine aw_aload_n K d_St_add_13 rfl rfl ?_
  refine aw_getf K fd_St_19 d_St_add_14 rfl rfl rfl ?_
  refine aw_aload_n K d_St_add_17 rfl rfl ?_
  refine aw_getf K fd_St_9 d_St_add_18 rfl rfl rfl ?_
  refine aw_aload_n K d_St_add_21 rfl rfl ?_
  refine aw_iload_n K d_St_add_22 rfl rfl ?_
  exact aw_callV K c_St_has cb_St_56 ci_St_has cs_St_has hdd_St_has (k := 9) rfl rfl d_St_add_23 rfl (av := [aI l3]) rfl (Nat.le_of_ble_eq_true rfl) h (fun rv w' hF => hF)
set_option maxRecDepth 20000 in
theorem x_St_add_26 {X : am_X} {dd bc bs : Nat} (K : am_ok X b_St_add R_St 5 dd) {post : Option am_V → List am_C → Prop} (hr : am_rt X none post) {l1 l3 l4 s0 s1 s_size v_nodes v_numberings v_size v_symmetries : Int32} {v_form : Int64} {s_levels s_origins s_rules s_steps s_symmetries s_slots : Nat → Int32} {s_forms : Nat → Int64} {room nsl : Nat} {c0 c1 c2 c3 c4 c5 c6 c7 c8 c17 c18 c19 c20 c21 c23 c24 c25 : am_C}
    (h : (s0 = 0 → AW X 41 [some (aR 9), some (aI l1), some (aR 22), some (aI l3), some (aI l4)] [aI 0, aI s1, aR 11] [c0, c1, c2, c3, c4, c5, c6, c7, c8, oC 2 [aI s_size, aR 10, aR 11, aR 12, aR 13, aR 14, aR 15, aR 16], jC room s_forms, iC room s_levels, iC room s_origins, iC room s_rules, iC room s_steps, iC room s_symmetries, iC nsl s_slots, c17, c18, c19, c20, c21, oC 4 [aI v_nodes, aI v_numberings, aR 23, aR 24, aI v_size, aL v_form, aI v_symmetries, aR 25], c23, c24, c25] bc bs) ∧ (¬ s0 = 0 → vp_in l3 room ∧ AW X 41 [some (aR 9), some (aI l1), some (aR 22), some (aI l3), some (aI l4)] [aI ((s_levels l3.toNatClampNeg) + 1), aI s1, aR 11] [c0, c1, c2, c3, c4, c5, c6, c7, c8, oC 2 [aI s_size, aR 10, aR 11, aR 12, aR 13, aR 14, aR 15, aR 16], jC room s_forms, iC room s_levels, iC room s_origins, iC room s_rules, iC room s_steps, iC room s_symmetries, iC nsl s_slots, c17, c18, c19, c20, c21, oC 4 [aI v_nodes, aI v_numberings, aR 23, aR 24, aI v_size, aL v_form, aI v_symmetries, aR 25], c23, c24, c25] bc bs)) :
    AW X 26 [some (aR 9), some (aI l1), some (aR 22), some (aI l3), some (aI l4)] [aI s0, aI s1, aR 11] [c0, c1, c2, c3, c4, c5, c6, c7, c8, oC 2 [aI s_size, aR 10, aR 11, aR 12, aR 13, aR 14, aR 15, aR 16], jC room s_forms, iC room s_levels, iC room s_origins, iC room s_rules, iC room s_steps, iC room s_symmetries, iC nsl s_slots, c17, c18, c19, c20, c21, oC 4 [aI v_nodes, aI v_numberings, aR 23, aR 24, aI v_size, aL v_form, aI v_symmetries, aR 25], c23, c24, c25] bc bs := by
  refine aw_if_eq K d_St_add_26 (t := 40) (by decide) rfl (fun q => ?_) (fun q => ?_)
  · replace h := h.1 q
    refine aw_iconst K d_St_add_40 rfl (v := 0) (by decide) ?_
    exact h
  · replace h := h.2 q
    refine aw_aload_n K d_St_add_29 rfl rfl ?_
    refine aw_getf K fd_St_19 d_St_add_30 rfl rfl rfl ?_
    refine aw_iload_n K d_St_add_33 rfl rfl ?_
    refine aw_iald K d_St_add_34 rfl rfl h.1 ?_
    replace h := h.2
    refine aw_iconst K d_St_add_35 rfl (v := 1) (by decide) ?_
    refine aw_iadd K d_St_add_36 rfl ?_
    refine aw_goto K d_St_add_37 (n := 41) (by decide) ?_
    exact h
set_option maxRecDepth 20000 in
theorem x_St_add_41 {X : am_X} {dd bc bs : Nat} (K : am_ok X b_St_add R_St 5 dd) {post : Option am_V → List am_C → Prop} (hr : am_rt X none post) {l1 l3 l4 s0 s1 s_size v_nodes v_numberings v_size v_symmetries : Int32} {v_form : Int64} {s_levels s_origins s_rules s_steps s_symmetries s_slots : Nat → Int32} {s_forms : Nat → Int64} {room nsl : Nat} {c0 c1 c2 c3 c4 c5 c6 c7 c8 c17 c18 c19 c20 c21 c23 c24 c25 : am_C}
    (h : vp_in s1 room ∧ vp_in s_size room ∧ vp_in s_size room ∧ vp_in s_size room ∧ vp_in s_size room ∧ vp_in l1 nsl ∧ post none [c0, c1, c2, c3, c4, c5, c6, c7, c8, oC 2 [aI (s_size + 1), aR 10, aR 11, aR 12, aR 13, aR 14, aR 15, aR 16], jC room s_forms, iC room (upd s_levels s1.toNatClampNeg s0), iC room (upd s_origins s_size.toNatClampNeg l3), iC room (upd s_rules s_size.toNatClampNeg l4), iC room (upd s_steps s_size.toNatClampNeg ((-1))), iC room (upd s_symmetries s_size.toNatClampNeg v_symmetries), iC nsl (upd s_slots l1.toNatClampNeg (s_size + 1)), c17, c18, c19, c20, c21, oC 4 [aI v_nodes, aI v_numberings, aR 23, aR 24, aI v_size, aL v_form, aI v_symmetries, aR 25], c23, c24, c25]) :
    AW X 41 [some (aR 9), some (aI l1), some (aR 22), some (aI l3), some (aI l4)] [aI s0, aI s1, aR 11] [c0, c1, c2, c3, c4, c5, c6, c7, c8, oC 2 [aI s_size, aR 10, aR 11, aR 12, aR 13, aR 14, aR 15, aR 16], jC room s_forms, iC room s_levels, iC room s_origins, iC room s_rules, iC room s_steps, iC room s_symmetries, iC nsl s_slots, c17, c18, c19, c20, c21, oC 4 [aI v_nodes, aI v_numberings, aR 23, aR 24, aI v_size, aL v_form, aI v_symmetries, aR 25], c23, c24, c25] bc bs := by
  refine aw_iast K d_St_add_41 rfl rfl h.1 (w' := [c0, c1, c2, c3, c4, c5, c6, c7, c8, oC 2 [aI s_size, aR 10, aR 11, aR 12, aR 13, aR 14, aR 15, aR 16], jC room s_forms, iC room (upd s_levels s1.toNatClampNeg s0), iC room s_origins, iC room s_rules, iC room s_steps, iC room s_symmetries, iC nsl s_slots, c17, c18, c19, c20, c21, oC 4 [aI v_nodes, aI v_numberings, aR 23, aR 24, aI v_size, aL v_form, aI v_symmetries, aR 25], c23, c24, c25]) rfl ?_
  replace h := h.2
  refine aw_aload_n K d_St_add_42 rfl rfl ?_
  refine aw_getf K fd_St_23 d_St_add_43 rfl rfl rfl ?_
  refine aw_aload_n K d_St_add_46 rfl rfl ?_
  refine aw_getf K fd_St_9 d_St_add_47 rfl rfl rfl ?_
  refine aw_iload_n K d_St_add_50 rfl rfl ?_
  refine aw_iast K d_St_add_51 rfl rfl h.1 (w' := [c0, c1, c2, c3, c4, c5, c6, c7, c8, oC 2 [aI s_size, aR 10, aR 11, aR 12, aR 13, aR 14, aR 15, aR 16], jC room s_forms, iC room (upd s_levels s1.toNatClampNeg s0), iC room (upd s_origins s_size.toNatClampNeg l3), iC room s_rules, iC room s_steps, iC room s_symmetries, iC nsl s_slots, c17, c18, c19, c20, c21, oC 4 [aI v_nodes, aI v_numberings, aR 23, aR 24, aI v_size, aL v_form, aI v_symmetries, aR 25], c23, c24, c25]) rfl ?_
  replace h := h.2
  refine aw_aload_n K d_St_add_52 rfl rfl ?_
  refine aw_getf K fd_St_26 d_St_add_53 rfl rfl rfl ?_
  refine aw_aload_n K d_St_add_56 rfl rfl ?_
  refine aw_getf K fd_St_9 d_St_add_57 rfl rfl rfl ?_
  refine aw_iload K d_St_add_60 rfl rfl ?_
  refine aw_iast K d_St_add_62 rfl rfl h.1 (w' := [c0, c1, c2, c3, c4, c5, c6, c7, c8, oC 2 [aI s_size, aR 10, aR 11, aR 12, aR 13, aR 14, aR 15, aR 16], jC room s_forms, iC room (upd s_levels s1.toNatClampNeg s0), iC room (upd s_origins s_size.toNatClampNeg l3), iC room (upd s_rules s_size.toNatClampNeg l4), iC room s_steps, iC room s_symmetries, iC nsl s_slots, c17, c18, c19, c20, c21, oC 4 [aI v_nodes, aI v_numberings, aR 23, aR 24, aI v_size, aL v_form, aI v_symmetries, aR 25], c23, c24, c25]) rfl ?_
  replace h := h.2
  refine aw_aload_n K d_St_add_63 rfl rfl ?_
  refine aw_getf K fd_St_29 d_St_add_64 rfl rfl rfl ?_
  refine aw_aload_n K d_St_add_67 rfl rfl ?_
  refine aw_getf K fd_St_9 d_St_add_68 rfl rfl rfl ?_
  refine aw_iconst K d_St_add_71 rfl (v := (-1)) (by decide) ?_
  refine aw_iast K d_St_add_72 rfl rfl h.1 (w' := [c0, c1, c2, c3, c4, c5, c6, c7, c8, oC 2 [aI s_size, aR 10, aR 11, aR 12, aR 13, aR 14, aR 15, aR 16], jC room s_forms, iC room (upd s_levels s1.toNatClampNeg s0), iC room (upd s_origins s_size.toNatClampNeg l3), iC room (upd s_rules s_size.toNatClampNeg l4), iC room (upd s_steps s_size.toNatClampNeg ((-1))), iC room s_symmetries, iC nsl s_slots, c17, c18, c19, c20, c21, oC 4 [aI v_nodes, aI v_numberings, aR 23, aR 24, aI v_size, aL v_form, aI v_symmetries, aR 25], c23, c24, c25]) rfl ?_
  replace h := h.2
  refine aw_aload_n K d_St_add_73 rfl rfl ?_
  refine aw_getf K fd_St_32 d_St_add_74 rfl rfl rfl ?_
  refine aw_aload_n K d_St_add_77 rfl rfl ?_
  refine aw_getf K fd_St_9 d_St_add_78 rfl rfl rfl ?_
  refine aw_aload_n K d_St_add_81 rfl rfl ?_
  refine aw_getf K fd_St_60 d_St_add_82 rfl rfl rfl ?_
  refine aw_iast K d_St_add_85 rfl rfl h.1 (w' := [c0, c1, c2, c3, c4, c5, c6, c7, c8, oC 2 [aI s_size, aR 10, aR 11, aR 12, aR 13, aR 14, aR 15, aR 16], jC room s_forms, iC room (upd s_levels s1.toNatClampNeg s0), iC room (upd s_origins s_size.toNatClampNeg l3), iC room (upd s_rules s_size.toNatClampNeg l4), iC room (upd s_steps s_size.toNatClampNeg ((-1))), iC room (upd s_symmetries s_size.toNatClampNeg v_symmetries), iC nsl s_slots, c17, c18, c19, c20, c21, oC 4 [aI v_nodes, aI v_numberings, aR 23, aR 24, aI v_size, aL v_form, aI v_symmetries, aR 25], c23, c24, c25]) rfl ?_
  replace h := h.2
  refine aw_aload_n K d_St_add_86 rfl rfl ?_
  refine aw_getf K fd_St_39 d_St_add_87 rfl rfl rfl ?_
  refine aw_iload_n K d_St_add_90 rfl rfl ?_
  refine aw_aload_n K d_St_add_91 rfl rfl ?_
  refine aw_dup K d_St_add_92 rfl (fun _ e => nomatch e) ?_
  refine aw_getf K fd_St_9 d_St_add_93 rfl rfl rfl ?_
  refine aw_iconst K d_St_add_96 rfl (v := 1) (by decide) ?_
  refine aw_iadd K d_St_add_97 rfl ?_
  refine aw_dup_x1 K d_St_add_98 rfl (fun _ e => nomatch e) (fun _ e => nomatch e) ?_
  refine aw_putf K fp_St_9 d_St_add_99 rfl rfl (Nat.le_of_ble_eq_true rfl) (am_fit_i _) (w' := [c0, c1, c2, c3, c4, c5, c6, c7, c8, oC 2 [aI (s_size + 1), aR 10, aR 11, aR 12, aR 13, aR 14, aR 15, aR 16], jC room s_forms, iC room (upd s_levels s1.toNatClampNeg s0), iC room (upd s_origins s_size.toNatClampNeg l3), iC room (upd s_rules s_size.toNatClampNeg l4), iC room (upd s_steps s_size.toNatClampNeg ((-1))), iC room (upd s_symmetries s_size.toNatClampNeg v_symmetries), iC nsl s_slots, c17, c18, c19, c20, c21, oC 4 [aI v_nodes, aI v_numberings, aR 23, aR 24, aI v_size, aL v_form, aI v_symmetries, aR 25], c23, c24, c25]) rfl ?_
  refine aw_iast K d_St_add_102 rfl rfl h.1 (w' := [c0, c1, c2, c3, c4, c5, c6, c7, c8, oC 2 [aI (s_size + 1), aR 10, aR 11, aR 12, aR 13, aR 14, aR 15, aR 16], jC room s_forms, iC room (upd s_levels s1.toNatClampNeg s0), iC room (upd s_origins s_size.toNatClampNeg l3), iC room (upd s_rules s_size.toNatClampNeg l4), iC room (upd s_steps s_size.toNatClampNeg ((-1))), iC room (upd s_symmetries s_size.toNatClampNeg v_symmetries), iC nsl (upd s_slots l1.toNatClampNeg (s_size + 1)), c17, c18, c19, c20, c21, oC 4 [aI v_nodes, aI v_numberings, aR 23, aR 24, aI v_size, aL v_form, aI v_symmetries, aR 25], c23, c24, c25]) rfl ?_
  replace h := h.2
  exact aw_vret K hr d_St_add_103 h
set_option maxRecDepth 20000 in
theorem x_Ma_floorMod_0 {X : am_X} {dd bc bs : Nat} (K : am_ok X b_Ma_floorMod R_Ma 3 dd) {post : Option am_V → List am_C → Prop} (hr : am_rt X (some .int) post) {l0 l1 : Int32} {c0 c1 c2 c3 c4 c5 c6 c7 c8 c9 c10 c11 c12 c13 c14 c15 c16 c17 c18 c19 c20 c21 c22 c23 c24 c25 : am_C}
    (h : ¬ l1 = 0 ∧ (0 ≤ (l0 ^^^ l1) → post (some (aI (l0 - l0 / l1 * l1))) [c0, c1, c2, c3, c4, c5, c6, c7, c8, c9, c10, c11, c12, c13, c14, c15, c16, c17, c18, c19, c20, c21, c22, c23, c24, c25]) ∧ (¬ 0 ≤ (l0 ^^^ l1) → ((l0 - l0 / l1 * l1) = 0 → post (some (aI (l0 - l0 / l1 * l1))) [c0, c1, c2, c3, c4, c5, c6, c7, c8, c9, c10, c11, c12, c13, c14, c15, c16, c17, c18, c19, c20, c21, c22, c23, c24, c25]) ∧ (¬ (l0 - l0 / l1 * l1) = 0 → post (some (aI ((l0 - l0 / l1 * l1) + l1))) [c0, c1, c2, c3, c4, c5, c6, c7, c8, c9, c10, c11, c12, c13, c14, c15, c16, c17, c18, c19, c20, c21, c22, c23, c24, c25]))) :
    AW X 0 [some (aI l0), some (aI l1), none] [] [c0, c1, c2, c3, c4, c5, c6, c7, c8, c9, c10, c11, c12, c13, c14, c15, c16, c17, c18, c19, c20, c21, c22, c23, c24, c25] bc bs := by
  refine aw_iload_n K d_Ma_floorMod_0 rfl rfl ?_
  refine aw_iload_n K d_Ma_floorMod_1 rfl rfl ?_
  refine aw_irem K d_Ma_floorMod_2 rfl h.1 ?_
  replace h := h.2
  refine aw_istore_n K d_Ma_floorMod_3 rfl (by decide) (lv' := [some (aI l0), some (aI l1), some (aI (l0 - l0 / l1 * l1))]) rfl ?_
  refine aw_iload_n K d_Ma_floorMod_4 rfl rfl ?_
  refine aw_iload_n K d_Ma_floorMod_5 rfl rfl ?_
  refine aw_ixor K d_Ma_floorMod_6 rfl ?_
  refine aw_if_ge K d_Ma_floorMod_7 (t := 18) (by decide) rfl (fun q => ?_) (fun q => ?_)
  · replace h := h.1 q
    refine aw_iload_n K d_Ma_floorMod_18 rfl rfl ?_
    exact aw_iret K hr d_Ma_floorMod_19 h
  · replace h := h.2 q
    refine aw_iload_n K d_Ma_floorMod_10 rfl rfl ?_
    refine aw_if_eq K d_Ma_floorMod_11 (t := 18) (by decide) rfl (fun q => ?_) (fun q => ?_)
    · replace h := h.1 q
      refine aw_iload_n K d_Ma_floorMod_18 rfl rfl ?_
      exact aw_iret K hr d_Ma_floorMod_19 h
    · replace h := h.2 q
      refine aw_iload_n K d_Ma_floorMod_14 rfl rfl ?_
      refine aw_iload_n K d_Ma_floorMod_15 rfl rfl ?_
      refine aw_iadd K d_Ma_floorMod_16 rfl ?_
      exact aw_iret K hr d_Ma_floorMod_17 h
set_option maxRecDepth 20000 in
theorem x_Ar_fill_0 {X : am_X} {dd bc bs : Nat} (K : am_ok X b_Ar_fill R_Ar 4 dd) {post : Option am_V → List am_C → Prop} (hr : am_rt X none post) {l1 : Int32} {s_slots : Nat → Int32} {nsl : Nat} {c0 c1 c2 c3 c4 c5 c6 c7 c8 c9 c10 c11 c12 c13 c14 c15 c17 c18 c19 c20 c21 c22 c23 c24 c25 : am_C}
    (h : AW X 5 [some (aR 16), some (aI l1), some (aI 0), some (aI (nI nsl))] [] [c0, c1, c2, c3, c4, c5, c6, c7, c8, c9, c10, c11, c12, c13, c14, c15, iC nsl s_slots, c17, c18, c19, c20, c21, c22, c23, c24, c25] bc bs) :
    AW X 0 [some (aR 16), some (aI l1), none, none] [] [c0, c1, c2, c3, c4, c5, c6, c7, c8, c9, c10, c11, c12, c13, c14, c15, iC nsl s_slots, c17, c18, c19, c20, c21, c22, c23, c24, c25] bc bs := by
  refine aw_iconst K d_Ar_fill_0 rfl (v := 0) (by decide) ?_
  refine aw_istore_n K d_Ar_fill_1 rfl (by decide) (lv' := [some (aR 16), some (aI l1), some (aI 0), none]) rfl ?_
  refine aw_aload_n K d_Ar_fill_2 rfl rfl ?_
  refine aw_ilen K d_Ar_fill_3 rfl rfl ?_
  refine aw_istore_n K d_Ar_fill_4 rfl (by decide) (lv' := [some (aR 16), some (aI l1), some (aI 0), some (aI (nI nsl))]) rfl ?_
  exact h
set_option maxRecDepth 20000 in
theorem x_Ar_fill_5 {X : am_X} {dd bc bs : Nat} (K : am_ok X b_Ar_fill R_Ar 4 dd) {post : Option am_V → List am_C → Prop} (hr : am_rt X none post) {l1 l2 l3 : Int32} {s_slots : Nat → Int32} {nsl : Nat} {c0 c1 c2 c3 c4 c5 c6 c7 c8 c9 c10 c11 c12 c13 c14 c15 c17 c18 c19 c20 c21 c22 c23 c24 c25 : am_C}
    (h : (l3 ≤ l2 → post none [c0, c1, c2, c3, c4, c5, c6, c7, c8, c9, c10, c11, c12, c13, c14, c15, iC nsl s_slots, c17, c18, c19, c20, c21, c22, c23, c24, c25]) ∧ (¬ l3 ≤ l2 → vp_in l2 nsl ∧ AW X 5 [some (aR 16), some (aI l1), some (aI (l2 + 1)), some (aI l3)] [] [c0, c1, c2, c3, c4, c5, c6, c7, c8, c9, c10, c11, c12, c13, c14, c15, iC nsl (upd s_slots l2.toNatClampNeg l1), c17, c18, c19, c20, c21, c22, c23, c24, c25] bc bs)) :
    AW X 5 [some (aR 16), some (aI l1), some (aI l2), some (aI l3)] [] [c0, c1, c2, c3, c4, c5, c6, c7, c8, c9, c10, c11, c12, c13, c14, c15, iC nsl s_slots, c17, c18, c19, c20, c21, c22, c23, c24, c25] bc bs := by
  refine aw_iload_n K d_Ar_fill_5 rfl rfl ?_
  refine aw_iload_n K d_Ar_fill_6 rfl rfl ?_
  refine aw_icmp_ge K d_Ar_fill_7 (t := 20) (by decide) rfl (fun q => ?_) (fun q => ?_)
  · replace h := h.1 q
    exact aw_vret K hr d_Ar_fill_20 h
  · replace h := h.2 q
    refine aw_aload_n K d_Ar_fill_10 rfl rfl ?_
    refine aw_iload_n K d_Ar_fill_11 rfl rfl ?_
    refine aw_iload_n K d_Ar_fill_12 rfl rfl ?_
    refine aw_iast K d_Ar_fill_13 rfl rfl h.1 (w' := [c0, c1, c2, c3, c4, c5, c6, c7, c8, c9, c10, c11, c12, c13, c14, c15, iC nsl (upd s_slots l2.toNatClampNeg l1), c17, c18, c19, c20, c21, c22, c23, c24, c25]) rfl ?_
    replace h := h.2
    refine aw_iinc K d_Ar_fill_14 rfl rfl (v := l2 + 1) rfl (by decide) (lv' := [some (aR 16), some (aI l1), some (aI (l2 + 1)), some (aI l3)]) rfl ?_
    refine aw_goto K d_Ar_fill_17 (n := 5) (by decide) ?_
    exact h
end
