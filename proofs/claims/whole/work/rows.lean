section
-- ===== PART A: goes FIRST, ahead of the names: the tables' words, and 'selects' of the private methods out of them =====
/-- a private method of a class that the tables say can be made, by its rows of tables_1 -/
def lw_okq (q : MethodName × Nat) : Prop := (q.1.cls ≠ "java/lang/invoke/MethodHandle" ∧ q.1.cls ≠ "java/lang/invoke/VarHandle") ∧ Cond.instantiable q.1.cls q.2 ∈ tables_1 ∧ Cond.privateMethod q.1 ∈ tables_1 ∧ Cond.instanceMethod q.1 ∈ tables_1
theorem lw_p0 : lw_okq (⟨"HandleToken", "isOpen", "(I)Z"⟩, 7) := ⟨⟨by decide +kernel, by decide +kernel⟩, List.mem_of_getElem? (i := 7) (by decide +kernel), List.mem_of_getElem? (i := 86) (by decide +kernel), List.mem_of_getElem? (i := 87) (by decide +kernel)⟩
theorem lw_p1 : lw_okq (⟨"HandleToken$KeyTable", "removeOwnedBy", "(I)V"⟩, 6) := ⟨⟨by decide +kernel, by decide +kernel⟩, List.mem_of_getElem? (i := 29) (by decide +kernel), List.mem_of_getElem? (i := 94) (by decide +kernel), List.mem_of_getElem? (i := 95) (by decide +kernel)⟩
theorem lw_p2 : lw_okq (⟨"HandleToken$KeyTable", "removeRow", "(I)V"⟩, 6) := ⟨⟨by decide +kernel, by decide +kernel⟩, List.mem_of_getElem? (i := 29) (by decide +kernel), List.mem_of_getElem? (i := 98) (by decide +kernel), List.mem_of_getElem? (i := 99) (by decide +kernel)⟩
theorem lw_p3 : lw_okq (⟨"HandleToken$Role", "tryPin", "(I)I"⟩, 2) := ⟨⟨by decide +kernel, by decide +kernel⟩, List.mem_of_getElem? (i := 15) (by decide +kernel), List.mem_of_getElem? (i := 106) (by decide +kernel), List.mem_of_getElem? (i := 107) (by decide +kernel)⟩
theorem lw_p4 : lw_okq (⟨"HandleToken$KeyTable", "removePrivateSessionKeys", "()V"⟩, 6) := ⟨⟨by decide +kernel, by decide +kernel⟩, List.mem_of_getElem? (i := 29) (by decide +kernel), List.mem_of_getElem? (i := 114) (by decide +kernel), List.mem_of_getElem? (i := 115) (by decide +kernel)⟩
theorem lw_p5 : lw_okq (⟨"HandleToken$KeyTable", "has", "(II)Z"⟩, 6) := ⟨⟨by decide +kernel, by decide +kernel⟩, List.mem_of_getElem? (i := 29) (by decide +kernel), List.mem_of_getElem? (i := 118) (by decide +kernel), List.mem_of_getElem? (i := 119) (by decide +kernel)⟩
theorem lw_p6 : lw_okq (⟨"HandleToken$Role", "renew", "(I)V"⟩, 2) := ⟨⟨by decide +kernel, by decide +kernel⟩, List.mem_of_getElem? (i := 15) (by decide +kernel), List.mem_of_getElem? (i := 126) (by decide +kernel), List.mem_of_getElem? (i := 127) (by decide +kernel)⟩
theorem lw_p7 : lw_okq (⟨"HandleToken", "refusalToMake", "(IIZ)I"⟩, 7) := ⟨⟨by decide +kernel, by decide +kernel⟩, List.mem_of_getElem? (i := 7) (by decide +kernel), List.mem_of_getElem? (i := 134) (by decide +kernel), List.mem_of_getElem? (i := 135) (by decide +kernel)⟩
theorem lw_p8 : lw_okq (⟨"HandleToken", "isReadWrite", "(I)Z"⟩, 7) := ⟨⟨by decide +kernel, by decide +kernel⟩, List.mem_of_getElem? (i := 7) (by decide +kernel), List.mem_of_getElem? (i := 138) (by decide +kernel), List.mem_of_getElem? (i := 139) (by decide +kernel)⟩
theorem lw_p9 : lw_okq (⟨"HandleToken$KeyTable", "add", "(III)I"⟩, 6) := ⟨⟨by decide +kernel, by decide +kernel⟩, List.mem_of_getElem? (i := 29) (by decide +kernel), List.mem_of_getElem? (i := 148) (by decide +kernel), List.mem_of_getElem? (i := 149) (by decide +kernel)⟩
theorem lw_p10 : lw_okq (⟨"HandleToken", "rowOrRefusal", "(II)I"⟩, 7) := ⟨⟨by decide +kernel, by decide +kernel⟩, List.mem_of_getElem? (i := 7) (by decide +kernel), List.mem_of_getElem? (i := 171) (by decide +kernel), List.mem_of_getElem? (i := 172) (by decide +kernel)⟩
theorem lw_p11 : lw_okq (⟨"HandleToken$KeyTable", "rowWith", "(I)I"⟩, 6) := ⟨⟨by decide +kernel, by decide +kernel⟩, List.mem_of_getElem? (i := 29) (by decide +kernel), List.mem_of_getElem? (i := 175) (by decide +kernel), List.mem_of_getElem? (i := 176) (by decide +kernel)⟩
theorem lw_p12 : lw_okq (⟨"HandleToken", "isVisible", "(I)Z"⟩, 7) := ⟨⟨by decide +kernel, by decide +kernel⟩, List.mem_of_getElem? (i := 7) (by decide +kernel), List.mem_of_getElem? (i := 179) (by decide +kernel), List.mem_of_getElem? (i := 180) (by decide +kernel)⟩
theorem lw_p13 : lw_okq (⟨"HandleToken", "isFixedFor", "(II)Z"⟩, 7) := ⟨⟨by decide +kernel, by decide +kernel⟩, List.mem_of_getElem? (i := 7) (by decide +kernel), List.mem_of_getElem? (i := 184) (by decide +kernel), List.mem_of_getElem? (i := 185) (by decide +kernel)⟩
theorem lw_p14 : lw_okq (⟨"HandleToken", "rowForUse", "(III)I"⟩, 7) := ⟨⟨by decide +kernel, by decide +kernel⟩, List.mem_of_getElem? (i := 7) (by decide +kernel), List.mem_of_getElem? (i := 214) (by decide +kernel), List.mem_of_getElem? (i := 215) (by decide +kernel)⟩
theorem lw_p15 : lw_okq (⟨"HandleTokenModel", "closed", "(I)Z"⟩, 10) := ⟨⟨by decide +kernel, by decide +kernel⟩, List.mem_of_getElem? (i := 261) (by decide +kernel), List.mem_of_getElem? (i := 307) (by decide +kernel), List.mem_of_getElem? (i := 308) (by decide +kernel)⟩
def lw_privs_1 : List (MethodName × Nat) := [(⟨"HandleToken", "isOpen", "(I)Z"⟩, 7), (⟨"HandleToken$KeyTable", "removeOwnedBy", "(I)V"⟩, 6), (⟨"HandleToken$KeyTable", "removeRow", "(I)V"⟩, 6), (⟨"HandleToken$Role", "tryPin", "(I)I"⟩, 2), (⟨"HandleToken$KeyTable", "removePrivateSessionKeys", "()V"⟩, 6), (⟨"HandleToken$KeyTable", "has", "(II)Z"⟩, 6), (⟨"HandleToken$Role", "renew", "(I)V"⟩, 2), (⟨"HandleToken", "refusalToMake", "(IIZ)I"⟩, 7), (⟨"HandleToken", "isReadWrite", "(I)Z"⟩, 7), (⟨"HandleToken$KeyTable", "add", "(III)I"⟩, 6), (⟨"HandleToken", "rowOrRefusal", "(II)I"⟩, 7), (⟨"HandleToken$KeyTable", "rowWith", "(I)I"⟩, 6), (⟨"HandleToken", "isVisible", "(I)Z"⟩, 7), (⟨"HandleToken", "isFixedFor", "(II)Z"⟩, 7), (⟨"HandleToken", "rowForUse", "(III)I"⟩, 7), (⟨"HandleTokenModel", "closed", "(I)Z"⟩, 10)]
theorem lw_r1 : ∀ q ∈ lw_privs_1, lw_okq q := List.forall_mem_cons.mpr ⟨lw_p0, List.forall_mem_cons.mpr ⟨lw_p1, List.forall_mem_cons.mpr ⟨lw_p2, List.forall_mem_cons.mpr ⟨lw_p3, List.forall_mem_cons.mpr ⟨lw_p4, List.forall_mem_cons.mpr ⟨lw_p5, List.forall_mem_cons.mpr ⟨lw_p6, List.forall_mem_cons.mpr ⟨lw_p7, List.forall_mem_cons.mpr ⟨lw_p8, List.forall_mem_cons.mpr ⟨lw_p9, List.forall_mem_cons.mpr ⟨lw_p10, List.forall_mem_cons.mpr ⟨lw_p11, List.forall_mem_cons.mpr ⟨lw_p12, List.forall_mem_cons.mpr ⟨lw_p13, List.forall_mem_cons.mpr ⟨lw_p14, List.forall_mem_cons.mpr ⟨lw_p15, fun _ h => absurd h List.not_mem_nil⟩⟩⟩⟩⟩⟩⟩⟩⟩⟩⟩⟩⟩⟩⟩⟩
theorem lw_p16 : lw_okq (⟨"HandleTokenModel", "obstacle", "(IIZ)I"⟩, 10) := ⟨⟨by decide +kernel, by decide +kernel⟩, List.mem_of_getElem? (i := 261) (by decide +kernel), List.mem_of_getElem? (i := 330) (by decide +kernel), List.mem_of_getElem? (i := 331) (by decide +kernel)⟩
theorem lw_p17 : lw_okq (⟨"HandleTokenModel", "readOnly", "(II)Z"⟩, 10) := ⟨⟨by decide +kernel, by decide +kernel⟩, List.mem_of_getElem? (i := 261) (by decide +kernel), List.mem_of_getElem? (i := 334) (by decide +kernel), List.mem_of_getElem? (i := 335) (by decide +kernel)⟩
theorem lw_p18 : lw_okq (⟨"HandleTokenModel", "count", "()I"⟩, 10) := ⟨⟨by decide +kernel, by decide +kernel⟩, List.mem_of_getElem? (i := 261) (by decide +kernel), List.mem_of_getElem? (i := 341) (by decide +kernel), List.mem_of_getElem? (i := 342) (by decide +kernel)⟩
theorem lw_p19 : lw_okq (⟨"HandleTokenModel", "enter", "(III)I"⟩, 10) := ⟨⟨by decide +kernel, by decide +kernel⟩, List.mem_of_getElem? (i := 261) (by decide +kernel), List.mem_of_getElem? (i := 345) (by decide +kernel), List.mem_of_getElem? (i := 346) (by decide +kernel)⟩
theorem lw_p20 : lw_okq (⟨"HandleTokenModel", "hidden", "(I)Z"⟩, 10) := ⟨⟨by decide +kernel, by decide +kernel⟩, List.mem_of_getElem? (i := 261) (by decide +kernel), List.mem_of_getElem? (i := 362) (by decide +kernel), List.mem_of_getElem? (i := 363) (by decide +kernel)⟩
theorem lw_p21 : lw_okq (⟨"HandleTokenModel", "visible", "(I)Z"⟩, 10) := ⟨⟨by decide +kernel, by decide +kernel⟩, List.mem_of_getElem? (i := 261) (by decide +kernel), List.mem_of_getElem? (i := 366) (by decide +kernel), List.mem_of_getElem? (i := 367) (by decide +kernel)⟩
theorem lw_p22 : lw_okq (⟨"HandleTokenModel", "bar", "(IIII)I"⟩, 10) := ⟨⟨by decide +kernel, by decide +kernel⟩, List.mem_of_getElem? (i := 261) (by decide +kernel), List.mem_of_getElem? (i := 386) (by decide +kernel), List.mem_of_getElem? (i := 387) (by decide +kernel)⟩
def lw_privs_2 : List (MethodName × Nat) := [(⟨"HandleTokenModel", "obstacle", "(IIZ)I"⟩, 10), (⟨"HandleTokenModel", "readOnly", "(II)Z"⟩, 10), (⟨"HandleTokenModel", "count", "()I"⟩, 10), (⟨"HandleTokenModel", "enter", "(III)I"⟩, 10), (⟨"HandleTokenModel", "hidden", "(I)Z"⟩, 10), (⟨"HandleTokenModel", "visible", "(I)Z"⟩, 10), (⟨"HandleTokenModel", "bar", "(IIII)I"⟩, 10)]
theorem lw_r2 : ∀ q ∈ lw_privs_2, lw_okq q := List.forall_mem_cons.mpr ⟨lw_p16, List.forall_mem_cons.mpr ⟨lw_p17, List.forall_mem_cons.mpr ⟨lw_p18, List.forall_mem_cons.mpr ⟨lw_p19, List.forall_mem_cons.mpr ⟨lw_p20, List.forall_mem_cons.mpr ⟨lw_p21, List.forall_mem_cons.mpr ⟨lw_p22, fun _ h => absurd h List.not_mem_nil⟩⟩⟩⟩⟩⟩⟩
def lw_privs : List (MethodName × Nat) := lw_privs_1 ++ (lw_privs_2)
def lw_tbl : List Cond := k2_sels lw_privs ++ tables_1
theorem lw_privs_ok : ∀ q ∈ lw_privs, lw_okq q := by
  show ∀ q ∈ lw_privs_1 ++ (lw_privs_2), lw_okq q
  exact List.forall_mem_append.mpr ⟨lw_r1, lw_r2⟩
-- ===== end of PART A; then your names; then what follows =====
/-! THE CLAIM OUT OF ONE WALK OF THE LAW'S BODY. Your part is whole_start (and what it stands on); all else here is the same for every law, but numbers. -/
def R_law : String := "HandleTokenLaw"
def lw_P (b : Addr) (xs : List Int32) (args : Array Value) (s : State) : Prop := args = #[.ref b] ∧ s.IntsAt b xs ∧ xs.length ≤ 3074 ∧ (Jvm.Cond.and given_1 narrow_1).before args s = true
def lw_Q (_ : Array Value) (s : State) (o : Outcome) (t : State) : Prop := o = .returned (some (.int 1)) ∧ Framed s o t [] 16 2124
def lw_Z (below : List Frame) (a : Array Value) (s : State) : State → Prop := fun t => ∃ o, t.status = .running ∧ Ended t below o ∧ lw_Q a s o t
/-- the law's own end, with 1 on the stack, nothing written that was there before, its room as the claim has it -/
theorem lw_ret {p : Program} {l : Launch} {e : Env} {s : State} {m : MethodId} {below : List Frame} {meth : Method} {c : Code} {b : Nat} (hx : p.tables.exec = Jvm.exec) (hb : c.code = code) (hr : meth.sig.returnType = ret) (hlocks : meth.locks = false) {pc : Nat} {H : Heap} {ls : Array Slot} (hdg : decode code pc = .ok (.ireturn, 1)) : W p l e room_1 s m #[Value.ref b] below meth c H [] 16 2124 (lw_Z below #[Value.ref b] s) (F0 m pc ls [.int 1]) := by
  intro T hT X
  obtain ⟨fs, hret, hrun, hended, hW, hframe⟩ := X.leave (v := some (.int 1)) (hlocks := hlocks) (fun h => by rw [hr] at h; cases h)
  have hmeth' : T.vm.method? m = some meth := X.method'
  refine ⟨T.setFrames fs, ?_, .returned (some (.int 1)), hrun, hended, rfl, ⟨_, rfl⟩, hW, hframe⟩
  jvm_step X.here [X.here.top, hx, hb, hdg, hmeth', hr, ret, narrow_b1]
  (try refine ⟨rfl, ?_⟩); (try refine ⟨rfl, ?_⟩)
  first | (intro acts; rw [hret _ acts rfl rfl rfl]) | rw [hret _ _ rfl rfl rfl]
  exact Steps.refl _
/-- what holds at the law's entry: the machine, the code, the tables' words (any of lw_tbl by 'hts w (by decide +kernel)'), the script of L ints xs at the cell b, what the Statement gives of the start (any of its parts by flat_of_before) -/
def lw_At (p : Program) (s : State) (m : MethodId) (meth : Method) (c : Code) (b L : Nat) (xs : Nat → Int32) : Prop :=
  p.tables.exec = Jvm.exec ∧ c.code = code ∧ meth.sig.returnType = ret ∧ c.maxLocals = 4 ∧ s.vm.findClass R_law = some m.cls ∧ (∀ w ∈ lw_tbl, w.before #[Value.ref b] s = true) ∧ va_X b L xs s s.heap ∧ b < s.heap.size ∧ meth.locks = false ∧ (Jvm.Cond.and given_1 narrow_1).before #[Value.ref b] s = true
/-- the words of the tables that hold in a callee too -/
def lw_g : List Cond := lw_tbl.filter goodWord
def cnT : String := "HandleToken"
def ftT : u_T := fun k => match k with
  | 0 => ("HandleToken", "userRole", "LHandleToken$Role;", true)
  | 1 => ("HandleToken", "officerRole", "LHandleToken$Role;", true)
  | 2 => ("HandleToken", "keys", "LHandleToken$KeyTable;", true)
  | 3 => ("HandleToken", "loggedIn", "I", false)
  | 4 => ("HandleToken", "generatedCount", "I", false)
  | 5 => ("HandleToken", "openSessions", "I", false)
  | _ => ("HandleToken", "readWriteSessions", "I", false)
def tyT : Nat → FieldType := fun k => match k with
  | 0 => (.object "HandleToken$Role")
  | 1 => (.object "HandleToken$Role")
  | 2 => (.object "HandleToken$KeyTable")
  | 3 => (.int)
  | 4 => (.int)
  | 5 => (.int)
  | _ => (.int)
theorem nmT : ∀ a, a < 7 → ∀ b, b < 7 → a ≠ b → (ftT a).2.1 ≠ (ftT b).2.1 := by decide +kernel
theorem tyT_ok : ∀ k, k < 7 → parseFieldDescriptor (ftT k).2.2.1 = some (tyT k) := by decide +kernel
theorem inT : ∀ w ∈ u_ws cnT ftT 7, w ∈ lw_g := by decide +kernel
def cnR : String := "HandleToken$Role"
def ftR : u_T := fun k => match k with
  | 0 => ("HandleToken$Role", "pin", "I", false)
  | _ => ("HandleToken$Role", "failures", "I", false)
def tyR : Nat → FieldType := fun k => match k with
  | 0 => (.int)
  | _ => (.int)
theorem nmR : ∀ a, a < 2 → ∀ b, b < 2 → a ≠ b → (ftR a).2.1 ≠ (ftR b).2.1 := by decide +kernel
theorem tyR_ok : ∀ k, k < 2 → parseFieldDescriptor (ftR k).2.2.1 = some (tyR k) := by decide +kernel
theorem inR : ∀ w ∈ u_ws cnR ftR 2, w ∈ lw_g := by decide +kernel
def cnK : String := "HandleToken$KeyTable"
def ftK : u_T := fun k => match k with
  | 0 => ("HandleToken$KeyTable", "handleOf", "[I", true)
  | 1 => ("HandleToken$KeyTable", "attributesOf", "[I", true)
  | 2 => ("HandleToken$KeyTable", "valueOf", "[I", true)
  | 3 => ("HandleToken$KeyTable", "ownerOf", "[I", true)
  | 4 => ("HandleToken$KeyTable", "size", "I", false)
  | _ => ("HandleToken$KeyTable", "made", "I", false)
def tyK : Nat → FieldType := fun k => match k with
  | 0 => (.array .int)
  | 1 => (.array .int)
  | 2 => (.array .int)
  | 3 => (.array .int)
  | 4 => (.int)
  | _ => (.int)
theorem nmK : ∀ a, a < 6 → ∀ b, b < 6 → a ≠ b → (ftK a).2.1 ≠ (ftK b).2.1 := by decide +kernel
theorem tyK_ok : ∀ k, k < 6 → parseFieldDescriptor (ftK k).2.2.1 = some (tyK k) := by decide +kernel
theorem inK : ∀ w ∈ u_ws cnK ftK 6, w ∈ lw_g := by decide +kernel
def cnM : String := "HandleTokenModel"
def ftM : u_T := fun k => match k with
  | 0 => ("HandleTokenModel", "session", "[I", false)
  | 1 => ("HandleTokenModel", "inside", "I", false)
  | 2 => ("HandleTokenModel", "pins", "[I", false)
  | 3 => ("HandleTokenModel", "failures", "[I", false)
  | 4 => ("HandleTokenModel", "made", "I", false)
  | 5 => ("HandleTokenModel", "generated", "I", false)
  | 6 => ("HandleTokenModel", "there", "[Z", false)
  | 7 => ("HandleTokenModel", "value", "[I", false)
  | 8 => ("HandleTokenModel", "owner", "[I", false)
  | _ => ("HandleTokenModel", "marks", "[I", false)
def tyM : Nat → FieldType := fun k => match k with
  | 0 => (.array .int)
  | 1 => (.int)
  | 2 => (.array .int)
  | 3 => (.array .int)
  | 4 => (.int)
  | 5 => (.int)
  | 6 => (.array .boolean)
  | 7 => (.array .int)
  | 8 => (.array .int)
  | _ => (.array .int)
theorem nmM : ∀ a, a < 10 → ∀ b, b < 10 → a ≠ b → (ftM a).2.1 ≠ (ftM b).2.1 := by decide +kernel
theorem tyM_ok : ∀ k, k < 10 → parseFieldDescriptor (ftM k).2.2.1 = some (tyM k) := by decide +kernel
theorem inM : ∀ w ∈ u_ws cnM ftM 10, w ∈ lw_g := by decide +kernel
def cnW : String := "HandleToken$Words"
abbrev vwCl : List vw_C := [(cnT, ftT, 7), (cnR, ftR, 2), (cnK, ftK, 6), (cnM, ftM, 10)]
abbrev cT_init : ByteArray := prog_1_method_1_code
def yT_init : MethodName := ⟨cnT, "<init>", "(II)V"⟩
def wsT_init : List Cond := .code yT_init cT_init 3 none :: lw_g
abbrev cT_open : ByteArray := prog_1_method_2_code
def yT_open : MethodName := ⟨cnT, "open", "(Z)I"⟩
def wsT_open : List Cond := .code yT_open cT_open 3 (some .int) :: lw_g
abbrev cT_close : ByteArray := prog_1_method_3_code
def yT_close : MethodName := ⟨cnT, "close", "(I)I"⟩
def wsT_close : List Cond := .code yT_close cT_close 2 (some .int) :: lw_g
abbrev cT_login : ByteArray := prog_1_method_4_code
def yT_login : MethodName := ⟨cnT, "login", "(IZI)I"⟩
def wsT_login : List Cond := .code yT_login cT_login 6 (some .int) :: lw_g
abbrev cT_logout : ByteArray := prog_1_method_5_code
def yT_logout : MethodName := ⟨cnT, "logout", "(I)I"⟩
def wsT_logout : List Cond := .code yT_logout cT_logout 2 (some .int) :: lw_g
abbrev cT_unlock : ByteArray := prog_1_method_6_code
def yT_unlock : MethodName := ⟨cnT, "unlock", "(II)I"⟩
def wsT_unlock : List Cond := .code yT_unlock cT_unlock 3 (some .int) :: lw_g
abbrev cT_create : ByteArray := prog_1_method_7_code
def yT_create : MethodName := ⟨cnT, "create", "(III)I"⟩
def wsT_create : List Cond := .code yT_create cT_create 5 (some .int) :: lw_g
abbrev cT_generate : ByteArray := prog_1_method_8_code
def yT_generate : MethodName := ⟨cnT, "generate", "(II)I"⟩
def wsT_generate : List Cond := .code yT_generate cT_generate 5 (some .int) :: lw_g
abbrev cT_destroy : ByteArray := prog_1_method_9_code
def yT_destroy : MethodName := ⟨cnT, "destroy", "(II)I"⟩
def wsT_destroy : List Cond := .code yT_destroy cT_destroy 4 (some .int) :: lw_g
abbrev cT_attributes : ByteArray := prog_1_method_10_code
def yT_attributes : MethodName := ⟨cnT, "attributes", "(II)I"⟩
def wsT_attributes : List Cond := .code yT_attributes cT_attributes 4 (some .int) :: lw_g
abbrev cT_limit : ByteArray := prog_1_method_11_code
def yT_limit : MethodName := ⟨cnT, "limit", "(III)I"⟩
def wsT_limit : List Cond := .code yT_limit cT_limit 6 (some .int) :: lw_g
abbrev cT_trust : ByteArray := prog_1_method_12_code
def yT_trust : MethodName := ⟨cnT, "trust", "(II)I"⟩
def wsT_trust : List Cond := .code yT_trust cT_trust 4 (some .int) :: lw_g
abbrev cT_read : ByteArray := prog_1_method_13_code
def yT_read : MethodName := ⟨cnT, "read", "(II)J"⟩
def wsT_read : List Cond := .code yT_read cT_read 4 (some .long) :: lw_g
abbrev cT_encrypt : ByteArray := prog_1_method_14_code
def yT_encrypt : MethodName := ⟨cnT, "encrypt", "(III)J"⟩
def wsT_encrypt : List Cond := .code yT_encrypt cT_encrypt 5 (some .long) :: lw_g
abbrev cT_decrypt : ByteArray := prog_1_method_15_code
def yT_decrypt : MethodName := ⟨cnT, "decrypt", "(III)J"⟩
def wsT_decrypt : List Cond := .code yT_decrypt cT_decrypt 5 (some .long) :: lw_g
abbrev cT_sign : ByteArray := prog_1_method_16_code
def yT_sign : MethodName := ⟨cnT, "sign", "(III)J"⟩
def wsT_sign : List Cond := .code yT_sign cT_sign 5 (some .long) :: lw_g
abbrev cT_wrap : ByteArray := prog_1_method_17_code
def yT_wrap : MethodName := ⟨cnT, "wrap", "(III)J"⟩
def wsT_wrap : List Cond := .code yT_wrap cT_wrap 9 (some .long) :: lw_g
abbrev cT_unwrap : ByteArray := prog_1_method_18_code
def yT_unwrap : MethodName := ⟨cnT, "unwrap", "(IIJI)I"⟩
def wsT_unwrap : List Cond := .code yT_unwrap cT_unwrap 11 (some .int) :: lw_g
abbrev cT_find : ByteArray := prog_1_method_19_code
def yT_find : MethodName := ⟨cnT, "find", "(II)I"⟩
def wsT_find : List Cond := .code yT_find cT_find 5 (some .int) :: lw_g
abbrev cT_status : ByteArray := prog_1_method_20_code
def yT_status : MethodName := ⟨cnT, "status", "(I)I"⟩
def wsT_status : List Cond := .code yT_status cT_status 2 (some .int) :: lw_g
abbrev cT_isOpen : ByteArray := prog_1_method_21_code
def yT_isOpen : MethodName := ⟨cnT, "isOpen", "(I)Z"⟩
def wsT_isOpen : List Cond := .code yT_isOpen cT_isOpen 2 (some .boolean) :: lw_g
abbrev cT_isReadWrite : ByteArray := prog_1_method_22_code
def yT_isReadWrite : MethodName := ⟨cnT, "isReadWrite", "(I)Z"⟩
def wsT_isReadWrite : List Cond := .code yT_isReadWrite cT_isReadWrite 2 (some .boolean) :: lw_g
abbrev cT_isVisible : ByteArray := prog_1_method_23_code
def yT_isVisible : MethodName := ⟨cnT, "isVisible", "(I)Z"⟩
def wsT_isVisible : List Cond := .code yT_isVisible cT_isVisible 2 (some .boolean) :: lw_g
abbrev cT_isFixedFor : ByteArray := prog_1_method_24_code
def yT_isFixedFor : MethodName := ⟨cnT, "isFixedFor", "(II)Z"⟩
def wsT_isFixedFor : List Cond := .code yT_isFixedFor cT_isFixedFor 3 (some .boolean) :: lw_g
abbrev cT_rowOrRefusal : ByteArray := prog_1_method_25_code
def yT_rowOrRefusal : MethodName := ⟨cnT, "rowOrRefusal", "(II)I"⟩
def wsT_rowOrRefusal : List Cond := .code yT_rowOrRefusal cT_rowOrRefusal 4 (some .int) :: lw_g
abbrev cT_rowForUse : ByteArray := prog_1_method_26_code
def yT_rowForUse : MethodName := ⟨cnT, "rowForUse", "(III)I"⟩
def wsT_rowForUse : List Cond := .code yT_rowForUse cT_rowForUse 5 (some .int) :: lw_g
abbrev cT_refusalToMake : ByteArray := prog_1_method_27_code
def yT_refusalToMake : MethodName := ⟨cnT, "refusalToMake", "(IIZ)I"⟩
def wsT_refusalToMake : List Cond := .code yT_refusalToMake cT_refusalToMake 4 (some .int) :: lw_g
abbrev cT_areGood : ByteArray := prog_1_method_28_code
def yT_areGood : MethodName := ⟨cnT, "areGood", "(I)Z"⟩
def wsT_areGood : List Cond := .code yT_areGood cT_areGood 1 (some .boolean) :: lw_g
abbrev cT_hasBoth : ByteArray := prog_1_method_29_code
def yT_hasBoth : MethodName := ⟨cnT, "hasBoth", "(III)Z"⟩
def wsT_hasBoth : List Cond := .code yT_hasBoth cT_hasBoth 3 (some .boolean) :: lw_g
abbrev cT_originOf : ByteArray := prog_1_method_30_code
def yT_originOf : MethodName := ⟨cnT, "originOf", "(I)I"⟩
def wsT_originOf : List Cond := .code yT_originOf cT_originOf 3 (some .int) :: lw_g
abbrev cT_answered : ByteArray := prog_1_method_31_code
def yT_answered : MethodName := ⟨cnT, "answered", "(I)J"⟩
def wsT_answered : List Cond := .code yT_answered cT_answered 1 (some .long) :: lw_g
abbrev cT_tagOf : ByteArray := prog_1_method_32_code
def yT_tagOf : MethodName := ⟨cnT, "tagOf", "(II)J"⟩
def wsT_tagOf : List Cond := .code yT_tagOf cT_tagOf 2 (some .long) :: lw_g
abbrev cR_init : ByteArray := prog_3_method_1_code
def yR_init : MethodName := ⟨cnR, "<init>", "(I)V"⟩
def wsR_init : List Cond := .code yR_init cR_init 2 none :: lw_g
abbrev cR_tryPin : ByteArray := prog_3_method_2_code
def yR_tryPin : MethodName := ⟨cnR, "tryPin", "(I)I"⟩
def wsR_tryPin : List Cond := .code yR_tryPin cR_tryPin 2 (some .int) :: lw_g
abbrev cR_renew : ByteArray := prog_3_method_3_code
def yR_renew : MethodName := ⟨cnR, "renew", "(I)V"⟩
def wsR_renew : List Cond := .code yR_renew cR_renew 2 none :: lw_g
abbrev cK_init : ByteArray := prog_2_method_1_code
def yK_init : MethodName := ⟨cnK, "<init>", "()V"⟩
def wsK_init : List Cond := .code yK_init cK_init 1 none :: lw_g
abbrev cK_has : ByteArray := prog_2_method_2_code
def yK_has : MethodName := ⟨cnK, "has", "(II)Z"⟩
def wsK_has : List Cond := .code yK_has cK_has 3 (some .boolean) :: lw_g
abbrev cK_rowWith : ByteArray := prog_2_method_3_code
def yK_rowWith : MethodName := ⟨cnK, "rowWith", "(I)I"⟩
def wsK_rowWith : List Cond := .code yK_rowWith cK_rowWith 3 (some .int) :: lw_g
abbrev cK_add : ByteArray := prog_2_method_4_code
def yK_add : MethodName := ⟨cnK, "add", "(III)I"⟩
def wsK_add : List Cond := .code yK_add cK_add 4 (some .int) :: lw_g
abbrev cK_removeRow : ByteArray := prog_2_method_5_code
def yK_removeRow : MethodName := ⟨cnK, "removeRow", "(I)V"⟩
def wsK_removeRow : List Cond := .code yK_removeRow cK_removeRow 3 none :: lw_g
abbrev cK_removeOwnedBy : ByteArray := prog_2_method_6_code
def yK_removeOwnedBy : MethodName := ⟨cnK, "removeOwnedBy", "(I)V"⟩
def wsK_removeOwnedBy : List Cond := .code yK_removeOwnedBy cK_removeOwnedBy 3 none :: lw_g
abbrev cK_removePrivateSessionKeys : ByteArray := prog_2_method_7_code
def yK_removePrivateSessionKeys : MethodName := ⟨cnK, "removePrivateSessionKeys", "()V"⟩
def wsK_removePrivateSessionKeys : List Cond := .code yK_removePrivateSessionKeys cK_removePrivateSessionKeys 2 none :: lw_g
abbrev cW_half : ByteArray := prog_4_method_2_code
def yW_half : MethodName := ⟨cnW, "half", "(III)I"⟩
def wsW_half : List Cond := .code yW_half cW_half 4 (some .int) :: lw_g
abbrev cW_enc : ByteArray := prog_4_method_3_code
def yW_enc : MethodName := ⟨cnW, "enc", "(II)I"⟩
def wsW_enc : List Cond := .code yW_enc cW_enc 6 (some .int) :: lw_g
abbrev cW_dec : ByteArray := prog_4_method_4_code
def yW_dec : MethodName := ⟨cnW, "dec", "(II)I"⟩
def wsW_dec : List Cond := .code yW_dec cW_dec 6 (some .int) :: lw_g
abbrev cW_mac : ByteArray := prog_4_method_5_code
def yW_mac : MethodName := ⟨cnW, "mac", "(II)I"⟩
def wsW_mac : List Cond := .code yW_mac cW_mac 4 (some .int) :: lw_g
abbrev cW_byteOf : ByteArray := prog_4_method_6_code
def yW_byteOf : MethodName := ⟨cnW, "byteOf", "(II)I"⟩
def wsW_byteOf : List Cond := .code yW_byteOf cW_byteOf 2 (some .int) :: lw_g
abbrev cM_init : ByteArray := prog_6_method_1_code
def yM_init : MethodName := ⟨cnM, "<init>", "(II)V"⟩
def wsM_init : List Cond := .code yM_init cM_init 3 none :: lw_g
abbrev cM_has : ByteArray := prog_6_method_2_code
def yM_has : MethodName := ⟨cnM, "has", "(II)Z"⟩
def wsM_has : List Cond := .code yM_has cM_has 2 (some .boolean) :: lw_g
abbrev cM_half : ByteArray := prog_6_method_3_code
def yM_half : MethodName := ⟨cnM, "half", "(III)I"⟩
def wsM_half : List Cond := .code yM_half cM_half 4 (some .int) :: lw_g
abbrev cM_rounds : ByteArray := prog_6_method_4_code
def yM_rounds : MethodName := ⟨cnM, "rounds", "(IIZ)I"⟩
def wsM_rounds : List Cond := .code yM_rounds cM_rounds 7 (some .int) :: lw_g
abbrev cM_mac : ByteArray := prog_6_method_5_code
def yM_mac : MethodName := ⟨cnM, "mac", "(II)I"⟩
def wsM_mac : List Cond := .code yM_mac cM_mac 4 (some .int) :: lw_g
abbrev cM_answer : ByteArray := prog_6_method_6_code
def yM_answer : MethodName := ⟨cnM, "answer", "(I)J"⟩
def wsM_answer : List Cond := .code yM_answer cM_answer 1 (some .long) :: lw_g
abbrev cM_closed : ByteArray := prog_6_method_7_code
def yM_closed : MethodName := ⟨cnM, "closed", "(I)Z"⟩
def wsM_closed : List Cond := .code yM_closed cM_closed 2 (some .boolean) :: lw_g
abbrev cM_visible : ByteArray := prog_6_method_8_code
def yM_visible : MethodName := ⟨cnM, "visible", "(I)Z"⟩
def wsM_visible : List Cond := .code yM_visible cM_visible 2 (some .boolean) :: lw_g
abbrev cM_hidden : ByteArray := prog_6_method_9_code
def yM_hidden : MethodName := ⟨cnM, "hidden", "(I)Z"⟩
def wsM_hidden : List Cond := .code yM_hidden cM_hidden 2 (some .boolean) :: lw_g
abbrev cM_readOnly : ByteArray := prog_6_method_10_code
def yM_readOnly : MethodName := ⟨cnM, "readOnly", "(II)Z"⟩
def wsM_readOnly : List Cond := .code yM_readOnly cM_readOnly 3 (some .boolean) :: lw_g
abbrev cM_count : ByteArray := prog_6_method_11_code
def yM_count : MethodName := ⟨cnM, "count", "()I"⟩
def wsM_count : List Cond := .code yM_count cM_count 3 (some .int) :: lw_g
abbrev cM_good : ByteArray := prog_6_method_12_code
def yM_good : MethodName := ⟨cnM, "good", "(I)Z"⟩
def wsM_good : List Cond := .code yM_good cM_good 1 (some .boolean) :: lw_g
abbrev cM_obstacle : ByteArray := prog_6_method_13_code
def yM_obstacle : MethodName := ⟨cnM, "obstacle", "(IIZ)I"⟩
def wsM_obstacle : List Cond := .code yM_obstacle cM_obstacle 4 (some .int) :: lw_g
abbrev cM_enter : ByteArray := prog_6_method_14_code
def yM_enter : MethodName := ⟨cnM, "enter", "(III)I"⟩
def wsM_enter : List Cond := .code yM_enter cM_enter 4 (some .int) :: lw_g
abbrev cM_open : ByteArray := prog_6_method_15_code
def yM_open : MethodName := ⟨cnM, "open", "(Z)I"⟩
def wsM_open : List Cond := .code yM_open cM_open 3 (some .int) :: lw_g
abbrev cM_close : ByteArray := prog_6_method_16_code
def yM_close : MethodName := ⟨cnM, "close", "(I)I"⟩
def wsM_close : List Cond := .code yM_close cM_close 3 (some .int) :: lw_g
abbrev cM_login : ByteArray := prog_6_method_17_code
def yM_login : MethodName := ⟨cnM, "login", "(IZI)I"⟩
def wsM_login : List Cond := .code yM_login cM_login 5 (some .int) :: lw_g
abbrev cM_logout : ByteArray := prog_6_method_18_code
def yM_logout : MethodName := ⟨cnM, "logout", "(I)I"⟩
def wsM_logout : List Cond := .code yM_logout cM_logout 3 (some .int) :: lw_g
abbrev cM_unlock : ByteArray := prog_6_method_19_code
def yM_unlock : MethodName := ⟨cnM, "unlock", "(II)I"⟩
def wsM_unlock : List Cond := .code yM_unlock cM_unlock 3 (some .int) :: lw_g
abbrev cM_create : ByteArray := prog_6_method_20_code
def yM_create : MethodName := ⟨cnM, "create", "(III)I"⟩
def wsM_create : List Cond := .code yM_create cM_create 5 (some .int) :: lw_g
abbrev cM_generate : ByteArray := prog_6_method_21_code
def yM_generate : MethodName := ⟨cnM, "generate", "(II)I"⟩
def wsM_generate : List Cond := .code yM_generate cM_generate 6 (some .int) :: lw_g
abbrev cM_destroy : ByteArray := prog_6_method_22_code
def yM_destroy : MethodName := ⟨cnM, "destroy", "(II)I"⟩
def wsM_destroy : List Cond := .code yM_destroy cM_destroy 3 (some .int) :: lw_g
abbrev cM_attributes : ByteArray := prog_6_method_23_code
def yM_attributes : MethodName := ⟨cnM, "attributes", "(II)I"⟩
def wsM_attributes : List Cond := .code yM_attributes cM_attributes 3 (some .int) :: lw_g
abbrev cM_limit : ByteArray := prog_6_method_24_code
def yM_limit : MethodName := ⟨cnM, "limit", "(III)I"⟩
def wsM_limit : List Cond := .code yM_limit cM_limit 6 (some .int) :: lw_g
abbrev cM_trust : ByteArray := prog_6_method_25_code
def yM_trust : MethodName := ⟨cnM, "trust", "(II)I"⟩
def wsM_trust : List Cond := .code yM_trust cM_trust 3 (some .int) :: lw_g
abbrev cM_bar : ByteArray := prog_6_method_26_code
def yM_bar : MethodName := ⟨cnM, "bar", "(IIII)I"⟩
def wsM_bar : List Cond := .code yM_bar cM_bar 6 (some .int) :: lw_g
abbrev cM_read : ByteArray := prog_6_method_27_code
def yM_read : MethodName := ⟨cnM, "read", "(II)J"⟩
def wsM_read : List Cond := .code yM_read cM_read 4 (some .long) :: lw_g
abbrev cM_encrypt : ByteArray := prog_6_method_28_code
def yM_encrypt : MethodName := ⟨cnM, "encrypt", "(III)J"⟩
def wsM_encrypt : List Cond := .code yM_encrypt cM_encrypt 5 (some .long) :: lw_g
abbrev cM_decrypt : ByteArray := prog_6_method_29_code
def yM_decrypt : MethodName := ⟨cnM, "decrypt", "(III)J"⟩
def wsM_decrypt : List Cond := .code yM_decrypt cM_decrypt 5 (some .long) :: lw_g
abbrev cM_sign : ByteArray := prog_6_method_30_code
def yM_sign : MethodName := ⟨cnM, "sign", "(III)J"⟩
def wsM_sign : List Cond := .code yM_sign cM_sign 5 (some .long) :: lw_g
abbrev cM_wrap : ByteArray := prog_6_method_31_code
def yM_wrap : MethodName := ⟨cnM, "wrap", "(III)J"⟩
def wsM_wrap : List Cond := .code yM_wrap cM_wrap 8 (some .long) :: lw_g
abbrev cM_unwrap : ByteArray := prog_6_method_32_code
def yM_unwrap : MethodName := ⟨cnM, "unwrap", "(IIJI)I"⟩
def wsM_unwrap : List Cond := .code yM_unwrap cM_unwrap 11 (some .int) :: lw_g
abbrev cM_find : ByteArray := prog_6_method_33_code
def yM_find : MethodName := ⟨cnM, "find", "(II)I"⟩
def wsM_find : List Cond := .code yM_find cM_find 5 (some .int) :: lw_g
abbrev cM_status : ByteArray := prog_6_method_34_code
def yM_status : MethodName := ⟨cnM, "status", "(I)I"⟩
def wsM_status : List Cond := .code yM_status cM_status 4 (some .int) :: lw_g
abbrev cL_cell : ByteArray := method_2_code
def yL_cell : MethodName := ⟨R_law, "cell", "([II)I"⟩
def wsL_cell : List Cond := .code yL_cell cL_cell 2 (some .int) :: lw_g
theorem lw_good : ∀ w ∈ lw_g, (w.onTables && w.keeps) = true ∨ ∃ ty, w = .arrayClass ty := fun w h => good_of_word (List.mem_filter.mp h).2
theorem lw_goodIn {c : Cond} (hc : c ∈ lw_g) : GoodIn lw_g (c :: lw_g) := fun w h => (List.mem_cons.mp h).elim (fun e => by rw [e]; exact ⟨hc, lw_good c hc⟩) (fun h => ⟨h, lw_good w h⟩)
/-- links to private members of a nest mate: they go from caller to callee by the contract -/
def lw_n : List Cond := [.methodLinkNest cnT 67 yW_mac "HandleToken", .methodLinkNest cnT 90 yK_has "HandleToken", .methodLinkNest cnT 133 yK_rowWith "HandleToken", .fieldLinkNest cnT 115 "HandleToken$KeyTable" "size" "I" "HandleToken", .methodLinkNest cnT 42 yK_removeOwnedBy "HandleToken", .methodLinkNest cnT 45 yR_tryPin "HandleToken", .methodLinkNest cnT 49 yK_removePrivateSessionKeys "HandleToken", .methodLinkNest cnT 52 yR_renew "HandleToken", .methodLinkNest cnT 59 yK_add "HandleToken", .methodLinkNest cnT 83 yK_removeRow "HandleToken", .fieldLinkNest cnT 86 "HandleToken$KeyTable" "attributesOf" "[I" "HandleToken", .fieldLinkNest cnT 95 "HandleToken$KeyTable" "valueOf" "[I" "HandleToken", .methodLinkNest cnT 105 yW_enc "HandleToken", .methodLinkNest cnT 108 yW_dec "HandleToken", .fieldLinkNest cnT 121 "HandleToken$KeyTable" "handleOf" "[I" "HandleToken", .fieldLinkNest cnT 124 "HandleToken$Role" "failures" "I" "HandleToken", .fieldLinkNest cnT 127 "HandleToken$KeyTable" "made" "I" "HandleToken", .methodLinkNest cnT 11 yR_init "HandleToken", .methodLinkNest cnT 23 yK_init "HandleToken"]
theorem mw179 : (.methodLinkNest cnT 67 yW_mac "HandleToken" : Cond) ∈ lw_n := List.mem_of_getElem? (i := 0) rfl
theorem mw205 : (.methodLinkNest cnT 90 yK_has "HandleToken" : Cond) ∈ lw_n := List.mem_of_getElem? (i := 1) rfl
theorem mw197 : (.methodLinkNest cnT 133 yK_rowWith "HandleToken" : Cond) ∈ lw_n := List.mem_of_getElem? (i := 2) rfl
theorem mw65 : (.fieldLinkNest cnT 115 "HandleToken$KeyTable" "size" "I" "HandleToken" : Cond) ∈ lw_n := List.mem_of_getElem? (i := 3) rfl
theorem mw116 : (.methodLinkNest cnT 42 yK_removeOwnedBy "HandleToken" : Cond) ∈ lw_n := List.mem_of_getElem? (i := 4) rfl
theorem mw128 : (.methodLinkNest cnT 45 yR_tryPin "HandleToken" : Cond) ∈ lw_n := List.mem_of_getElem? (i := 5) rfl
theorem mw136 : (.methodLinkNest cnT 49 yK_removePrivateSessionKeys "HandleToken" : Cond) ∈ lw_n := List.mem_of_getElem? (i := 6) rfl
theorem mw148 : (.methodLinkNest cnT 52 yR_renew "HandleToken" : Cond) ∈ lw_n := List.mem_of_getElem? (i := 7) rfl
theorem mw170 : (.methodLinkNest cnT 59 yK_add "HandleToken" : Cond) ∈ lw_n := List.mem_of_getElem? (i := 8) rfl
theorem mw210 : (.methodLinkNest cnT 83 yK_removeRow "HandleToken" : Cond) ∈ lw_n := List.mem_of_getElem? (i := 9) rfl
theorem mw60 : (.fieldLinkNest cnT 86 "HandleToken$KeyTable" "attributesOf" "[I" "HandleToken" : Cond) ∈ lw_n := List.mem_of_getElem? (i := 10) rfl
theorem mw62 : (.fieldLinkNest cnT 95 "HandleToken$KeyTable" "valueOf" "[I" "HandleToken" : Cond) ∈ lw_n := List.mem_of_getElem? (i := 11) rfl
theorem mw240 : (.methodLinkNest cnT 105 yW_enc "HandleToken" : Cond) ∈ lw_n := List.mem_of_getElem? (i := 12) rfl
theorem mw253 : (.methodLinkNest cnT 108 yW_dec "HandleToken" : Cond) ∈ lw_n := List.mem_of_getElem? (i := 13) rfl
theorem mw58 : (.fieldLinkNest cnT 121 "HandleToken$KeyTable" "handleOf" "[I" "HandleToken" : Cond) ∈ lw_n := List.mem_of_getElem? (i := 14) rfl
theorem mw45 : (.fieldLinkNest cnT 124 "HandleToken$Role" "failures" "I" "HandleToken" : Cond) ∈ lw_n := List.mem_of_getElem? (i := 15) rfl
theorem mw67 : (.fieldLinkNest cnT 127 "HandleToken$KeyTable" "made" "I" "HandleToken" : Cond) ∈ lw_n := List.mem_of_getElem? (i := 16) rfl
theorem mw39 : (.methodLinkNest cnT 11 yR_init "HandleToken" : Cond) ∈ lw_n := List.mem_of_getElem? (i := 17) rfl
theorem mw53 : (.methodLinkNest cnT 23 yK_init "HandleToken" : Cond) ∈ lw_n := List.mem_of_getElem? (i := 18) rfl
theorem lw_n_in : ∀ w ∈ lw_n, w ∈ lw_tbl := by decide +kernel
theorem mw247 : (.constant cnW 7 (40503) : Cond) ∈ lw_g := List.mem_filter.mpr ⟨List.mem_of_getElem? (i := 247) (by decide +kernel), by decide +kernel⟩
theorem mw182 : (.methodLink cnW 8 yW_byteOf : Cond) ∈ lw_g := List.mem_filter.mpr ⟨List.mem_of_getElem? (i := 182) (by decide +kernel), by decide +kernel⟩
theorem mw184 : (.code yW_byteOf cW_byteOf 2 (some .int) : Cond) ∈ lw_g := List.mem_filter.mpr ⟨List.mem_of_getElem? (i := 184) (by decide +kernel), by decide +kernel⟩
theorem mw28 : (.initialized cnW : Cond) ∈ lw_g := List.mem_filter.mpr ⟨List.mem_of_getElem? (i := 28) (by decide +kernel), by decide +kernel⟩
theorem mw183 : (.static yW_byteOf : Cond) ∈ lw_g := List.mem_filter.mpr ⟨List.mem_of_getElem? (i := 183) (by decide +kernel), by decide +kernel⟩
theorem mw243 : (.constant cnW 14 (65535) : Cond) ∈ lw_g := List.mem_filter.mpr ⟨List.mem_of_getElem? (i := 243) (by decide +kernel), by decide +kernel⟩
theorem mw244 : (.methodLink cnW 15 yW_half : Cond) ∈ lw_g := List.mem_filter.mpr ⟨List.mem_of_getElem? (i := 244) (by decide +kernel), by decide +kernel⟩
theorem mw246 : (.code yW_half cW_half 4 (some .int) : Cond) ∈ lw_g := List.mem_filter.mpr ⟨List.mem_of_getElem? (i := 246) (by decide +kernel), by decide +kernel⟩
theorem mw245 : (.static yW_half : Cond) ∈ lw_g := List.mem_filter.mpr ⟨List.mem_of_getElem? (i := 245) (by decide +kernel), by decide +kernel⟩
theorem mw248 : (.constant cnW 19 (65536) : Cond) ∈ lw_g := List.mem_filter.mpr ⟨List.mem_of_getElem? (i := 248) (by decide +kernel), by decide +kernel⟩
theorem mw185 : (.constant cnW 20 (16777619) : Cond) ∈ lw_g := List.mem_filter.mpr ⟨List.mem_of_getElem? (i := 185) (by decide +kernel), by decide +kernel⟩
theorem mw167 : (.methodLink cnT 139 yT_hasBoth : Cond) ∈ lw_g := List.mem_filter.mpr ⟨List.mem_of_getElem? (i := 167) (by decide +kernel), by decide +kernel⟩
theorem mw169 : (.code yT_hasBoth cT_hasBoth 3 (some .boolean) : Cond) ∈ lw_g := List.mem_filter.mpr ⟨List.mem_of_getElem? (i := 169) (by decide +kernel), by decide +kernel⟩
theorem mw24 : (.initialized cnT : Cond) ∈ lw_g := List.mem_filter.mpr ⟨List.mem_of_getElem? (i := 24) (by decide +kernel), by decide +kernel⟩
theorem mw168 : (.static yT_hasBoth : Cond) ∈ lw_g := List.mem_filter.mpr ⟨List.mem_of_getElem? (i := 168) (by decide +kernel), by decide +kernel⟩
theorem mw231 : (.constantLong cnT 143 (4294967295) : Cond) ∈ lw_g := List.mem_filter.mpr ⟨List.mem_of_getElem? (i := 231) (by decide +kernel), by decide +kernel⟩
theorem mw181 : (.code yW_mac cW_mac 4 (some .int) : Cond) ∈ lw_g := List.mem_filter.mpr ⟨List.mem_of_getElem? (i := 181) (by decide +kernel), by decide +kernel⟩
theorem mw180 : (.static yW_mac : Cond) ∈ lw_g := List.mem_filter.mpr ⟨List.mem_of_getElem? (i := 180) (by decide +kernel), by decide +kernel⟩
theorem mw267 : (.constant cnT 145 (2147483647) : Cond) ∈ lw_g := List.mem_filter.mpr ⟨List.mem_of_getElem? (i := 267) (by decide +kernel), by decide +kernel⟩
theorem mw427 : (.constant cnM 32 (40503) : Cond) ∈ lw_g := List.mem_filter.mpr ⟨List.mem_of_getElem? (i := 427) (by decide +kernel), by decide +kernel⟩
theorem mw423 : (.constant cnM 33 (65535) : Cond) ∈ lw_g := List.mem_filter.mpr ⟨List.mem_of_getElem? (i := 423) (by decide +kernel), by decide +kernel⟩
theorem mw424 : (.methodLink cnM 34 yM_half : Cond) ∈ lw_g := List.mem_filter.mpr ⟨List.mem_of_getElem? (i := 424) (by decide +kernel), by decide +kernel⟩
theorem mw426 : (.code yM_half cM_half 4 (some .int) : Cond) ∈ lw_g := List.mem_filter.mpr ⟨List.mem_of_getElem? (i := 426) (by decide +kernel), by decide +kernel⟩
theorem mw27 : (.initialized cnM : Cond) ∈ lw_g := List.mem_filter.mpr ⟨List.mem_of_getElem? (i := 27) (by decide +kernel), by decide +kernel⟩
theorem mw425 : (.static yM_half : Cond) ∈ lw_g := List.mem_filter.mpr ⟨List.mem_of_getElem? (i := 425) (by decide +kernel), by decide +kernel⟩
theorem mw428 : (.constant cnM 38 (65536) : Cond) ∈ lw_g := List.mem_filter.mpr ⟨List.mem_of_getElem? (i := 428) (by decide +kernel), by decide +kernel⟩
theorem mw379 : (.constant cnM 39 (16777619) : Cond) ∈ lw_g := List.mem_filter.mpr ⟨List.mem_of_getElem? (i := 379) (by decide +kernel), by decide +kernel⟩
theorem mw415 : (.constantLong cnM 40 (4294967296) : Cond) ∈ lw_g := List.mem_filter.mpr ⟨List.mem_of_getElem? (i := 415) (by decide +kernel), by decide +kernel⟩
theorem mw333 : (.methodLink cnM 42 yM_has : Cond) ∈ lw_g := List.mem_filter.mpr ⟨List.mem_of_getElem? (i := 333) (by decide +kernel), by decide +kernel⟩
theorem mw335 : (.code yM_has cM_has 2 (some .boolean) : Cond) ∈ lw_g := List.mem_filter.mpr ⟨List.mem_of_getElem? (i := 335) (by decide +kernel), by decide +kernel⟩
theorem mw334 : (.static yM_has : Cond) ∈ lw_g := List.mem_filter.mpr ⟨List.mem_of_getElem? (i := 334) (by decide +kernel), by decide +kernel⟩
theorem mw64 : (.fieldLink cnK 24 "HandleToken$KeyTable" "size" "I" : Cond) ∈ lw_g := List.mem_filter.mpr ⟨List.mem_of_getElem? (i := 64) (by decide +kernel), by decide +kernel⟩
theorem mw59 : (.fieldLink cnK 15 "HandleToken$KeyTable" "attributesOf" "[I" : Cond) ∈ lw_g := List.mem_filter.mpr ⟨List.mem_of_getElem? (i := 59) (by decide +kernel), by decide +kernel⟩
theorem mw57 : (.fieldLink cnK 9 "HandleToken$KeyTable" "handleOf" "[I" : Cond) ∈ lw_g := List.mem_filter.mpr ⟨List.mem_of_getElem? (i := 57) (by decide +kernel), by decide +kernel⟩
theorem mw61 : (.fieldLink cnK 18 "HandleToken$KeyTable" "valueOf" "[I" : Cond) ∈ lw_g := List.mem_filter.mpr ⟨List.mem_of_getElem? (i := 61) (by decide +kernel), by decide +kernel⟩
theorem mw63 : (.fieldLink cnK 21 "HandleToken$KeyTable" "ownerOf" "[I" : Cond) ∈ lw_g := List.mem_filter.mpr ⟨List.mem_of_getElem? (i := 63) (by decide +kernel), by decide +kernel⟩
theorem mw66 : (.fieldLink cnK 28 "HandleToken$KeyTable" "made" "I" : Cond) ∈ lw_g := List.mem_filter.mpr ⟨List.mem_of_getElem? (i := 66) (by decide +kernel), by decide +kernel⟩
theorem mw120 : (.methodLink cnK 31 yK_removeRow : Cond) ∈ lw_g := List.mem_filter.mpr ⟨List.mem_of_getElem? (i := 120) (by decide +kernel), by decide +kernel⟩
theorem mw123 : (.code yK_removeRow cK_removeRow 3 none : Cond) ∈ lw_g := List.mem_filter.mpr ⟨List.mem_of_getElem? (i := 123) (by decide +kernel), by decide +kernel⟩
theorem mw26 : (.initialized cnK : Cond) ∈ lw_g := List.mem_filter.mpr ⟨List.mem_of_getElem? (i := 26) (by decide +kernel), by decide +kernel⟩
theorem mw122 : (.instanceMethod yK_removeRow : Cond) ∈ lw_g := List.mem_filter.mpr ⟨List.mem_of_getElem? (i := 122) (by decide +kernel), by decide +kernel⟩
theorem mw2 : (.selects cnK yK_removeRow yK_removeRow : Cond) ∈ lw_g := List.mem_filter.mpr ⟨List.mem_of_getElem? (i := 2) (by decide +kernel), by decide +kernel⟩
theorem mw140 : (.methodLink cnK 35 yK_has : Cond) ∈ lw_g := List.mem_filter.mpr ⟨List.mem_of_getElem? (i := 140) (by decide +kernel), by decide +kernel⟩
theorem mw143 : (.code yK_has cK_has 3 (some .boolean) : Cond) ∈ lw_g := List.mem_filter.mpr ⟨List.mem_of_getElem? (i := 143) (by decide +kernel), by decide +kernel⟩
theorem mw142 : (.instanceMethod yK_has : Cond) ∈ lw_g := List.mem_filter.mpr ⟨List.mem_of_getElem? (i := 142) (by decide +kernel), by decide +kernel⟩
theorem mw5 : (.selects cnK yK_has yK_has : Cond) ∈ lw_g := List.mem_filter.mpr ⟨List.mem_of_getElem? (i := 5) (by decide +kernel), by decide +kernel⟩
theorem mw44 : (.fieldLink cnR 15 "HandleToken$Role" "failures" "I" : Cond) ∈ lw_g := List.mem_filter.mpr ⟨List.mem_of_getElem? (i := 44) (by decide +kernel), by decide +kernel⟩
theorem mw43 : (.fieldLink cnR 9 "HandleToken$Role" "pin" "I" : Cond) ∈ lw_g := List.mem_filter.mpr ⟨List.mem_of_getElem? (i := 43) (by decide +kernel), by decide +kernel⟩
theorem mw87 : (.fieldLink cnT 36 "HandleToken" "openSessions" "I" : Cond) ∈ lw_g := List.mem_filter.mpr ⟨List.mem_of_getElem? (i := 87) (by decide +kernel), by decide +kernel⟩
theorem mw108 : (.methodLink cnT 32 yT_isOpen : Cond) ∈ lw_g := List.mem_filter.mpr ⟨List.mem_of_getElem? (i := 108) (by decide +kernel), by decide +kernel⟩
theorem mw111 : (.code yT_isOpen cT_isOpen 2 (some .boolean) : Cond) ∈ lw_g := List.mem_filter.mpr ⟨List.mem_of_getElem? (i := 111) (by decide +kernel), by decide +kernel⟩
theorem mw110 : (.instanceMethod yT_isOpen : Cond) ∈ lw_g := List.mem_filter.mpr ⟨List.mem_of_getElem? (i := 110) (by decide +kernel), by decide +kernel⟩
theorem mw0 : (.selects cnT yT_isOpen yT_isOpen : Cond) ∈ lw_g := List.mem_filter.mpr ⟨List.mem_of_getElem? (i := 0) (by decide +kernel), by decide +kernel⟩
theorem mw88 : (.fieldLink cnT 39 "HandleToken" "readWriteSessions" "I" : Cond) ∈ lw_g := List.mem_filter.mpr ⟨List.mem_of_getElem? (i := 88) (by decide +kernel), by decide +kernel⟩
theorem mw85 : (.fieldLink cnT 28 "HandleToken" "loggedIn" "I" : Cond) ∈ lw_g := List.mem_filter.mpr ⟨List.mem_of_getElem? (i := 85) (by decide +kernel), by decide +kernel⟩
theorem mw84 : (.fieldLink cnT 24 "HandleToken" "keys" "LHandleToken$KeyTable;" : Cond) ∈ lw_g := List.mem_filter.mpr ⟨List.mem_of_getElem? (i := 84) (by decide +kernel), by decide +kernel⟩
theorem mw160 : (.methodLink cnT 130 yT_isReadWrite : Cond) ∈ lw_g := List.mem_filter.mpr ⟨List.mem_of_getElem? (i := 160) (by decide +kernel), by decide +kernel⟩
theorem mw163 : (.code yT_isReadWrite cT_isReadWrite 2 (some .boolean) : Cond) ∈ lw_g := List.mem_filter.mpr ⟨List.mem_of_getElem? (i := 163) (by decide +kernel), by decide +kernel⟩
theorem mw162 : (.instanceMethod yT_isReadWrite : Cond) ∈ lw_g := List.mem_filter.mpr ⟨List.mem_of_getElem? (i := 162) (by decide +kernel), by decide +kernel⟩
theorem mw8 : (.selects cnT yT_isReadWrite yT_isReadWrite : Cond) ∈ lw_g := List.mem_filter.mpr ⟨List.mem_of_getElem? (i := 8) (by decide +kernel), by decide +kernel⟩
theorem mw200 : (.code yK_rowWith cK_rowWith 3 (some .int) : Cond) ∈ lw_g := List.mem_filter.mpr ⟨List.mem_of_getElem? (i := 200) (by decide +kernel), by decide +kernel⟩
theorem mw199 : (.instanceMethod yK_rowWith : Cond) ∈ lw_g := List.mem_filter.mpr ⟨List.mem_of_getElem? (i := 199) (by decide +kernel), by decide +kernel⟩
theorem mw11 : (.selects cnK yK_rowWith yK_rowWith : Cond) ∈ lw_g := List.mem_filter.mpr ⟨List.mem_of_getElem? (i := 11) (by decide +kernel), by decide +kernel⟩
theorem mw201 : (.methodLink cnT 118 yT_isVisible : Cond) ∈ lw_g := List.mem_filter.mpr ⟨List.mem_of_getElem? (i := 201) (by decide +kernel), by decide +kernel⟩
theorem mw204 : (.code yT_isVisible cT_isVisible 2 (some .boolean) : Cond) ∈ lw_g := List.mem_filter.mpr ⟨List.mem_of_getElem? (i := 204) (by decide +kernel), by decide +kernel⟩
theorem mw203 : (.instanceMethod yT_isVisible : Cond) ∈ lw_g := List.mem_filter.mpr ⟨List.mem_of_getElem? (i := 203) (by decide +kernel), by decide +kernel⟩
theorem mw12 : (.selects cnT yT_isVisible yT_isVisible : Cond) ∈ lw_g := List.mem_filter.mpr ⟨List.mem_of_getElem? (i := 12) (by decide +kernel), by decide +kernel⟩
theorem mw193 : (.methodLink cnT 76 yT_rowOrRefusal : Cond) ∈ lw_g := List.mem_filter.mpr ⟨List.mem_of_getElem? (i := 193) (by decide +kernel), by decide +kernel⟩
theorem mw196 : (.code yT_rowOrRefusal cT_rowOrRefusal 4 (some .int) : Cond) ∈ lw_g := List.mem_filter.mpr ⟨List.mem_of_getElem? (i := 196) (by decide +kernel), by decide +kernel⟩
theorem mw195 : (.instanceMethod yT_rowOrRefusal : Cond) ∈ lw_g := List.mem_filter.mpr ⟨List.mem_of_getElem? (i := 195) (by decide +kernel), by decide +kernel⟩
theorem mw10 : (.selects cnT yT_rowOrRefusal yT_rowOrRefusal : Cond) ∈ lw_g := List.mem_filter.mpr ⟨List.mem_of_getElem? (i := 10) (by decide +kernel), by decide +kernel⟩
theorem mw164 : (.methodLink cnT 136 yT_areGood : Cond) ∈ lw_g := List.mem_filter.mpr ⟨List.mem_of_getElem? (i := 164) (by decide +kernel), by decide +kernel⟩
theorem mw166 : (.code yT_areGood cT_areGood 1 (some .boolean) : Cond) ∈ lw_g := List.mem_filter.mpr ⟨List.mem_of_getElem? (i := 166) (by decide +kernel), by decide +kernel⟩
theorem mw165 : (.static yT_areGood : Cond) ∈ lw_g := List.mem_filter.mpr ⟨List.mem_of_getElem? (i := 165) (by decide +kernel), by decide +kernel⟩
theorem mw119 : (.code yK_removeOwnedBy cK_removeOwnedBy 3 none : Cond) ∈ lw_g := List.mem_filter.mpr ⟨List.mem_of_getElem? (i := 119) (by decide +kernel), by decide +kernel⟩
theorem mw118 : (.instanceMethod yK_removeOwnedBy : Cond) ∈ lw_g := List.mem_filter.mpr ⟨List.mem_of_getElem? (i := 118) (by decide +kernel), by decide +kernel⟩
theorem mw1 : (.selects cnK yK_removeOwnedBy yK_removeOwnedBy : Cond) ∈ lw_g := List.mem_filter.mpr ⟨List.mem_of_getElem? (i := 1) (by decide +kernel), by decide +kernel⟩
theorem mw82 : (.fieldLink cnT 14 "HandleToken" "userRole" "LHandleToken$Role;" : Cond) ∈ lw_g := List.mem_filter.mpr ⟨List.mem_of_getElem? (i := 82) (by decide +kernel), by decide +kernel⟩
theorem mw131 : (.code yR_tryPin cR_tryPin 2 (some .int) : Cond) ∈ lw_g := List.mem_filter.mpr ⟨List.mem_of_getElem? (i := 131) (by decide +kernel), by decide +kernel⟩
theorem mw25 : (.initialized cnR : Cond) ∈ lw_g := List.mem_filter.mpr ⟨List.mem_of_getElem? (i := 25) (by decide +kernel), by decide +kernel⟩
theorem mw130 : (.instanceMethod yR_tryPin : Cond) ∈ lw_g := List.mem_filter.mpr ⟨List.mem_of_getElem? (i := 130) (by decide +kernel), by decide +kernel⟩
theorem mw3 : (.selects cnR yR_tryPin yR_tryPin : Cond) ∈ lw_g := List.mem_filter.mpr ⟨List.mem_of_getElem? (i := 3) (by decide +kernel), by decide +kernel⟩
theorem mw83 : (.fieldLink cnT 18 "HandleToken" "officerRole" "LHandleToken$Role;" : Cond) ∈ lw_g := List.mem_filter.mpr ⟨List.mem_of_getElem? (i := 83) (by decide +kernel), by decide +kernel⟩
theorem mw139 : (.code yK_removePrivateSessionKeys cK_removePrivateSessionKeys 2 none : Cond) ∈ lw_g := List.mem_filter.mpr ⟨List.mem_of_getElem? (i := 139) (by decide +kernel), by decide +kernel⟩
theorem mw138 : (.instanceMethod yK_removePrivateSessionKeys : Cond) ∈ lw_g := List.mem_filter.mpr ⟨List.mem_of_getElem? (i := 138) (by decide +kernel), by decide +kernel⟩
theorem mw4 : (.selects cnK yK_removePrivateSessionKeys yK_removePrivateSessionKeys : Cond) ∈ lw_g := List.mem_filter.mpr ⟨List.mem_of_getElem? (i := 4) (by decide +kernel), by decide +kernel⟩
theorem mw151 : (.code yR_renew cR_renew 2 none : Cond) ∈ lw_g := List.mem_filter.mpr ⟨List.mem_of_getElem? (i := 151) (by decide +kernel), by decide +kernel⟩
theorem mw150 : (.instanceMethod yR_renew : Cond) ∈ lw_g := List.mem_filter.mpr ⟨List.mem_of_getElem? (i := 150) (by decide +kernel), by decide +kernel⟩
theorem mw6 : (.selects cnR yR_renew yR_renew : Cond) ∈ lw_g := List.mem_filter.mpr ⟨List.mem_of_getElem? (i := 6) (by decide +kernel), by decide +kernel⟩
theorem mw156 : (.methodLink cnT 55 yT_refusalToMake : Cond) ∈ lw_g := List.mem_filter.mpr ⟨List.mem_of_getElem? (i := 156) (by decide +kernel), by decide +kernel⟩
theorem mw159 : (.code yT_refusalToMake cT_refusalToMake 4 (some .int) : Cond) ∈ lw_g := List.mem_filter.mpr ⟨List.mem_of_getElem? (i := 159) (by decide +kernel), by decide +kernel⟩
theorem mw158 : (.instanceMethod yT_refusalToMake : Cond) ∈ lw_g := List.mem_filter.mpr ⟨List.mem_of_getElem? (i := 158) (by decide +kernel), by decide +kernel⟩
theorem mw7 : (.selects cnT yT_refusalToMake yT_refusalToMake : Cond) ∈ lw_g := List.mem_filter.mpr ⟨List.mem_of_getElem? (i := 7) (by decide +kernel), by decide +kernel⟩
theorem mw173 : (.code yK_add cK_add 4 (some .int) : Cond) ∈ lw_g := List.mem_filter.mpr ⟨List.mem_of_getElem? (i := 173) (by decide +kernel), by decide +kernel⟩
theorem mw172 : (.instanceMethod yK_add : Cond) ∈ lw_g := List.mem_filter.mpr ⟨List.mem_of_getElem? (i := 172) (by decide +kernel), by decide +kernel⟩
theorem mw9 : (.selects cnK yK_add yK_add : Cond) ∈ lw_g := List.mem_filter.mpr ⟨List.mem_of_getElem? (i := 9) (by decide +kernel), by decide +kernel⟩
theorem mw86 : (.fieldLink cnT 63 "HandleToken" "generatedCount" "I" : Cond) ∈ lw_g := List.mem_filter.mpr ⟨List.mem_of_getElem? (i := 86) (by decide +kernel), by decide +kernel⟩
theorem mw178 : (.constant cnT 66 (1234567) : Cond) ∈ lw_g := List.mem_filter.mpr ⟨List.mem_of_getElem? (i := 178) (by decide +kernel), by decide +kernel⟩
theorem mw186 : (.methodLink cnT 73 yT_originOf : Cond) ∈ lw_g := List.mem_filter.mpr ⟨List.mem_of_getElem? (i := 186) (by decide +kernel), by decide +kernel⟩
theorem mw188 : (.code yT_originOf cT_originOf 3 (some .int) : Cond) ∈ lw_g := List.mem_filter.mpr ⟨List.mem_of_getElem? (i := 188) (by decide +kernel), by decide +kernel⟩
theorem mw187 : (.static yT_originOf : Cond) ∈ lw_g := List.mem_filter.mpr ⟨List.mem_of_getElem? (i := 187) (by decide +kernel), by decide +kernel⟩
theorem mw206 : (.methodLink cnT 79 yT_isFixedFor : Cond) ∈ lw_g := List.mem_filter.mpr ⟨List.mem_of_getElem? (i := 206) (by decide +kernel), by decide +kernel⟩
theorem mw209 : (.code yT_isFixedFor cT_isFixedFor 3 (some .boolean) : Cond) ∈ lw_g := List.mem_filter.mpr ⟨List.mem_of_getElem? (i := 209) (by decide +kernel), by decide +kernel⟩
theorem mw208 : (.instanceMethod yT_isFixedFor : Cond) ∈ lw_g := List.mem_filter.mpr ⟨List.mem_of_getElem? (i := 208) (by decide +kernel), by decide +kernel⟩
theorem mw13 : (.selects cnT yT_isFixedFor yT_isFixedFor : Cond) ∈ lw_g := List.mem_filter.mpr ⟨List.mem_of_getElem? (i := 13) (by decide +kernel), by decide +kernel⟩
theorem mw228 : (.methodLink cnT 98 yT_answered : Cond) ∈ lw_g := List.mem_filter.mpr ⟨List.mem_of_getElem? (i := 228) (by decide +kernel), by decide +kernel⟩
theorem mw230 : (.code yT_answered cT_answered 1 (some .long) : Cond) ∈ lw_g := List.mem_filter.mpr ⟨List.mem_of_getElem? (i := 230) (by decide +kernel), by decide +kernel⟩
theorem mw229 : (.static yT_answered : Cond) ∈ lw_g := List.mem_filter.mpr ⟨List.mem_of_getElem? (i := 229) (by decide +kernel), by decide +kernel⟩
theorem mw227 : (.constantLong cnT 93 (-5) : Cond) ∈ lw_g := List.mem_filter.mpr ⟨List.mem_of_getElem? (i := 227) (by decide +kernel), by decide +kernel⟩
theorem mw236 : (.methodLink cnT 102 yT_rowForUse : Cond) ∈ lw_g := List.mem_filter.mpr ⟨List.mem_of_getElem? (i := 236) (by decide +kernel), by decide +kernel⟩
theorem mw239 : (.code yT_rowForUse cT_rowForUse 5 (some .int) : Cond) ∈ lw_g := List.mem_filter.mpr ⟨List.mem_of_getElem? (i := 239) (by decide +kernel), by decide +kernel⟩
theorem mw238 : (.instanceMethod yT_rowForUse : Cond) ∈ lw_g := List.mem_filter.mpr ⟨List.mem_of_getElem? (i := 238) (by decide +kernel), by decide +kernel⟩
theorem mw14 : (.selects cnT yT_rowForUse yT_rowForUse : Cond) ∈ lw_g := List.mem_filter.mpr ⟨List.mem_of_getElem? (i := 14) (by decide +kernel), by decide +kernel⟩
theorem mw242 : (.code yW_enc cW_enc 6 (some .int) : Cond) ∈ lw_g := List.mem_filter.mpr ⟨List.mem_of_getElem? (i := 242) (by decide +kernel), by decide +kernel⟩
theorem mw241 : (.static yW_enc : Cond) ∈ lw_g := List.mem_filter.mpr ⟨List.mem_of_getElem? (i := 241) (by decide +kernel), by decide +kernel⟩
theorem mw255 : (.code yW_dec cW_dec 6 (some .int) : Cond) ∈ lw_g := List.mem_filter.mpr ⟨List.mem_of_getElem? (i := 255) (by decide +kernel), by decide +kernel⟩
theorem mw254 : (.static yW_dec : Cond) ∈ lw_g := List.mem_filter.mpr ⟨List.mem_of_getElem? (i := 254) (by decide +kernel), by decide +kernel⟩
theorem mw264 : (.methodLink cnT 111 yT_tagOf : Cond) ∈ lw_g := List.mem_filter.mpr ⟨List.mem_of_getElem? (i := 264) (by decide +kernel), by decide +kernel⟩
theorem mw266 : (.code yT_tagOf cT_tagOf 2 (some .long) : Cond) ∈ lw_g := List.mem_filter.mpr ⟨List.mem_of_getElem? (i := 266) (by decide +kernel), by decide +kernel⟩
theorem mw265 : (.static yT_tagOf : Cond) ∈ lw_g := List.mem_filter.mpr ⟨List.mem_of_getElem? (i := 265) (by decide +kernel), by decide +kernel⟩
theorem mw289 : (.fieldLink cnM 7 "HandleTokenModel" "session" "[I" : Cond) ∈ lw_g := List.mem_filter.mpr ⟨List.mem_of_getElem? (i := 289) (by decide +kernel), by decide +kernel⟩
theorem mw295 : (.fieldLink cnM 19 "HandleTokenModel" "there" "[Z" : Cond) ∈ lw_g := List.mem_filter.mpr ⟨List.mem_of_getElem? (i := 295) (by decide +kernel), by decide +kernel⟩
theorem mw298 : (.fieldLink cnM 29 "HandleTokenModel" "marks" "[I" : Cond) ∈ lw_g := List.mem_filter.mpr ⟨List.mem_of_getElem? (i := 298) (by decide +kernel), by decide +kernel⟩
theorem mw290 : (.fieldLink cnM 46 "HandleTokenModel" "inside" "I" : Cond) ∈ lw_g := List.mem_filter.mpr ⟨List.mem_of_getElem? (i := 290) (by decide +kernel), by decide +kernel⟩
theorem mw293 : (.fieldLink cnM 50 "HandleTokenModel" "made" "I" : Cond) ∈ lw_g := List.mem_filter.mpr ⟨List.mem_of_getElem? (i := 293) (by decide +kernel), by decide +kernel⟩
theorem mw388 : (.methodLink cnM 53 yM_visible : Cond) ∈ lw_g := List.mem_filter.mpr ⟨List.mem_of_getElem? (i := 388) (by decide +kernel), by decide +kernel⟩
theorem mw391 : (.code yM_visible cM_visible 2 (some .boolean) : Cond) ∈ lw_g := List.mem_filter.mpr ⟨List.mem_of_getElem? (i := 391) (by decide +kernel), by decide +kernel⟩
theorem mw390 : (.instanceMethod yM_visible : Cond) ∈ lw_g := List.mem_filter.mpr ⟨List.mem_of_getElem? (i := 390) (by decide +kernel), by decide +kernel⟩
theorem mw21 : (.selects cnM yM_visible yM_visible : Cond) ∈ lw_g := List.mem_filter.mpr ⟨List.mem_of_getElem? (i := 21) (by decide +kernel), by decide +kernel⟩
theorem mw356 : (.methodLink cnM 57 yM_readOnly : Cond) ∈ lw_g := List.mem_filter.mpr ⟨List.mem_of_getElem? (i := 356) (by decide +kernel), by decide +kernel⟩
theorem mw359 : (.code yM_readOnly cM_readOnly 3 (some .boolean) : Cond) ∈ lw_g := List.mem_filter.mpr ⟨List.mem_of_getElem? (i := 359) (by decide +kernel), by decide +kernel⟩
theorem mw358 : (.instanceMethod yM_readOnly : Cond) ∈ lw_g := List.mem_filter.mpr ⟨List.mem_of_getElem? (i := 358) (by decide +kernel), by decide +kernel⟩
theorem mw17 : (.selects cnM yM_readOnly yM_readOnly : Cond) ∈ lw_g := List.mem_filter.mpr ⟨List.mem_of_getElem? (i := 17) (by decide +kernel), by decide +kernel⟩
theorem mw360 : (.methodLink cnM 60 yM_good : Cond) ∈ lw_g := List.mem_filter.mpr ⟨List.mem_of_getElem? (i := 360) (by decide +kernel), by decide +kernel⟩
theorem mw362 : (.code yM_good cM_good 1 (some .boolean) : Cond) ∈ lw_g := List.mem_filter.mpr ⟨List.mem_of_getElem? (i := 362) (by decide +kernel), by decide +kernel⟩
theorem mw361 : (.static yM_good : Cond) ∈ lw_g := List.mem_filter.mpr ⟨List.mem_of_getElem? (i := 361) (by decide +kernel), by decide +kernel⟩
theorem mw363 : (.methodLink cnM 63 yM_count : Cond) ∈ lw_g := List.mem_filter.mpr ⟨List.mem_of_getElem? (i := 363) (by decide +kernel), by decide +kernel⟩
theorem mw366 : (.code yM_count cM_count 3 (some .int) : Cond) ∈ lw_g := List.mem_filter.mpr ⟨List.mem_of_getElem? (i := 366) (by decide +kernel), by decide +kernel⟩
theorem mw365 : (.instanceMethod yM_count : Cond) ∈ lw_g := List.mem_filter.mpr ⟨List.mem_of_getElem? (i := 365) (by decide +kernel), by decide +kernel⟩
theorem mw18 : (.selects cnM yM_count yM_count : Cond) ∈ lw_g := List.mem_filter.mpr ⟨List.mem_of_getElem? (i := 18) (by decide +kernel), by decide +kernel⟩
theorem mw296 : (.fieldLink cnM 23 "HandleTokenModel" "value" "[I" : Cond) ∈ lw_g := List.mem_filter.mpr ⟨List.mem_of_getElem? (i := 296) (by decide +kernel), by decide +kernel⟩
theorem mw297 : (.fieldLink cnM 26 "HandleTokenModel" "owner" "[I" : Cond) ∈ lw_g := List.mem_filter.mpr ⟨List.mem_of_getElem? (i := 297) (by decide +kernel), by decide +kernel⟩
theorem mw329 : (.methodLink cnM 67 yM_closed : Cond) ∈ lw_g := List.mem_filter.mpr ⟨List.mem_of_getElem? (i := 329) (by decide +kernel), by decide +kernel⟩
theorem mw332 : (.code yM_closed cM_closed 2 (some .boolean) : Cond) ∈ lw_g := List.mem_filter.mpr ⟨List.mem_of_getElem? (i := 332) (by decide +kernel), by decide +kernel⟩
theorem mw331 : (.instanceMethod yM_closed : Cond) ∈ lw_g := List.mem_filter.mpr ⟨List.mem_of_getElem? (i := 331) (by decide +kernel), by decide +kernel⟩
theorem mw15 : (.selects cnM yM_closed yM_closed : Cond) ∈ lw_g := List.mem_filter.mpr ⟨List.mem_of_getElem? (i := 15) (by decide +kernel), by decide +kernel⟩
theorem mw292 : (.fieldLink cnM 16 "HandleTokenModel" "failures" "[I" : Cond) ∈ lw_g := List.mem_filter.mpr ⟨List.mem_of_getElem? (i := 292) (by decide +kernel), by decide +kernel⟩
theorem mw291 : (.fieldLink cnM 13 "HandleTokenModel" "pins" "[I" : Cond) ∈ lw_g := List.mem_filter.mpr ⟨List.mem_of_getElem? (i := 291) (by decide +kernel), by decide +kernel⟩
theorem mw352 : (.methodLink cnM 70 yM_obstacle : Cond) ∈ lw_g := List.mem_filter.mpr ⟨List.mem_of_getElem? (i := 352) (by decide +kernel), by decide +kernel⟩
theorem mw355 : (.code yM_obstacle cM_obstacle 4 (some .int) : Cond) ∈ lw_g := List.mem_filter.mpr ⟨List.mem_of_getElem? (i := 355) (by decide +kernel), by decide +kernel⟩
theorem mw354 : (.instanceMethod yM_obstacle : Cond) ∈ lw_g := List.mem_filter.mpr ⟨List.mem_of_getElem? (i := 354) (by decide +kernel), by decide +kernel⟩
theorem mw16 : (.selects cnM yM_obstacle yM_obstacle : Cond) ∈ lw_g := List.mem_filter.mpr ⟨List.mem_of_getElem? (i := 16) (by decide +kernel), by decide +kernel⟩
theorem mw367 : (.methodLink cnM 74 yM_enter : Cond) ∈ lw_g := List.mem_filter.mpr ⟨List.mem_of_getElem? (i := 367) (by decide +kernel), by decide +kernel⟩
theorem mw370 : (.code yM_enter cM_enter 4 (some .int) : Cond) ∈ lw_g := List.mem_filter.mpr ⟨List.mem_of_getElem? (i := 370) (by decide +kernel), by decide +kernel⟩
theorem mw369 : (.instanceMethod yM_enter : Cond) ∈ lw_g := List.mem_filter.mpr ⟨List.mem_of_getElem? (i := 369) (by decide +kernel), by decide +kernel⟩
theorem mw19 : (.selects cnM yM_enter yM_enter : Cond) ∈ lw_g := List.mem_filter.mpr ⟨List.mem_of_getElem? (i := 19) (by decide +kernel), by decide +kernel⟩
theorem mw294 : (.fieldLink cnM 77 "HandleTokenModel" "generated" "I" : Cond) ∈ lw_g := List.mem_filter.mpr ⟨List.mem_of_getElem? (i := 294) (by decide +kernel), by decide +kernel⟩
theorem mw375 : (.constant cnM 80 (1234567) : Cond) ∈ lw_g := List.mem_filter.mpr ⟨List.mem_of_getElem? (i := 375) (by decide +kernel), by decide +kernel⟩
theorem mw376 : (.methodLink cnM 81 yM_mac : Cond) ∈ lw_g := List.mem_filter.mpr ⟨List.mem_of_getElem? (i := 376) (by decide +kernel), by decide +kernel⟩
theorem mw378 : (.code yM_mac cM_mac 4 (some .int) : Cond) ∈ lw_g := List.mem_filter.mpr ⟨List.mem_of_getElem? (i := 378) (by decide +kernel), by decide +kernel⟩
theorem mw377 : (.static yM_mac : Cond) ∈ lw_g := List.mem_filter.mpr ⟨List.mem_of_getElem? (i := 377) (by decide +kernel), by decide +kernel⟩
theorem mw384 : (.methodLink cnM 85 yM_hidden : Cond) ∈ lw_g := List.mem_filter.mpr ⟨List.mem_of_getElem? (i := 384) (by decide +kernel), by decide +kernel⟩
theorem mw387 : (.code yM_hidden cM_hidden 2 (some .boolean) : Cond) ∈ lw_g := List.mem_filter.mpr ⟨List.mem_of_getElem? (i := 387) (by decide +kernel), by decide +kernel⟩
theorem mw386 : (.instanceMethod yM_hidden : Cond) ∈ lw_g := List.mem_filter.mpr ⟨List.mem_of_getElem? (i := 386) (by decide +kernel), by decide +kernel⟩
theorem mw20 : (.selects cnM yM_hidden yM_hidden : Cond) ∈ lw_g := List.mem_filter.mpr ⟨List.mem_of_getElem? (i := 20) (by decide +kernel), by decide +kernel⟩
theorem mw408 : (.methodLink cnM 88 yM_bar : Cond) ∈ lw_g := List.mem_filter.mpr ⟨List.mem_of_getElem? (i := 408) (by decide +kernel), by decide +kernel⟩
theorem mw411 : (.code yM_bar cM_bar 6 (some .int) : Cond) ∈ lw_g := List.mem_filter.mpr ⟨List.mem_of_getElem? (i := 411) (by decide +kernel), by decide +kernel⟩
theorem mw410 : (.instanceMethod yM_bar : Cond) ∈ lw_g := List.mem_filter.mpr ⟨List.mem_of_getElem? (i := 410) (by decide +kernel), by decide +kernel⟩
theorem mw22 : (.selects cnM yM_bar yM_bar : Cond) ∈ lw_g := List.mem_filter.mpr ⟨List.mem_of_getElem? (i := 22) (by decide +kernel), by decide +kernel⟩
theorem mw412 : (.methodLink cnM 92 yM_answer : Cond) ∈ lw_g := List.mem_filter.mpr ⟨List.mem_of_getElem? (i := 412) (by decide +kernel), by decide +kernel⟩
theorem mw414 : (.code yM_answer cM_answer 1 (some .long) : Cond) ∈ lw_g := List.mem_filter.mpr ⟨List.mem_of_getElem? (i := 414) (by decide +kernel), by decide +kernel⟩
theorem mw413 : (.static yM_answer : Cond) ∈ lw_g := List.mem_filter.mpr ⟨List.mem_of_getElem? (i := 413) (by decide +kernel), by decide +kernel⟩
theorem mw420 : (.methodLink cnM 96 yM_rounds : Cond) ∈ lw_g := List.mem_filter.mpr ⟨List.mem_of_getElem? (i := 420) (by decide +kernel), by decide +kernel⟩
theorem mw422 : (.code yM_rounds cM_rounds 7 (some .int) : Cond) ∈ lw_g := List.mem_filter.mpr ⟨List.mem_of_getElem? (i := 422) (by decide +kernel), by decide +kernel⟩
theorem mw421 : (.static yM_rounds : Cond) ∈ lw_g := List.mem_filter.mpr ⟨List.mem_of_getElem? (i := 421) (by decide +kernel), by decide +kernel⟩
theorem mw442 : (.constantLong cnM 101 (-2) : Cond) ∈ lw_g := List.mem_filter.mpr ⟨List.mem_of_getElem? (i := 442) (by decide +kernel), by decide +kernel⟩
theorem mw443 : (.constantLong cnM 103 (-5) : Cond) ∈ lw_g := List.mem_filter.mpr ⟨List.mem_of_getElem? (i := 443) (by decide +kernel), by decide +kernel⟩
theorem mw444 : (.constant cnM 105 (2147483647) : Cond) ∈ lw_g := List.mem_filter.mpr ⟨List.mem_of_getElem? (i := 444) (by decide +kernel), by decide +kernel⟩
theorem mw441 : (.constantLong cnM 99 (-1) : Cond) ∈ lw_g := List.mem_filter.mpr ⟨List.mem_of_getElem? (i := 441) (by decide +kernel), by decide +kernel⟩
theorem mw42 : (.methodLink cnR 3 objectInit : Cond) ∈ lw_g := List.mem_filter.mpr ⟨List.mem_of_getElem? (i := 42) (by decide +kernel), by decide +kernel⟩
theorem mw35 : (.instanceMethod objectInit : Cond) ∈ lw_g := List.mem_filter.mpr ⟨List.mem_of_getElem? (i := 35) (by decide +kernel), by decide +kernel⟩
theorem mw36 : (.code objectInit ⟨#[0xb1]⟩ 1 none : Cond) ∈ lw_g := List.mem_filter.mpr ⟨List.mem_of_getElem? (i := 36) (by decide +kernel), by decide +kernel⟩
theorem mw56 : (.methodLink cnK 3 objectInit : Cond) ∈ lw_g := List.mem_filter.mpr ⟨List.mem_of_getElem? (i := 56) (by decide +kernel), by decide +kernel⟩
theorem mw81 : (.arrayClass .int : Cond) ∈ lw_g := List.mem_filter.mpr ⟨List.mem_of_getElem? (i := 81) (by decide +kernel), by decide +kernel⟩
theorem mw34 : (.methodLink cnT 3 objectInit : Cond) ∈ lw_g := List.mem_filter.mpr ⟨List.mem_of_getElem? (i := 34) (by decide +kernel), by decide +kernel⟩
theorem mw37 : (.classLink cnT 9 cnR : Cond) ∈ lw_g := List.mem_filter.mpr ⟨List.mem_of_getElem? (i := 37) (by decide +kernel), by decide +kernel⟩
theorem mw38 : (.instantiable cnR 2 : Cond) ∈ lw_g := List.mem_filter.mpr ⟨List.mem_of_getElem? (i := 38) (by decide +kernel), by decide +kernel⟩
theorem mw41 : (.code yR_init cR_init 2 none : Cond) ∈ lw_g := List.mem_filter.mpr ⟨List.mem_of_getElem? (i := 41) (by decide +kernel), by decide +kernel⟩
theorem mw40 : (.instanceMethod yR_init : Cond) ∈ lw_g := List.mem_filter.mpr ⟨List.mem_of_getElem? (i := 40) (by decide +kernel), by decide +kernel⟩
theorem mw51 : (.classLink cnT 21 cnK : Cond) ∈ lw_g := List.mem_filter.mpr ⟨List.mem_of_getElem? (i := 51) (by decide +kernel), by decide +kernel⟩
theorem mw52 : (.instantiable cnK 6 : Cond) ∈ lw_g := List.mem_filter.mpr ⟨List.mem_of_getElem? (i := 52) (by decide +kernel), by decide +kernel⟩
theorem mw55 : (.code yK_init cK_init 1 none : Cond) ∈ lw_g := List.mem_filter.mpr ⟨List.mem_of_getElem? (i := 55) (by decide +kernel), by decide +kernel⟩
theorem mw54 : (.instanceMethod yK_init : Cond) ∈ lw_g := List.mem_filter.mpr ⟨List.mem_of_getElem? (i := 54) (by decide +kernel), by decide +kernel⟩
theorem mw288 : (.methodLink cnM 1 objectInit : Cond) ∈ lw_g := List.mem_filter.mpr ⟨List.mem_of_getElem? (i := 288) (by decide +kernel), by decide +kernel⟩
theorem mw320 : (.arrayClass .boolean : Cond) ∈ lw_g := List.mem_filter.mpr ⟨List.mem_of_getElem? (i := 320) (by decide +kernel), by decide +kernel⟩
theorem mw104 : (.methodLink R_law 21 yT_open : Cond) ∈ lw_g := List.mem_filter.mpr ⟨List.mem_of_getElem? (i := 104) (by decide +kernel), by decide +kernel⟩
theorem mw107 : (.code yT_open cT_open 3 (some .int) : Cond) ∈ lw_g := List.mem_filter.mpr ⟨List.mem_of_getElem? (i := 107) (by decide +kernel), by decide +kernel⟩
theorem mw105 : (.instanceMethod yT_open : Cond) ∈ lw_g := List.mem_filter.mpr ⟨List.mem_of_getElem? (i := 105) (by decide +kernel), by decide +kernel⟩
theorem mw106 : (.selects cnT yT_open yT_open : Cond) ∈ lw_g := List.mem_filter.mpr ⟨List.mem_of_getElem? (i := 106) (by decide +kernel), by decide +kernel⟩
theorem mw321 : (.methodLink R_law 25 yM_open : Cond) ∈ lw_g := List.mem_filter.mpr ⟨List.mem_of_getElem? (i := 321) (by decide +kernel), by decide +kernel⟩
theorem mw324 : (.code yM_open cM_open 3 (some .int) : Cond) ∈ lw_g := List.mem_filter.mpr ⟨List.mem_of_getElem? (i := 324) (by decide +kernel), by decide +kernel⟩
theorem mw322 : (.instanceMethod yM_open : Cond) ∈ lw_g := List.mem_filter.mpr ⟨List.mem_of_getElem? (i := 322) (by decide +kernel), by decide +kernel⟩
theorem mw323 : (.selects cnM yM_open yM_open : Cond) ∈ lw_g := List.mem_filter.mpr ⟨List.mem_of_getElem? (i := 323) (by decide +kernel), by decide +kernel⟩
theorem mw112 : (.methodLink R_law 26 yT_close : Cond) ∈ lw_g := List.mem_filter.mpr ⟨List.mem_of_getElem? (i := 112) (by decide +kernel), by decide +kernel⟩
theorem mw115 : (.code yT_close cT_close 2 (some .int) : Cond) ∈ lw_g := List.mem_filter.mpr ⟨List.mem_of_getElem? (i := 115) (by decide +kernel), by decide +kernel⟩
theorem mw113 : (.instanceMethod yT_close : Cond) ∈ lw_g := List.mem_filter.mpr ⟨List.mem_of_getElem? (i := 113) (by decide +kernel), by decide +kernel⟩
theorem mw114 : (.selects cnT yT_close yT_close : Cond) ∈ lw_g := List.mem_filter.mpr ⟨List.mem_of_getElem? (i := 114) (by decide +kernel), by decide +kernel⟩
theorem mw325 : (.methodLink R_law 30 yM_close : Cond) ∈ lw_g := List.mem_filter.mpr ⟨List.mem_of_getElem? (i := 325) (by decide +kernel), by decide +kernel⟩
theorem mw328 : (.code yM_close cM_close 3 (some .int) : Cond) ∈ lw_g := List.mem_filter.mpr ⟨List.mem_of_getElem? (i := 328) (by decide +kernel), by decide +kernel⟩
theorem mw326 : (.instanceMethod yM_close : Cond) ∈ lw_g := List.mem_filter.mpr ⟨List.mem_of_getElem? (i := 326) (by decide +kernel), by decide +kernel⟩
theorem mw327 : (.selects cnM yM_close yM_close : Cond) ∈ lw_g := List.mem_filter.mpr ⟨List.mem_of_getElem? (i := 327) (by decide +kernel), by decide +kernel⟩
theorem mw124 : (.methodLink R_law 31 yT_login : Cond) ∈ lw_g := List.mem_filter.mpr ⟨List.mem_of_getElem? (i := 124) (by decide +kernel), by decide +kernel⟩
theorem mw127 : (.code yT_login cT_login 6 (some .int) : Cond) ∈ lw_g := List.mem_filter.mpr ⟨List.mem_of_getElem? (i := 127) (by decide +kernel), by decide +kernel⟩
theorem mw125 : (.instanceMethod yT_login : Cond) ∈ lw_g := List.mem_filter.mpr ⟨List.mem_of_getElem? (i := 125) (by decide +kernel), by decide +kernel⟩
theorem mw126 : (.selects cnT yT_login yT_login : Cond) ∈ lw_g := List.mem_filter.mpr ⟨List.mem_of_getElem? (i := 126) (by decide +kernel), by decide +kernel⟩
theorem mw336 : (.methodLink R_law 35 yM_login : Cond) ∈ lw_g := List.mem_filter.mpr ⟨List.mem_of_getElem? (i := 336) (by decide +kernel), by decide +kernel⟩
theorem mw339 : (.code yM_login cM_login 5 (some .int) : Cond) ∈ lw_g := List.mem_filter.mpr ⟨List.mem_of_getElem? (i := 339) (by decide +kernel), by decide +kernel⟩
theorem mw337 : (.instanceMethod yM_login : Cond) ∈ lw_g := List.mem_filter.mpr ⟨List.mem_of_getElem? (i := 337) (by decide +kernel), by decide +kernel⟩
theorem mw338 : (.selects cnM yM_login yM_login : Cond) ∈ lw_g := List.mem_filter.mpr ⟨List.mem_of_getElem? (i := 338) (by decide +kernel), by decide +kernel⟩
theorem mw132 : (.methodLink R_law 36 yT_logout : Cond) ∈ lw_g := List.mem_filter.mpr ⟨List.mem_of_getElem? (i := 132) (by decide +kernel), by decide +kernel⟩
theorem mw135 : (.code yT_logout cT_logout 2 (some .int) : Cond) ∈ lw_g := List.mem_filter.mpr ⟨List.mem_of_getElem? (i := 135) (by decide +kernel), by decide +kernel⟩
theorem mw133 : (.instanceMethod yT_logout : Cond) ∈ lw_g := List.mem_filter.mpr ⟨List.mem_of_getElem? (i := 133) (by decide +kernel), by decide +kernel⟩
theorem mw134 : (.selects cnT yT_logout yT_logout : Cond) ∈ lw_g := List.mem_filter.mpr ⟨List.mem_of_getElem? (i := 134) (by decide +kernel), by decide +kernel⟩
theorem mw340 : (.methodLink R_law 39 yM_logout : Cond) ∈ lw_g := List.mem_filter.mpr ⟨List.mem_of_getElem? (i := 340) (by decide +kernel), by decide +kernel⟩
theorem mw343 : (.code yM_logout cM_logout 3 (some .int) : Cond) ∈ lw_g := List.mem_filter.mpr ⟨List.mem_of_getElem? (i := 343) (by decide +kernel), by decide +kernel⟩
theorem mw341 : (.instanceMethod yM_logout : Cond) ∈ lw_g := List.mem_filter.mpr ⟨List.mem_of_getElem? (i := 341) (by decide +kernel), by decide +kernel⟩
theorem mw342 : (.selects cnM yM_logout yM_logout : Cond) ∈ lw_g := List.mem_filter.mpr ⟨List.mem_of_getElem? (i := 342) (by decide +kernel), by decide +kernel⟩
theorem mw144 : (.methodLink R_law 40 yT_unlock : Cond) ∈ lw_g := List.mem_filter.mpr ⟨List.mem_of_getElem? (i := 144) (by decide +kernel), by decide +kernel⟩
theorem mw147 : (.code yT_unlock cT_unlock 3 (some .int) : Cond) ∈ lw_g := List.mem_filter.mpr ⟨List.mem_of_getElem? (i := 147) (by decide +kernel), by decide +kernel⟩
theorem mw145 : (.instanceMethod yT_unlock : Cond) ∈ lw_g := List.mem_filter.mpr ⟨List.mem_of_getElem? (i := 145) (by decide +kernel), by decide +kernel⟩
theorem mw146 : (.selects cnT yT_unlock yT_unlock : Cond) ∈ lw_g := List.mem_filter.mpr ⟨List.mem_of_getElem? (i := 146) (by decide +kernel), by decide +kernel⟩
theorem mw344 : (.methodLink R_law 44 yM_unlock : Cond) ∈ lw_g := List.mem_filter.mpr ⟨List.mem_of_getElem? (i := 344) (by decide +kernel), by decide +kernel⟩
theorem mw347 : (.code yM_unlock cM_unlock 3 (some .int) : Cond) ∈ lw_g := List.mem_filter.mpr ⟨List.mem_of_getElem? (i := 347) (by decide +kernel), by decide +kernel⟩
theorem mw345 : (.instanceMethod yM_unlock : Cond) ∈ lw_g := List.mem_filter.mpr ⟨List.mem_of_getElem? (i := 345) (by decide +kernel), by decide +kernel⟩
theorem mw346 : (.selects cnM yM_unlock yM_unlock : Cond) ∈ lw_g := List.mem_filter.mpr ⟨List.mem_of_getElem? (i := 346) (by decide +kernel), by decide +kernel⟩
theorem mw152 : (.methodLink R_law 45 yT_create : Cond) ∈ lw_g := List.mem_filter.mpr ⟨List.mem_of_getElem? (i := 152) (by decide +kernel), by decide +kernel⟩
theorem mw155 : (.code yT_create cT_create 5 (some .int) : Cond) ∈ lw_g := List.mem_filter.mpr ⟨List.mem_of_getElem? (i := 155) (by decide +kernel), by decide +kernel⟩
theorem mw153 : (.instanceMethod yT_create : Cond) ∈ lw_g := List.mem_filter.mpr ⟨List.mem_of_getElem? (i := 153) (by decide +kernel), by decide +kernel⟩
theorem mw154 : (.selects cnT yT_create yT_create : Cond) ∈ lw_g := List.mem_filter.mpr ⟨List.mem_of_getElem? (i := 154) (by decide +kernel), by decide +kernel⟩
theorem mw348 : (.methodLink R_law 49 yM_create : Cond) ∈ lw_g := List.mem_filter.mpr ⟨List.mem_of_getElem? (i := 348) (by decide +kernel), by decide +kernel⟩
theorem mw351 : (.code yM_create cM_create 5 (some .int) : Cond) ∈ lw_g := List.mem_filter.mpr ⟨List.mem_of_getElem? (i := 351) (by decide +kernel), by decide +kernel⟩
theorem mw349 : (.instanceMethod yM_create : Cond) ∈ lw_g := List.mem_filter.mpr ⟨List.mem_of_getElem? (i := 349) (by decide +kernel), by decide +kernel⟩
theorem mw350 : (.selects cnM yM_create yM_create : Cond) ∈ lw_g := List.mem_filter.mpr ⟨List.mem_of_getElem? (i := 350) (by decide +kernel), by decide +kernel⟩
theorem mw174 : (.methodLink R_law 50 yT_generate : Cond) ∈ lw_g := List.mem_filter.mpr ⟨List.mem_of_getElem? (i := 174) (by decide +kernel), by decide +kernel⟩
theorem mw177 : (.code yT_generate cT_generate 5 (some .int) : Cond) ∈ lw_g := List.mem_filter.mpr ⟨List.mem_of_getElem? (i := 177) (by decide +kernel), by decide +kernel⟩
theorem mw175 : (.instanceMethod yT_generate : Cond) ∈ lw_g := List.mem_filter.mpr ⟨List.mem_of_getElem? (i := 175) (by decide +kernel), by decide +kernel⟩
theorem mw176 : (.selects cnT yT_generate yT_generate : Cond) ∈ lw_g := List.mem_filter.mpr ⟨List.mem_of_getElem? (i := 176) (by decide +kernel), by decide +kernel⟩
theorem mw371 : (.methodLink R_law 53 yM_generate : Cond) ∈ lw_g := List.mem_filter.mpr ⟨List.mem_of_getElem? (i := 371) (by decide +kernel), by decide +kernel⟩
theorem mw374 : (.code yM_generate cM_generate 6 (some .int) : Cond) ∈ lw_g := List.mem_filter.mpr ⟨List.mem_of_getElem? (i := 374) (by decide +kernel), by decide +kernel⟩
theorem mw372 : (.instanceMethod yM_generate : Cond) ∈ lw_g := List.mem_filter.mpr ⟨List.mem_of_getElem? (i := 372) (by decide +kernel), by decide +kernel⟩
theorem mw373 : (.selects cnM yM_generate yM_generate : Cond) ∈ lw_g := List.mem_filter.mpr ⟨List.mem_of_getElem? (i := 373) (by decide +kernel), by decide +kernel⟩
theorem mw189 : (.methodLink R_law 54 yT_destroy : Cond) ∈ lw_g := List.mem_filter.mpr ⟨List.mem_of_getElem? (i := 189) (by decide +kernel), by decide +kernel⟩
theorem mw192 : (.code yT_destroy cT_destroy 4 (some .int) : Cond) ∈ lw_g := List.mem_filter.mpr ⟨List.mem_of_getElem? (i := 192) (by decide +kernel), by decide +kernel⟩
theorem mw190 : (.instanceMethod yT_destroy : Cond) ∈ lw_g := List.mem_filter.mpr ⟨List.mem_of_getElem? (i := 190) (by decide +kernel), by decide +kernel⟩
theorem mw191 : (.selects cnT yT_destroy yT_destroy : Cond) ∈ lw_g := List.mem_filter.mpr ⟨List.mem_of_getElem? (i := 191) (by decide +kernel), by decide +kernel⟩
theorem mw380 : (.methodLink R_law 57 yM_destroy : Cond) ∈ lw_g := List.mem_filter.mpr ⟨List.mem_of_getElem? (i := 380) (by decide +kernel), by decide +kernel⟩
theorem mw383 : (.code yM_destroy cM_destroy 3 (some .int) : Cond) ∈ lw_g := List.mem_filter.mpr ⟨List.mem_of_getElem? (i := 383) (by decide +kernel), by decide +kernel⟩
theorem mw381 : (.instanceMethod yM_destroy : Cond) ∈ lw_g := List.mem_filter.mpr ⟨List.mem_of_getElem? (i := 381) (by decide +kernel), by decide +kernel⟩
theorem mw382 : (.selects cnM yM_destroy yM_destroy : Cond) ∈ lw_g := List.mem_filter.mpr ⟨List.mem_of_getElem? (i := 382) (by decide +kernel), by decide +kernel⟩
theorem mw211 : (.methodLink R_law 58 yT_attributes : Cond) ∈ lw_g := List.mem_filter.mpr ⟨List.mem_of_getElem? (i := 211) (by decide +kernel), by decide +kernel⟩
theorem mw214 : (.code yT_attributes cT_attributes 4 (some .int) : Cond) ∈ lw_g := List.mem_filter.mpr ⟨List.mem_of_getElem? (i := 214) (by decide +kernel), by decide +kernel⟩
theorem mw212 : (.instanceMethod yT_attributes : Cond) ∈ lw_g := List.mem_filter.mpr ⟨List.mem_of_getElem? (i := 212) (by decide +kernel), by decide +kernel⟩
theorem mw213 : (.selects cnT yT_attributes yT_attributes : Cond) ∈ lw_g := List.mem_filter.mpr ⟨List.mem_of_getElem? (i := 213) (by decide +kernel), by decide +kernel⟩
theorem mw392 : (.methodLink R_law 61 yM_attributes : Cond) ∈ lw_g := List.mem_filter.mpr ⟨List.mem_of_getElem? (i := 392) (by decide +kernel), by decide +kernel⟩
theorem mw395 : (.code yM_attributes cM_attributes 3 (some .int) : Cond) ∈ lw_g := List.mem_filter.mpr ⟨List.mem_of_getElem? (i := 395) (by decide +kernel), by decide +kernel⟩
theorem mw393 : (.instanceMethod yM_attributes : Cond) ∈ lw_g := List.mem_filter.mpr ⟨List.mem_of_getElem? (i := 393) (by decide +kernel), by decide +kernel⟩
theorem mw394 : (.selects cnM yM_attributes yM_attributes : Cond) ∈ lw_g := List.mem_filter.mpr ⟨List.mem_of_getElem? (i := 394) (by decide +kernel), by decide +kernel⟩
theorem mw215 : (.methodLink R_law 62 yT_limit : Cond) ∈ lw_g := List.mem_filter.mpr ⟨List.mem_of_getElem? (i := 215) (by decide +kernel), by decide +kernel⟩
theorem mw218 : (.code yT_limit cT_limit 6 (some .int) : Cond) ∈ lw_g := List.mem_filter.mpr ⟨List.mem_of_getElem? (i := 218) (by decide +kernel), by decide +kernel⟩
theorem mw216 : (.instanceMethod yT_limit : Cond) ∈ lw_g := List.mem_filter.mpr ⟨List.mem_of_getElem? (i := 216) (by decide +kernel), by decide +kernel⟩
theorem mw217 : (.selects cnT yT_limit yT_limit : Cond) ∈ lw_g := List.mem_filter.mpr ⟨List.mem_of_getElem? (i := 217) (by decide +kernel), by decide +kernel⟩
theorem mw396 : (.methodLink R_law 65 yM_limit : Cond) ∈ lw_g := List.mem_filter.mpr ⟨List.mem_of_getElem? (i := 396) (by decide +kernel), by decide +kernel⟩
theorem mw399 : (.code yM_limit cM_limit 6 (some .int) : Cond) ∈ lw_g := List.mem_filter.mpr ⟨List.mem_of_getElem? (i := 399) (by decide +kernel), by decide +kernel⟩
theorem mw397 : (.instanceMethod yM_limit : Cond) ∈ lw_g := List.mem_filter.mpr ⟨List.mem_of_getElem? (i := 397) (by decide +kernel), by decide +kernel⟩
theorem mw398 : (.selects cnM yM_limit yM_limit : Cond) ∈ lw_g := List.mem_filter.mpr ⟨List.mem_of_getElem? (i := 398) (by decide +kernel), by decide +kernel⟩
theorem mw219 : (.methodLink R_law 66 yT_trust : Cond) ∈ lw_g := List.mem_filter.mpr ⟨List.mem_of_getElem? (i := 219) (by decide +kernel), by decide +kernel⟩
theorem mw222 : (.code yT_trust cT_trust 4 (some .int) : Cond) ∈ lw_g := List.mem_filter.mpr ⟨List.mem_of_getElem? (i := 222) (by decide +kernel), by decide +kernel⟩
theorem mw220 : (.instanceMethod yT_trust : Cond) ∈ lw_g := List.mem_filter.mpr ⟨List.mem_of_getElem? (i := 220) (by decide +kernel), by decide +kernel⟩
theorem mw221 : (.selects cnT yT_trust yT_trust : Cond) ∈ lw_g := List.mem_filter.mpr ⟨List.mem_of_getElem? (i := 221) (by decide +kernel), by decide +kernel⟩
theorem mw400 : (.methodLink R_law 69 yM_trust : Cond) ∈ lw_g := List.mem_filter.mpr ⟨List.mem_of_getElem? (i := 400) (by decide +kernel), by decide +kernel⟩
theorem mw403 : (.code yM_trust cM_trust 3 (some .int) : Cond) ∈ lw_g := List.mem_filter.mpr ⟨List.mem_of_getElem? (i := 403) (by decide +kernel), by decide +kernel⟩
theorem mw401 : (.instanceMethod yM_trust : Cond) ∈ lw_g := List.mem_filter.mpr ⟨List.mem_of_getElem? (i := 401) (by decide +kernel), by decide +kernel⟩
theorem mw402 : (.selects cnM yM_trust yM_trust : Cond) ∈ lw_g := List.mem_filter.mpr ⟨List.mem_of_getElem? (i := 402) (by decide +kernel), by decide +kernel⟩
theorem mw223 : (.methodLink R_law 70 yT_read : Cond) ∈ lw_g := List.mem_filter.mpr ⟨List.mem_of_getElem? (i := 223) (by decide +kernel), by decide +kernel⟩
theorem mw226 : (.code yT_read cT_read 4 (some .long) : Cond) ∈ lw_g := List.mem_filter.mpr ⟨List.mem_of_getElem? (i := 226) (by decide +kernel), by decide +kernel⟩
theorem mw224 : (.instanceMethod yT_read : Cond) ∈ lw_g := List.mem_filter.mpr ⟨List.mem_of_getElem? (i := 224) (by decide +kernel), by decide +kernel⟩
theorem mw225 : (.selects cnT yT_read yT_read : Cond) ∈ lw_g := List.mem_filter.mpr ⟨List.mem_of_getElem? (i := 225) (by decide +kernel), by decide +kernel⟩
theorem mw404 : (.methodLink R_law 74 yM_read : Cond) ∈ lw_g := List.mem_filter.mpr ⟨List.mem_of_getElem? (i := 404) (by decide +kernel), by decide +kernel⟩
theorem mw407 : (.code yM_read cM_read 4 (some .long) : Cond) ∈ lw_g := List.mem_filter.mpr ⟨List.mem_of_getElem? (i := 407) (by decide +kernel), by decide +kernel⟩
theorem mw405 : (.instanceMethod yM_read : Cond) ∈ lw_g := List.mem_filter.mpr ⟨List.mem_of_getElem? (i := 405) (by decide +kernel), by decide +kernel⟩
theorem mw406 : (.selects cnM yM_read yM_read : Cond) ∈ lw_g := List.mem_filter.mpr ⟨List.mem_of_getElem? (i := 406) (by decide +kernel), by decide +kernel⟩
theorem mw232 : (.methodLink R_law 75 yT_encrypt : Cond) ∈ lw_g := List.mem_filter.mpr ⟨List.mem_of_getElem? (i := 232) (by decide +kernel), by decide +kernel⟩
theorem mw235 : (.code yT_encrypt cT_encrypt 5 (some .long) : Cond) ∈ lw_g := List.mem_filter.mpr ⟨List.mem_of_getElem? (i := 235) (by decide +kernel), by decide +kernel⟩
theorem mw233 : (.instanceMethod yT_encrypt : Cond) ∈ lw_g := List.mem_filter.mpr ⟨List.mem_of_getElem? (i := 233) (by decide +kernel), by decide +kernel⟩
theorem mw234 : (.selects cnT yT_encrypt yT_encrypt : Cond) ∈ lw_g := List.mem_filter.mpr ⟨List.mem_of_getElem? (i := 234) (by decide +kernel), by decide +kernel⟩
theorem mw416 : (.methodLink R_law 79 yM_encrypt : Cond) ∈ lw_g := List.mem_filter.mpr ⟨List.mem_of_getElem? (i := 416) (by decide +kernel), by decide +kernel⟩
theorem mw419 : (.code yM_encrypt cM_encrypt 5 (some .long) : Cond) ∈ lw_g := List.mem_filter.mpr ⟨List.mem_of_getElem? (i := 419) (by decide +kernel), by decide +kernel⟩
theorem mw417 : (.instanceMethod yM_encrypt : Cond) ∈ lw_g := List.mem_filter.mpr ⟨List.mem_of_getElem? (i := 417) (by decide +kernel), by decide +kernel⟩
theorem mw418 : (.selects cnM yM_encrypt yM_encrypt : Cond) ∈ lw_g := List.mem_filter.mpr ⟨List.mem_of_getElem? (i := 418) (by decide +kernel), by decide +kernel⟩
theorem mw249 : (.methodLink R_law 80 yT_decrypt : Cond) ∈ lw_g := List.mem_filter.mpr ⟨List.mem_of_getElem? (i := 249) (by decide +kernel), by decide +kernel⟩
theorem mw252 : (.code yT_decrypt cT_decrypt 5 (some .long) : Cond) ∈ lw_g := List.mem_filter.mpr ⟨List.mem_of_getElem? (i := 252) (by decide +kernel), by decide +kernel⟩
theorem mw250 : (.instanceMethod yT_decrypt : Cond) ∈ lw_g := List.mem_filter.mpr ⟨List.mem_of_getElem? (i := 250) (by decide +kernel), by decide +kernel⟩
theorem mw251 : (.selects cnT yT_decrypt yT_decrypt : Cond) ∈ lw_g := List.mem_filter.mpr ⟨List.mem_of_getElem? (i := 251) (by decide +kernel), by decide +kernel⟩
theorem mw429 : (.methodLink R_law 83 yM_decrypt : Cond) ∈ lw_g := List.mem_filter.mpr ⟨List.mem_of_getElem? (i := 429) (by decide +kernel), by decide +kernel⟩
theorem mw432 : (.code yM_decrypt cM_decrypt 5 (some .long) : Cond) ∈ lw_g := List.mem_filter.mpr ⟨List.mem_of_getElem? (i := 432) (by decide +kernel), by decide +kernel⟩
theorem mw430 : (.instanceMethod yM_decrypt : Cond) ∈ lw_g := List.mem_filter.mpr ⟨List.mem_of_getElem? (i := 430) (by decide +kernel), by decide +kernel⟩
theorem mw431 : (.selects cnM yM_decrypt yM_decrypt : Cond) ∈ lw_g := List.mem_filter.mpr ⟨List.mem_of_getElem? (i := 431) (by decide +kernel), by decide +kernel⟩
theorem mw256 : (.methodLink R_law 84 yT_sign : Cond) ∈ lw_g := List.mem_filter.mpr ⟨List.mem_of_getElem? (i := 256) (by decide +kernel), by decide +kernel⟩
theorem mw259 : (.code yT_sign cT_sign 5 (some .long) : Cond) ∈ lw_g := List.mem_filter.mpr ⟨List.mem_of_getElem? (i := 259) (by decide +kernel), by decide +kernel⟩
theorem mw257 : (.instanceMethod yT_sign : Cond) ∈ lw_g := List.mem_filter.mpr ⟨List.mem_of_getElem? (i := 257) (by decide +kernel), by decide +kernel⟩
theorem mw258 : (.selects cnT yT_sign yT_sign : Cond) ∈ lw_g := List.mem_filter.mpr ⟨List.mem_of_getElem? (i := 258) (by decide +kernel), by decide +kernel⟩
theorem mw433 : (.methodLink R_law 87 yM_sign : Cond) ∈ lw_g := List.mem_filter.mpr ⟨List.mem_of_getElem? (i := 433) (by decide +kernel), by decide +kernel⟩
theorem mw436 : (.code yM_sign cM_sign 5 (some .long) : Cond) ∈ lw_g := List.mem_filter.mpr ⟨List.mem_of_getElem? (i := 436) (by decide +kernel), by decide +kernel⟩
theorem mw434 : (.instanceMethod yM_sign : Cond) ∈ lw_g := List.mem_filter.mpr ⟨List.mem_of_getElem? (i := 434) (by decide +kernel), by decide +kernel⟩
theorem mw435 : (.selects cnM yM_sign yM_sign : Cond) ∈ lw_g := List.mem_filter.mpr ⟨List.mem_of_getElem? (i := 435) (by decide +kernel), by decide +kernel⟩
theorem mw260 : (.methodLink R_law 88 yT_wrap : Cond) ∈ lw_g := List.mem_filter.mpr ⟨List.mem_of_getElem? (i := 260) (by decide +kernel), by decide +kernel⟩
theorem mw263 : (.code yT_wrap cT_wrap 9 (some .long) : Cond) ∈ lw_g := List.mem_filter.mpr ⟨List.mem_of_getElem? (i := 263) (by decide +kernel), by decide +kernel⟩
theorem mw261 : (.instanceMethod yT_wrap : Cond) ∈ lw_g := List.mem_filter.mpr ⟨List.mem_of_getElem? (i := 261) (by decide +kernel), by decide +kernel⟩
theorem mw262 : (.selects cnT yT_wrap yT_wrap : Cond) ∈ lw_g := List.mem_filter.mpr ⟨List.mem_of_getElem? (i := 262) (by decide +kernel), by decide +kernel⟩
theorem mw437 : (.methodLink R_law 91 yM_wrap : Cond) ∈ lw_g := List.mem_filter.mpr ⟨List.mem_of_getElem? (i := 437) (by decide +kernel), by decide +kernel⟩
theorem mw440 : (.code yM_wrap cM_wrap 8 (some .long) : Cond) ∈ lw_g := List.mem_filter.mpr ⟨List.mem_of_getElem? (i := 440) (by decide +kernel), by decide +kernel⟩
theorem mw438 : (.instanceMethod yM_wrap : Cond) ∈ lw_g := List.mem_filter.mpr ⟨List.mem_of_getElem? (i := 438) (by decide +kernel), by decide +kernel⟩
theorem mw439 : (.selects cnM yM_wrap yM_wrap : Cond) ∈ lw_g := List.mem_filter.mpr ⟨List.mem_of_getElem? (i := 439) (by decide +kernel), by decide +kernel⟩
theorem mw457 : (.constantLong R_law 92 (4294967295) : Cond) ∈ lw_g := List.mem_filter.mpr ⟨List.mem_of_getElem? (i := 457) (by decide +kernel), by decide +kernel⟩
theorem mw268 : (.methodLink R_law 94 yT_unwrap : Cond) ∈ lw_g := List.mem_filter.mpr ⟨List.mem_of_getElem? (i := 268) (by decide +kernel), by decide +kernel⟩
theorem mw271 : (.code yT_unwrap cT_unwrap 11 (some .int) : Cond) ∈ lw_g := List.mem_filter.mpr ⟨List.mem_of_getElem? (i := 271) (by decide +kernel), by decide +kernel⟩
theorem mw269 : (.instanceMethod yT_unwrap : Cond) ∈ lw_g := List.mem_filter.mpr ⟨List.mem_of_getElem? (i := 269) (by decide +kernel), by decide +kernel⟩
theorem mw270 : (.selects cnT yT_unwrap yT_unwrap : Cond) ∈ lw_g := List.mem_filter.mpr ⟨List.mem_of_getElem? (i := 270) (by decide +kernel), by decide +kernel⟩
theorem mw445 : (.methodLink R_law 98 yM_unwrap : Cond) ∈ lw_g := List.mem_filter.mpr ⟨List.mem_of_getElem? (i := 445) (by decide +kernel), by decide +kernel⟩
theorem mw448 : (.code yM_unwrap cM_unwrap 11 (some .int) : Cond) ∈ lw_g := List.mem_filter.mpr ⟨List.mem_of_getElem? (i := 448) (by decide +kernel), by decide +kernel⟩
theorem mw446 : (.instanceMethod yM_unwrap : Cond) ∈ lw_g := List.mem_filter.mpr ⟨List.mem_of_getElem? (i := 446) (by decide +kernel), by decide +kernel⟩
theorem mw447 : (.selects cnM yM_unwrap yM_unwrap : Cond) ∈ lw_g := List.mem_filter.mpr ⟨List.mem_of_getElem? (i := 447) (by decide +kernel), by decide +kernel⟩
theorem mw272 : (.methodLink R_law 99 yT_find : Cond) ∈ lw_g := List.mem_filter.mpr ⟨List.mem_of_getElem? (i := 272) (by decide +kernel), by decide +kernel⟩
theorem mw275 : (.code yT_find cT_find 5 (some .int) : Cond) ∈ lw_g := List.mem_filter.mpr ⟨List.mem_of_getElem? (i := 275) (by decide +kernel), by decide +kernel⟩
theorem mw273 : (.instanceMethod yT_find : Cond) ∈ lw_g := List.mem_filter.mpr ⟨List.mem_of_getElem? (i := 273) (by decide +kernel), by decide +kernel⟩
theorem mw274 : (.selects cnT yT_find yT_find : Cond) ∈ lw_g := List.mem_filter.mpr ⟨List.mem_of_getElem? (i := 274) (by decide +kernel), by decide +kernel⟩
theorem mw449 : (.methodLink R_law 102 yM_find : Cond) ∈ lw_g := List.mem_filter.mpr ⟨List.mem_of_getElem? (i := 449) (by decide +kernel), by decide +kernel⟩
theorem mw452 : (.code yM_find cM_find 5 (some .int) : Cond) ∈ lw_g := List.mem_filter.mpr ⟨List.mem_of_getElem? (i := 452) (by decide +kernel), by decide +kernel⟩
theorem mw450 : (.instanceMethod yM_find : Cond) ∈ lw_g := List.mem_filter.mpr ⟨List.mem_of_getElem? (i := 450) (by decide +kernel), by decide +kernel⟩
theorem mw451 : (.selects cnM yM_find yM_find : Cond) ∈ lw_g := List.mem_filter.mpr ⟨List.mem_of_getElem? (i := 451) (by decide +kernel), by decide +kernel⟩
theorem mw276 : (.methodLink R_law 103 yT_status : Cond) ∈ lw_g := List.mem_filter.mpr ⟨List.mem_of_getElem? (i := 276) (by decide +kernel), by decide +kernel⟩
theorem mw279 : (.code yT_status cT_status 2 (some .int) : Cond) ∈ lw_g := List.mem_filter.mpr ⟨List.mem_of_getElem? (i := 279) (by decide +kernel), by decide +kernel⟩
theorem mw277 : (.instanceMethod yT_status : Cond) ∈ lw_g := List.mem_filter.mpr ⟨List.mem_of_getElem? (i := 277) (by decide +kernel), by decide +kernel⟩
theorem mw278 : (.selects cnT yT_status yT_status : Cond) ∈ lw_g := List.mem_filter.mpr ⟨List.mem_of_getElem? (i := 278) (by decide +kernel), by decide +kernel⟩
theorem mw453 : (.methodLink R_law 106 yM_status : Cond) ∈ lw_g := List.mem_filter.mpr ⟨List.mem_of_getElem? (i := 453) (by decide +kernel), by decide +kernel⟩
theorem mw456 : (.code yM_status cM_status 4 (some .int) : Cond) ∈ lw_g := List.mem_filter.mpr ⟨List.mem_of_getElem? (i := 456) (by decide +kernel), by decide +kernel⟩
theorem mw454 : (.instanceMethod yM_status : Cond) ∈ lw_g := List.mem_filter.mpr ⟨List.mem_of_getElem? (i := 454) (by decide +kernel), by decide +kernel⟩
theorem mw455 : (.selects cnM yM_status yM_status : Cond) ∈ lw_g := List.mem_filter.mpr ⟨List.mem_of_getElem? (i := 455) (by decide +kernel), by decide +kernel⟩
theorem mw30 : (.instantiable cnT 7 : Cond) ∈ lw_g := List.mem_filter.mpr ⟨List.mem_of_getElem? (i := 30) (by decide +kernel), by decide +kernel⟩
theorem mw284 : (.instantiable cnM 10 : Cond) ∈ lw_g := List.mem_filter.mpr ⟨List.mem_of_getElem? (i := 284) (by decide +kernel), by decide +kernel⟩
theorem mw29 : (.classLink R_law 7 cnT : Cond) ∈ lw_g := List.mem_filter.mpr ⟨List.mem_of_getElem? (i := 29) (by decide +kernel), by decide +kernel⟩
theorem mw280 : (.methodLink R_law 9 yL_cell : Cond) ∈ lw_g := List.mem_filter.mpr ⟨List.mem_of_getElem? (i := 280) (by decide +kernel), by decide +kernel⟩
theorem mw282 : (.code yL_cell cL_cell 2 (some .int) : Cond) ∈ lw_g := List.mem_filter.mpr ⟨List.mem_of_getElem? (i := 282) (by decide +kernel), by decide +kernel⟩
theorem mw23 : (.initialized R_law : Cond) ∈ lw_g := List.mem_filter.mpr ⟨List.mem_of_getElem? (i := 23) (by decide +kernel), by decide +kernel⟩
theorem mw281 : (.static yL_cell : Cond) ∈ lw_g := List.mem_filter.mpr ⟨List.mem_of_getElem? (i := 281) (by decide +kernel), by decide +kernel⟩
theorem mw31 : (.methodLink R_law 15 yT_init : Cond) ∈ lw_g := List.mem_filter.mpr ⟨List.mem_of_getElem? (i := 31) (by decide +kernel), by decide +kernel⟩
theorem mw33 : (.code yT_init cT_init 3 none : Cond) ∈ lw_g := List.mem_filter.mpr ⟨List.mem_of_getElem? (i := 33) (by decide +kernel), by decide +kernel⟩
theorem mw32 : (.instanceMethod yT_init : Cond) ∈ lw_g := List.mem_filter.mpr ⟨List.mem_of_getElem? (i := 32) (by decide +kernel), by decide +kernel⟩
theorem mw283 : (.classLink R_law 18 cnM : Cond) ∈ lw_g := List.mem_filter.mpr ⟨List.mem_of_getElem? (i := 283) (by decide +kernel), by decide +kernel⟩
theorem mw285 : (.methodLink R_law 20 yM_init : Cond) ∈ lw_g := List.mem_filter.mpr ⟨List.mem_of_getElem? (i := 285) (by decide +kernel), by decide +kernel⟩
theorem mw287 : (.code yM_init cM_init 3 none : Cond) ∈ lw_g := List.mem_filter.mpr ⟨List.mem_of_getElem? (i := 287) (by decide +kernel), by decide +kernel⟩
theorem mw286 : (.instanceMethod yM_init : Cond) ∈ lw_g := List.mem_filter.mpr ⟨List.mem_of_getElem? (i := 286) (by decide +kernel), by decide +kernel⟩
theorem gd_yW_byteOf : GoodIn lw_g wsW_byteOf := lw_goodIn mw184
theorem gd_yW_half : GoodIn lw_g wsW_half := lw_goodIn mw246
theorem gd_yT_hasBoth : GoodIn lw_g wsT_hasBoth := lw_goodIn mw169
theorem gd_yW_mac : GoodIn lw_g wsW_mac := lw_goodIn mw181
theorem gd_yM_half : GoodIn lw_g wsM_half := lw_goodIn mw426
theorem gd_yM_has : GoodIn lw_g wsM_has := lw_goodIn mw335
theorem gd_yK_removeRow : GoodIn lw_g wsK_removeRow := lw_goodIn mw123
theorem gd_yK_has : GoodIn lw_g wsK_has := lw_goodIn mw143
theorem gd_yT_isOpen : GoodIn lw_g wsT_isOpen := lw_goodIn mw111
theorem gd_yT_isReadWrite : GoodIn lw_g wsT_isReadWrite := lw_goodIn mw163
theorem gd_yK_rowWith : GoodIn lw_g wsK_rowWith := lw_goodIn mw200
theorem gd_yT_isVisible : GoodIn lw_g wsT_isVisible := lw_goodIn mw204
theorem gd_yT_rowOrRefusal : GoodIn lw_g wsT_rowOrRefusal := lw_goodIn mw196
theorem gd_yT_areGood : GoodIn lw_g wsT_areGood := lw_goodIn mw166
theorem gd_yK_removeOwnedBy : GoodIn lw_g wsK_removeOwnedBy := lw_goodIn mw119
theorem gd_yR_tryPin : GoodIn lw_g wsR_tryPin := lw_goodIn mw131
theorem gd_yK_removePrivateSessionKeys : GoodIn lw_g wsK_removePrivateSessionKeys := lw_goodIn mw139
theorem gd_yR_renew : GoodIn lw_g wsR_renew := lw_goodIn mw151
theorem gd_yT_refusalToMake : GoodIn lw_g wsT_refusalToMake := lw_goodIn mw159
theorem gd_yK_add : GoodIn lw_g wsK_add := lw_goodIn mw173
theorem gd_yT_originOf : GoodIn lw_g wsT_originOf := lw_goodIn mw188
theorem gd_yT_isFixedFor : GoodIn lw_g wsT_isFixedFor := lw_goodIn mw209
theorem gd_yT_answered : GoodIn lw_g wsT_answered := lw_goodIn mw230
theorem gd_yT_rowForUse : GoodIn lw_g wsT_rowForUse := lw_goodIn mw239
theorem gd_yW_enc : GoodIn lw_g wsW_enc := lw_goodIn mw242
theorem gd_yW_dec : GoodIn lw_g wsW_dec := lw_goodIn mw255
theorem gd_yT_tagOf : GoodIn lw_g wsT_tagOf := lw_goodIn mw266
theorem gd_yM_visible : GoodIn lw_g wsM_visible := lw_goodIn mw391
theorem gd_yM_readOnly : GoodIn lw_g wsM_readOnly := lw_goodIn mw359
theorem gd_yM_good : GoodIn lw_g wsM_good := lw_goodIn mw362
theorem gd_yM_count : GoodIn lw_g wsM_count := lw_goodIn mw366
theorem gd_yM_closed : GoodIn lw_g wsM_closed := lw_goodIn mw332
theorem gd_yM_obstacle : GoodIn lw_g wsM_obstacle := lw_goodIn mw355
theorem gd_yM_enter : GoodIn lw_g wsM_enter := lw_goodIn mw370
theorem gd_yM_mac : GoodIn lw_g wsM_mac := lw_goodIn mw378
theorem gd_yM_hidden : GoodIn lw_g wsM_hidden := lw_goodIn mw387
theorem gd_yM_bar : GoodIn lw_g wsM_bar := lw_goodIn mw411
theorem gd_yM_answer : GoodIn lw_g wsM_answer := lw_goodIn mw414
theorem gd_yM_rounds : GoodIn lw_g wsM_rounds := lw_goodIn mw422
theorem gd_yR_init : GoodIn lw_g wsR_init := lw_goodIn mw41
theorem gd_yK_init : GoodIn lw_g wsK_init := lw_goodIn mw55
theorem gd_yT_open : GoodIn lw_g wsT_open := lw_goodIn mw107
theorem gd_yM_open : GoodIn lw_g wsM_open := lw_goodIn mw324
theorem gd_yT_close : GoodIn lw_g wsT_close := lw_goodIn mw115
theorem gd_yM_close : GoodIn lw_g wsM_close := lw_goodIn mw328
theorem gd_yT_login : GoodIn lw_g wsT_login := lw_goodIn mw127
theorem gd_yM_login : GoodIn lw_g wsM_login := lw_goodIn mw339
theorem gd_yT_logout : GoodIn lw_g wsT_logout := lw_goodIn mw135
theorem gd_yM_logout : GoodIn lw_g wsM_logout := lw_goodIn mw343
theorem gd_yT_unlock : GoodIn lw_g wsT_unlock := lw_goodIn mw147
theorem gd_yM_unlock : GoodIn lw_g wsM_unlock := lw_goodIn mw347
theorem gd_yT_create : GoodIn lw_g wsT_create := lw_goodIn mw155
theorem gd_yM_create : GoodIn lw_g wsM_create := lw_goodIn mw351
theorem gd_yT_generate : GoodIn lw_g wsT_generate := lw_goodIn mw177
theorem gd_yM_generate : GoodIn lw_g wsM_generate := lw_goodIn mw374
theorem gd_yT_destroy : GoodIn lw_g wsT_destroy := lw_goodIn mw192
theorem gd_yM_destroy : GoodIn lw_g wsM_destroy := lw_goodIn mw383
theorem gd_yT_attributes : GoodIn lw_g wsT_attributes := lw_goodIn mw214
theorem gd_yM_attributes : GoodIn lw_g wsM_attributes := lw_goodIn mw395
theorem gd_yT_limit : GoodIn lw_g wsT_limit := lw_goodIn mw218
theorem gd_yM_limit : GoodIn lw_g wsM_limit := lw_goodIn mw399
theorem gd_yT_trust : GoodIn lw_g wsT_trust := lw_goodIn mw222
theorem gd_yM_trust : GoodIn lw_g wsM_trust := lw_goodIn mw403
theorem gd_yT_read : GoodIn lw_g wsT_read := lw_goodIn mw226
theorem gd_yM_read : GoodIn lw_g wsM_read := lw_goodIn mw407
theorem gd_yT_encrypt : GoodIn lw_g wsT_encrypt := lw_goodIn mw235
theorem gd_yM_encrypt : GoodIn lw_g wsM_encrypt := lw_goodIn mw419
theorem gd_yT_decrypt : GoodIn lw_g wsT_decrypt := lw_goodIn mw252
theorem gd_yM_decrypt : GoodIn lw_g wsM_decrypt := lw_goodIn mw432
theorem gd_yT_sign : GoodIn lw_g wsT_sign := lw_goodIn mw259
theorem gd_yM_sign : GoodIn lw_g wsM_sign := lw_goodIn mw436
theorem gd_yT_wrap : GoodIn lw_g wsT_wrap := lw_goodIn mw263
theorem gd_yM_wrap : GoodIn lw_g wsM_wrap := lw_goodIn mw440
theorem gd_yT_unwrap : GoodIn lw_g wsT_unwrap := lw_goodIn mw271
theorem gd_yM_unwrap : GoodIn lw_g wsM_unwrap := lw_goodIn mw448
theorem gd_yT_find : GoodIn lw_g wsT_find := lw_goodIn mw275
theorem gd_yM_find : GoodIn lw_g wsM_find := lw_goodIn mw452
theorem gd_yT_status : GoodIn lw_g wsT_status := lw_goodIn mw279
theorem gd_yM_status : GoodIn lw_g wsM_status := lw_goodIn mw456
theorem gd_yL_cell : GoodIn lw_g wsL_cell := lw_goodIn mw282
theorem gd_yT_init : GoodIn lw_g wsT_init := lw_goodIn mw33
theorem gd_yM_init : GoodIn lw_g wsM_init := lw_goodIn mw287
end
section
theorem dT_init_0 : decode cT_init 0 = .ok (.aload_n 0, 1) := by decide +kernel
theorem dT_init_1 : decode cT_init 1 = .ok (.invokespecial 3, 3) := by decide +kernel
theorem dT_init_4 : decode cT_init 4 = .ok (.aload_n 0, 1) := by decide +kernel
theorem dT_init_5 : decode cT_init 5 = .ok (.new 9, 3) := by decide +kernel
theorem dT_init_8 : decode cT_init 8 = .ok (.dup, 1) := by decide +kernel
theorem dT_init_9 : decode cT_init 9 = .ok (.iload_n 1, 1) := by decide +kernel
theorem dT_init_10 : decode cT_init 10 = .ok (.invokespecial 11, 3) := by decide +kernel
theorem dT_init_13 : decode cT_init 13 = .ok (.putfield 14, 3) := by decide +kernel
theorem dT_init_16 : decode cT_init 16 = .ok (.aload_n 0, 1) := by decide +kernel
theorem dT_init_17 : decode cT_init 17 = .ok (.new 9, 3) := by decide +kernel
theorem dT_init_20 : decode cT_init 20 = .ok (.dup, 1) := by decide +kernel
theorem dT_init_21 : decode cT_init 21 = .ok (.iload_n 2, 1) := by decide +kernel
theorem dT_init_22 : decode cT_init 22 = .ok (.invokespecial 11, 3) := by decide +kernel
theorem dT_init_25 : decode cT_init 25 = .ok (.putfield 18, 3) := by decide +kernel
theorem dT_init_28 : decode cT_init 28 = .ok (.aload_n 0, 1) := by decide +kernel
theorem dT_init_29 : decode cT_init 29 = .ok (.new 21, 3) := by decide +kernel
theorem dT_init_32 : decode cT_init 32 = .ok (.dup, 1) := by decide +kernel
theorem dT_init_33 : decode cT_init 33 = .ok (.invokespecial 23, 3) := by decide +kernel
theorem dT_init_36 : decode cT_init 36 = .ok (.putfield 24, 3) := by decide +kernel
theorem dT_init_39 : decode cT_init 39 = .ok (.aload_n 0, 1) := by decide +kernel
theorem dT_init_40 : decode cT_init 40 = .ok (.iconst 0, 1) := by decide +kernel
theorem dT_init_41 : decode cT_init 41 = .ok (.putfield 28, 3) := by decide +kernel
theorem dT_init_44 : decode cT_init 44 = .ok (.return_, 1) := by decide +kernel
theorem dT_open_0 : decode cT_open 0 = .ok (.iload_n 1, 1) := by decide +kernel
theorem dT_open_1 : decode cT_open 1 = .ok (.ifCond .ne 14, 3) := by decide +kernel
theorem dT_open_4 : decode cT_open 4 = .ok (.aload_n 0, 1) := by decide +kernel
theorem dT_open_5 : decode cT_open 5 = .ok (.getfield 28, 3) := by decide +kernel
theorem dT_open_8 : decode cT_open 8 = .ok (.iconst 2, 1) := by decide +kernel
theorem dT_open_9 : decode cT_open 9 = .ok (.if_icmp .ne 6, 3) := by decide +kernel
theorem dT_open_12 : decode cT_open 12 = .ok (.bipush (-3), 2) := by decide +kernel
theorem dT_open_14 : decode cT_open 14 = .ok (.ireturn, 1) := by decide +kernel
theorem dT_open_15 : decode cT_open 15 = .ok (.iconst 0, 1) := by decide +kernel
theorem dT_open_16 : decode cT_open 16 = .ok (.istore_n 2, 1) := by decide +kernel
theorem dT_open_17 : decode cT_open 17 = .ok (.iload_n 2, 1) := by decide +kernel
theorem dT_open_18 : decode cT_open 18 = .ok (.iconst 3, 1) := by decide +kernel
theorem dT_open_19 : decode cT_open 19 = .ok (.if_icmp .ge 47, 3) := by decide +kernel
theorem dT_open_22 : decode cT_open 22 = .ok (.aload_n 0, 1) := by decide +kernel
theorem dT_open_23 : decode cT_open 23 = .ok (.iload_n 2, 1) := by decide +kernel
theorem dT_open_24 : decode cT_open 24 = .ok (.invokevirtual 32, 3) := by decide +kernel
theorem dT_open_27 : decode cT_open 27 = .ok (.ifCond .ne 33, 3) := by decide +kernel
theorem dT_open_30 : decode cT_open 30 = .ok (.aload_n 0, 1) := by decide +kernel
theorem dT_open_31 : decode cT_open 31 = .ok (.dup, 1) := by decide +kernel
theorem dT_open_32 : decode cT_open 32 = .ok (.getfield 36, 3) := by decide +kernel
theorem dT_open_35 : decode cT_open 35 = .ok (.iconst 1, 1) := by decide +kernel
theorem dT_open_36 : decode cT_open 36 = .ok (.iload_n 2, 1) := by decide +kernel
theorem dT_open_37 : decode cT_open 37 = .ok (.ishl, 1) := by decide +kernel
theorem dT_open_38 : decode cT_open 38 = .ok (.ior, 1) := by decide +kernel
theorem dT_open_39 : decode cT_open 39 = .ok (.putfield 36, 3) := by decide +kernel
theorem dT_open_42 : decode cT_open 42 = .ok (.iload_n 1, 1) := by decide +kernel
theorem dT_open_43 : decode cT_open 43 = .ok (.ifCond .eq 15, 3) := by decide +kernel
theorem dT_open_46 : decode cT_open 46 = .ok (.aload_n 0, 1) := by decide +kernel
theorem dT_open_47 : decode cT_open 47 = .ok (.dup, 1) := by decide +kernel
theorem dT_open_48 : decode cT_open 48 = .ok (.getfield 39, 3) := by decide +kernel
theorem dT_open_51 : decode cT_open 51 = .ok (.iconst 1, 1) := by decide +kernel
theorem dT_open_52 : decode cT_open 52 = .ok (.iload_n 2, 1) := by decide +kernel
theorem dT_open_53 : decode cT_open 53 = .ok (.ishl, 1) := by decide +kernel
theorem dT_open_54 : decode cT_open 54 = .ok (.ior, 1) := by decide +kernel
theorem dT_open_55 : decode cT_open 55 = .ok (.putfield 39, 3) := by decide +kernel
theorem dT_open_58 : decode cT_open 58 = .ok (.iload_n 2, 1) := by decide +kernel
theorem dT_open_59 : decode cT_open 59 = .ok (.ireturn, 1) := by decide +kernel
theorem dT_open_60 : decode cT_open 60 = .ok (.iinc 2 1, 3) := by decide +kernel
theorem dT_open_63 : decode cT_open 63 = .ok (.goto (-46), 3) := by decide +kernel
theorem dT_open_66 : decode cT_open 66 = .ok (.bipush (-6), 2) := by decide +kernel
theorem dT_open_68 : decode cT_open 68 = .ok (.ireturn, 1) := by decide +kernel
theorem dT_close_0 : decode cT_close 0 = .ok (.aload_n 0, 1) := by decide +kernel
theorem dT_close_1 : decode cT_close 1 = .ok (.iload_n 1, 1) := by decide +kernel
theorem dT_close_2 : decode cT_close 2 = .ok (.invokevirtual 32, 3) := by decide +kernel
theorem dT_close_5 : decode cT_close 5 = .ok (.ifCond .ne 5, 3) := by decide +kernel
theorem dT_close_8 : decode cT_close 8 = .ok (.iconst (-1), 1) := by decide +kernel
theorem dT_close_9 : decode cT_close 9 = .ok (.ireturn, 1) := by decide +kernel
theorem dT_close_10 : decode cT_close 10 = .ok (.aload_n 0, 1) := by decide +kernel
theorem dT_close_11 : decode cT_close 11 = .ok (.dup, 1) := by decide +kernel
theorem dT_close_12 : decode cT_close 12 = .ok (.getfield 36, 3) := by decide +kernel
theorem dT_close_15 : decode cT_close 15 = .ok (.iconst 1, 1) := by decide +kernel
theorem dT_close_16 : decode cT_close 16 = .ok (.iload_n 1, 1) := by decide +kernel
theorem dT_close_17 : decode cT_close 17 = .ok (.ishl, 1) := by decide +kernel
theorem dT_close_18 : decode cT_close 18 = .ok (.iconst (-1), 1) := by decide +kernel
theorem dT_close_19 : decode cT_close 19 = .ok (.ixor, 1) := by decide +kernel
theorem dT_close_20 : decode cT_close 20 = .ok (.iand, 1) := by decide +kernel
theorem dT_close_21 : decode cT_close 21 = .ok (.putfield 36, 3) := by decide +kernel
theorem dT_close_24 : decode cT_close 24 = .ok (.aload_n 0, 1) := by decide +kernel
theorem dT_close_25 : decode cT_close 25 = .ok (.dup, 1) := by decide +kernel
theorem dT_close_26 : decode cT_close 26 = .ok (.getfield 39, 3) := by decide +kernel
theorem dT_close_29 : decode cT_close 29 = .ok (.iconst 1, 1) := by decide +kernel
theorem dT_close_30 : decode cT_close 30 = .ok (.iload_n 1, 1) := by decide +kernel
theorem dT_close_31 : decode cT_close 31 = .ok (.ishl, 1) := by decide +kernel
theorem dT_close_32 : decode cT_close 32 = .ok (.iconst (-1), 1) := by decide +kernel
theorem dT_close_33 : decode cT_close 33 = .ok (.ixor, 1) := by decide +kernel
theorem dT_close_34 : decode cT_close 34 = .ok (.iand, 1) := by decide +kernel
theorem dT_close_35 : decode cT_close 35 = .ok (.putfield 39, 3) := by decide +kernel
theorem dT_close_38 : decode cT_close 38 = .ok (.aload_n 0, 1) := by decide +kernel
theorem dT_close_39 : decode cT_close 39 = .ok (.getfield 24, 3) := by decide +kernel
theorem dT_close_42 : decode cT_close 42 = .ok (.iload_n 1, 1) := by decide +kernel
theorem dT_close_43 : decode cT_close 43 = .ok (.invokevirtual 42, 3) := by decide +kernel
theorem dT_close_46 : decode cT_close 46 = .ok (.aload_n 0, 1) := by decide +kernel
theorem dT_close_47 : decode cT_close 47 = .ok (.getfield 36, 3) := by decide +kernel
theorem dT_close_50 : decode cT_close 50 = .ok (.ifCond .ne 8, 3) := by decide +kernel
theorem dT_close_53 : decode cT_close 53 = .ok (.aload_n 0, 1) := by decide +kernel
theorem dT_close_54 : decode cT_close 54 = .ok (.iconst 0, 1) := by decide +kernel
theorem dT_close_55 : decode cT_close 55 = .ok (.putfield 28, 3) := by decide +kernel
theorem dT_close_58 : decode cT_close 58 = .ok (.iconst 0, 1) := by decide +kernel
theorem dT_close_59 : decode cT_close 59 = .ok (.ireturn, 1) := by decide +kernel
theorem dT_login_0 : decode cT_login 0 = .ok (.aload_n 0, 1) := by decide +kernel
theorem dT_login_1 : decode cT_login 1 = .ok (.iload_n 1, 1) := by decide +kernel
theorem dT_login_2 : decode cT_login 2 = .ok (.invokevirtual 32, 3) := by decide +kernel
theorem dT_login_5 : decode cT_login 5 = .ok (.ifCond .ne 5, 3) := by decide +kernel
theorem dT_login_8 : decode cT_login 8 = .ok (.iconst (-1), 1) := by decide +kernel
theorem dT_login_9 : decode cT_login 9 = .ok (.ireturn, 1) := by decide +kernel
theorem dT_login_10 : decode cT_login 10 = .ok (.aload_n 0, 1) := by decide +kernel
theorem dT_login_11 : decode cT_login 11 = .ok (.getfield 28, 3) := by decide +kernel
theorem dT_login_14 : decode cT_login 14 = .ok (.ifCond .eq 6, 3) := by decide +kernel
theorem dT_login_17 : decode cT_login 17 = .ok (.bipush (-3), 2) := by decide +kernel
theorem dT_login_19 : decode cT_login 19 = .ok (.ireturn, 1) := by decide +kernel
theorem dT_login_20 : decode cT_login 20 = .ok (.iload_n 2, 1) := by decide +kernel
theorem dT_login_21 : decode cT_login 21 = .ok (.ifCond .eq 17, 3) := by decide +kernel
theorem dT_login_24 : decode cT_login 24 = .ok (.aload_n 0, 1) := by decide +kernel
theorem dT_login_25 : decode cT_login 25 = .ok (.getfield 36, 3) := by decide +kernel
theorem dT_login_28 : decode cT_login 28 = .ok (.aload_n 0, 1) := by decide +kernel
theorem dT_login_29 : decode cT_login 29 = .ok (.getfield 39, 3) := by decide +kernel
theorem dT_login_32 : decode cT_login 32 = .ok (.if_icmp .eq 6, 3) := by decide +kernel
theorem dT_login_35 : decode cT_login 35 = .ok (.bipush (-4), 2) := by decide +kernel
theorem dT_login_37 : decode cT_login 37 = .ok (.ireturn, 1) := by decide +kernel
theorem dT_login_38 : decode cT_login 38 = .ok (.iload_n 2, 1) := by decide +kernel
theorem dT_login_39 : decode cT_login 39 = .ok (.ifCond .eq 10, 3) := by decide +kernel
theorem dT_login_42 : decode cT_login 42 = .ok (.aload_n 0, 1) := by decide +kernel
theorem dT_login_43 : decode cT_login 43 = .ok (.getfield 18, 3) := by decide +kernel
theorem dT_login_46 : decode cT_login 46 = .ok (.goto 7, 3) := by decide +kernel
theorem dT_login_49 : decode cT_login 49 = .ok (.aload_n 0, 1) := by decide +kernel
theorem dT_login_50 : decode cT_login 50 = .ok (.getfield 14, 3) := by decide +kernel
theorem dT_login_53 : decode cT_login 53 = .ok (.astore 4, 2) := by decide +kernel
theorem dT_login_55 : decode cT_login 55 = .ok (.aload 4, 2) := by decide +kernel
theorem dT_login_57 : decode cT_login 57 = .ok (.iload_n 3, 1) := by decide +kernel
theorem dT_login_58 : decode cT_login 58 = .ok (.invokevirtual 45, 3) := by decide +kernel
theorem dT_login_61 : decode cT_login 61 = .ok (.istore 5, 2) := by decide +kernel
theorem dT_login_63 : decode cT_login 63 = .ok (.iload 5, 2) := by decide +kernel
theorem dT_login_65 : decode cT_login 65 = .ok (.ifCond .ne 16, 3) := by decide +kernel
theorem dT_login_68 : decode cT_login 68 = .ok (.aload_n 0, 1) := by decide +kernel
theorem dT_login_69 : decode cT_login 69 = .ok (.iload_n 2, 1) := by decide +kernel
theorem dT_login_70 : decode cT_login 70 = .ok (.ifCond .eq 7, 3) := by decide +kernel
theorem dT_login_73 : decode cT_login 73 = .ok (.iconst 2, 1) := by decide +kernel
theorem dT_login_74 : decode cT_login 74 = .ok (.goto 4, 3) := by decide +kernel
theorem dT_login_77 : decode cT_login 77 = .ok (.iconst 1, 1) := by decide +kernel
theorem dT_login_78 : decode cT_login 78 = .ok (.putfield 28, 3) := by decide +kernel
theorem dT_login_81 : decode cT_login 81 = .ok (.iload 5, 2) := by decide +kernel
theorem dT_login_83 : decode cT_login 83 = .ok (.ireturn, 1) := by decide +kernel
theorem dT_logout_0 : decode cT_logout 0 = .ok (.aload_n 0, 1) := by decide +kernel
theorem dT_logout_1 : decode cT_logout 1 = .ok (.iload_n 1, 1) := by decide +kernel
theorem dT_logout_2 : decode cT_logout 2 = .ok (.invokevirtual 32, 3) := by decide +kernel
theorem dT_logout_5 : decode cT_logout 5 = .ok (.ifCond .ne 5, 3) := by decide +kernel
theorem dT_logout_8 : decode cT_logout 8 = .ok (.iconst (-1), 1) := by decide +kernel
theorem dT_logout_9 : decode cT_logout 9 = .ok (.ireturn, 1) := by decide +kernel
theorem dT_logout_10 : decode cT_logout 10 = .ok (.aload_n 0, 1) := by decide +kernel
theorem dT_logout_11 : decode cT_logout 11 = .ok (.getfield 28, 3) := by decide +kernel
theorem dT_logout_14 : decode cT_logout 14 = .ok (.ifCond .ne 6, 3) := by decide +kernel
theorem dT_logout_17 : decode cT_logout 17 = .ok (.bipush (-3), 2) := by decide +kernel
theorem dT_logout_19 : decode cT_logout 19 = .ok (.ireturn, 1) := by decide +kernel
theorem dT_logout_20 : decode cT_logout 20 = .ok (.aload_n 0, 1) := by decide +kernel
theorem dT_logout_21 : decode cT_logout 21 = .ok (.iconst 0, 1) := by decide +kernel
theorem dT_logout_22 : decode cT_logout 22 = .ok (.putfield 28, 3) := by decide +kernel
theorem dT_logout_25 : decode cT_logout 25 = .ok (.aload_n 0, 1) := by decide +kernel
theorem dT_logout_26 : decode cT_logout 26 = .ok (.getfield 24, 3) := by decide +kernel
theorem dT_logout_29 : decode cT_logout 29 = .ok (.invokevirtual 49, 3) := by decide +kernel
theorem dT_logout_32 : decode cT_logout 32 = .ok (.iconst 0, 1) := by decide +kernel
theorem dT_logout_33 : decode cT_logout 33 = .ok (.ireturn, 1) := by decide +kernel
theorem dT_unlock_0 : decode cT_unlock 0 = .ok (.aload_n 0, 1) := by decide +kernel
theorem dT_unlock_1 : decode cT_unlock 1 = .ok (.iload_n 1, 1) := by decide +kernel
theorem dT_unlock_2 : decode cT_unlock 2 = .ok (.invokevirtual 32, 3) := by decide +kernel
theorem dT_unlock_5 : decode cT_unlock 5 = .ok (.ifCond .ne 5, 3) := by decide +kernel
theorem dT_unlock_8 : decode cT_unlock 8 = .ok (.iconst (-1), 1) := by decide +kernel
theorem dT_unlock_9 : decode cT_unlock 9 = .ok (.ireturn, 1) := by decide +kernel
theorem dT_unlock_10 : decode cT_unlock 10 = .ok (.aload_n 0, 1) := by decide +kernel
theorem dT_unlock_11 : decode cT_unlock 11 = .ok (.getfield 28, 3) := by decide +kernel
theorem dT_unlock_14 : decode cT_unlock 14 = .ok (.iconst 2, 1) := by decide +kernel
theorem dT_unlock_15 : decode cT_unlock 15 = .ok (.if_icmp .eq 6, 3) := by decide +kernel
theorem dT_unlock_18 : decode cT_unlock 18 = .ok (.bipush (-3), 2) := by decide +kernel
theorem dT_unlock_20 : decode cT_unlock 20 = .ok (.ireturn, 1) := by decide +kernel
theorem dT_unlock_21 : decode cT_unlock 21 = .ok (.aload_n 0, 1) := by decide +kernel
theorem dT_unlock_22 : decode cT_unlock 22 = .ok (.getfield 14, 3) := by decide +kernel
theorem dT_unlock_25 : decode cT_unlock 25 = .ok (.iload_n 2, 1) := by decide +kernel
theorem dT_unlock_26 : decode cT_unlock 26 = .ok (.invokevirtual 52, 3) := by decide +kernel
theorem dT_unlock_29 : decode cT_unlock 29 = .ok (.iconst 0, 1) := by decide +kernel
theorem dT_unlock_30 : decode cT_unlock 30 = .ok (.ireturn, 1) := by decide +kernel
theorem dT_create_0 : decode cT_create 0 = .ok (.aload_n 0, 1) := by decide +kernel
theorem dT_create_1 : decode cT_create 1 = .ok (.iload_n 1, 1) := by decide +kernel
theorem dT_create_2 : decode cT_create 2 = .ok (.iload_n 2, 1) := by decide +kernel
theorem dT_create_3 : decode cT_create 3 = .ok (.iconst 1, 1) := by decide +kernel
theorem dT_create_4 : decode cT_create 4 = .ok (.invokevirtual 55, 3) := by decide +kernel
theorem dT_create_7 : decode cT_create 7 = .ok (.istore 4, 2) := by decide +kernel
theorem dT_create_9 : decode cT_create 9 = .ok (.iload 4, 2) := by decide +kernel
theorem dT_create_11 : decode cT_create 11 = .ok (.ifCond .eq 6, 3) := by decide +kernel
theorem dT_create_14 : decode cT_create 14 = .ok (.iload 4, 2) := by decide +kernel
theorem dT_create_16 : decode cT_create 16 = .ok (.ireturn, 1) := by decide +kernel
theorem dT_create_17 : decode cT_create 17 = .ok (.aload_n 0, 1) := by decide +kernel
theorem dT_create_18 : decode cT_create 18 = .ok (.getfield 24, 3) := by decide +kernel
theorem dT_create_21 : decode cT_create 21 = .ok (.iload_n 2, 1) := by decide +kernel
theorem dT_create_22 : decode cT_create 22 = .ok (.iload_n 3, 1) := by decide +kernel
theorem dT_create_23 : decode cT_create 23 = .ok (.iload_n 1, 1) := by decide +kernel
theorem dT_create_24 : decode cT_create 24 = .ok (.invokevirtual 59, 3) := by decide +kernel
theorem dT_create_27 : decode cT_create 27 = .ok (.ireturn, 1) := by decide +kernel
theorem dT_generate_0 : decode cT_generate 0 = .ok (.aload_n 0, 1) := by decide +kernel
theorem dT_generate_1 : decode cT_generate 1 = .ok (.iload_n 1, 1) := by decide +kernel
theorem dT_generate_2 : decode cT_generate 2 = .ok (.iload_n 2, 1) := by decide +kernel
theorem dT_generate_3 : decode cT_generate 3 = .ok (.iconst 1, 1) := by decide +kernel
theorem dT_generate_4 : decode cT_generate 4 = .ok (.invokevirtual 55, 3) := by decide +kernel
theorem dT_generate_7 : decode cT_generate 7 = .ok (.istore_n 3, 1) := by decide +kernel
theorem dT_generate_8 : decode cT_generate 8 = .ok (.iload_n 3, 1) := by decide +kernel
theorem dT_generate_9 : decode cT_generate 9 = .ok (.ifCond .eq 5, 3) := by decide +kernel
theorem dT_generate_12 : decode cT_generate 12 = .ok (.iload_n 3, 1) := by decide +kernel
theorem dT_generate_13 : decode cT_generate 13 = .ok (.ireturn, 1) := by decide +kernel
theorem dT_generate_14 : decode cT_generate 14 = .ok (.aload_n 0, 1) := by decide +kernel
theorem dT_generate_15 : decode cT_generate 15 = .ok (.getfield 63, 3) := by decide +kernel
theorem dT_generate_18 : decode cT_generate 18 = .ok (.ldc 66, 2) := by decide +kernel
theorem dT_generate_20 : decode cT_generate 20 = .ok (.invokestatic 67, 3) := by decide +kernel
theorem dT_generate_23 : decode cT_generate 23 = .ok (.istore 4, 2) := by decide +kernel
theorem dT_generate_25 : decode cT_generate 25 = .ok (.aload_n 0, 1) := by decide +kernel
theorem dT_generate_26 : decode cT_generate 26 = .ok (.dup, 1) := by decide +kernel
theorem dT_generate_27 : decode cT_generate 27 = .ok (.getfield 63, 3) := by decide +kernel
theorem dT_generate_30 : decode cT_generate 30 = .ok (.iconst 1, 1) := by decide +kernel
theorem dT_generate_31 : decode cT_generate 31 = .ok (.iadd, 1) := by decide +kernel
theorem dT_generate_32 : decode cT_generate 32 = .ok (.putfield 63, 3) := by decide +kernel
theorem dT_generate_35 : decode cT_generate 35 = .ok (.aload_n 0, 1) := by decide +kernel
theorem dT_generate_36 : decode cT_generate 36 = .ok (.getfield 24, 3) := by decide +kernel
theorem dT_generate_39 : decode cT_generate 39 = .ok (.iload_n 2, 1) := by decide +kernel
theorem dT_generate_40 : decode cT_generate 40 = .ok (.iload_n 2, 1) := by decide +kernel
theorem dT_generate_41 : decode cT_generate 41 = .ok (.invokestatic 73, 3) := by decide +kernel
theorem dT_generate_44 : decode cT_generate 44 = .ok (.ior, 1) := by decide +kernel
theorem dT_generate_45 : decode cT_generate 45 = .ok (.iload 4, 2) := by decide +kernel
theorem dT_generate_47 : decode cT_generate 47 = .ok (.iload_n 1, 1) := by decide +kernel
theorem dT_generate_48 : decode cT_generate 48 = .ok (.invokevirtual 59, 3) := by decide +kernel
theorem dT_generate_51 : decode cT_generate 51 = .ok (.ireturn, 1) := by decide +kernel
theorem dT_destroy_0 : decode cT_destroy 0 = .ok (.aload_n 0, 1) := by decide +kernel
theorem dT_destroy_1 : decode cT_destroy 1 = .ok (.iload_n 1, 1) := by decide +kernel
theorem dT_destroy_2 : decode cT_destroy 2 = .ok (.iload_n 2, 1) := by decide +kernel
theorem dT_destroy_3 : decode cT_destroy 3 = .ok (.invokevirtual 76, 3) := by decide +kernel
theorem dT_destroy_6 : decode cT_destroy 6 = .ok (.istore_n 3, 1) := by decide +kernel
theorem dT_destroy_7 : decode cT_destroy 7 = .ok (.iload_n 3, 1) := by decide +kernel
theorem dT_destroy_8 : decode cT_destroy 8 = .ok (.ifCond .ge 5, 3) := by decide +kernel
theorem dT_destroy_11 : decode cT_destroy 11 = .ok (.iload_n 3, 1) := by decide +kernel
theorem dT_destroy_12 : decode cT_destroy 12 = .ok (.ireturn, 1) := by decide +kernel
theorem dT_destroy_13 : decode cT_destroy 13 = .ok (.aload_n 0, 1) := by decide +kernel
theorem dT_destroy_14 : decode cT_destroy 14 = .ok (.iload_n 1, 1) := by decide +kernel
theorem dT_destroy_15 : decode cT_destroy 15 = .ok (.iload_n 3, 1) := by decide +kernel
theorem dT_destroy_16 : decode cT_destroy 16 = .ok (.invokevirtual 79, 3) := by decide +kernel
theorem dT_destroy_19 : decode cT_destroy 19 = .ok (.ifCond .eq 6, 3) := by decide +kernel
theorem dT_destroy_22 : decode cT_destroy 22 = .ok (.bipush (-4), 2) := by decide +kernel
theorem dT_destroy_24 : decode cT_destroy 24 = .ok (.ireturn, 1) := by decide +kernel
theorem dT_destroy_25 : decode cT_destroy 25 = .ok (.aload_n 0, 1) := by decide +kernel
theorem dT_destroy_26 : decode cT_destroy 26 = .ok (.getfield 24, 3) := by decide +kernel
theorem dT_destroy_29 : decode cT_destroy 29 = .ok (.iload_n 3, 1) := by decide +kernel
theorem dT_destroy_30 : decode cT_destroy 30 = .ok (.invokevirtual 83, 3) := by decide +kernel
theorem dT_destroy_33 : decode cT_destroy 33 = .ok (.iconst 0, 1) := by decide +kernel
theorem dT_destroy_34 : decode cT_destroy 34 = .ok (.ireturn, 1) := by decide +kernel
theorem dT_attributes_0 : decode cT_attributes 0 = .ok (.aload_n 0, 1) := by decide +kernel
theorem dT_attributes_1 : decode cT_attributes 1 = .ok (.iload_n 1, 1) := by decide +kernel
theorem dT_attributes_2 : decode cT_attributes 2 = .ok (.iload_n 2, 1) := by decide +kernel
theorem dT_attributes_3 : decode cT_attributes 3 = .ok (.invokevirtual 76, 3) := by decide +kernel
theorem dT_attributes_6 : decode cT_attributes 6 = .ok (.istore_n 3, 1) := by decide +kernel
theorem dT_attributes_7 : decode cT_attributes 7 = .ok (.iload_n 3, 1) := by decide +kernel
theorem dT_attributes_8 : decode cT_attributes 8 = .ok (.ifCond .ge 7, 3) := by decide +kernel
theorem dT_attributes_11 : decode cT_attributes 11 = .ok (.iload_n 3, 1) := by decide +kernel
theorem dT_attributes_12 : decode cT_attributes 12 = .ok (.goto 12, 3) := by decide +kernel
theorem dT_attributes_15 : decode cT_attributes 15 = .ok (.aload_n 0, 1) := by decide +kernel
theorem dT_attributes_16 : decode cT_attributes 16 = .ok (.getfield 24, 3) := by decide +kernel
theorem dT_attributes_19 : decode cT_attributes 19 = .ok (.getfield 86, 3) := by decide +kernel
theorem dT_attributes_22 : decode cT_attributes 22 = .ok (.iload_n 3, 1) := by decide +kernel
theorem dT_attributes_23 : decode cT_attributes 23 = .ok (.iaload, 1) := by decide +kernel
theorem dT_attributes_24 : decode cT_attributes 24 = .ok (.ireturn, 1) := by decide +kernel
theorem dT_limit_0 : decode cT_limit 0 = .ok (.aload_n 0, 1) := by decide +kernel
theorem dT_limit_1 : decode cT_limit 1 = .ok (.iload_n 1, 1) := by decide +kernel
theorem dT_limit_2 : decode cT_limit 2 = .ok (.iload_n 2, 1) := by decide +kernel
theorem dT_limit_3 : decode cT_limit 3 = .ok (.invokevirtual 76, 3) := by decide +kernel
theorem dT_limit_6 : decode cT_limit 6 = .ok (.istore 4, 2) := by decide +kernel
theorem dT_limit_8 : decode cT_limit 8 = .ok (.iload 4, 2) := by decide +kernel
theorem dT_limit_10 : decode cT_limit 10 = .ok (.ifCond .ge 6, 3) := by decide +kernel
theorem dT_limit_13 : decode cT_limit 13 = .ok (.iload 4, 2) := by decide +kernel
theorem dT_limit_15 : decode cT_limit 15 = .ok (.ireturn, 1) := by decide +kernel
theorem dT_limit_16 : decode cT_limit 16 = .ok (.aload_n 0, 1) := by decide +kernel
theorem dT_limit_17 : decode cT_limit 17 = .ok (.iload_n 1, 1) := by decide +kernel
theorem dT_limit_18 : decode cT_limit 18 = .ok (.iload 4, 2) := by decide +kernel
theorem dT_limit_20 : decode cT_limit 20 = .ok (.invokevirtual 79, 3) := by decide +kernel
theorem dT_limit_23 : decode cT_limit 23 = .ok (.ifCond .eq 6, 3) := by decide +kernel
theorem dT_limit_26 : decode cT_limit 26 = .ok (.bipush (-4), 2) := by decide +kernel
theorem dT_limit_28 : decode cT_limit 28 = .ok (.ireturn, 1) := by decide +kernel
theorem dT_limit_29 : decode cT_limit 29 = .ok (.iload_n 3, 1) := by decide +kernel
theorem dT_limit_30 : decode cT_limit 30 = .ok (.ifCond .eq 11, 3) := by decide +kernel
theorem dT_limit_33 : decode cT_limit 33 = .ok (.iload_n 3, 1) := by decide +kernel
theorem dT_limit_34 : decode cT_limit 34 = .ok (.sipush (-509), 3) := by decide +kernel
theorem dT_limit_37 : decode cT_limit 37 = .ok (.iand, 1) := by decide +kernel
theorem dT_limit_38 : decode cT_limit 38 = .ok (.ifCond .eq 6, 3) := by decide +kernel
theorem dT_limit_41 : decode cT_limit 41 = .ok (.bipush (-5), 2) := by decide +kernel
theorem dT_limit_43 : decode cT_limit 43 = .ok (.ireturn, 1) := by decide +kernel
theorem dT_limit_44 : decode cT_limit 44 = .ok (.aload_n 0, 1) := by decide +kernel
theorem dT_limit_45 : decode cT_limit 45 = .ok (.getfield 24, 3) := by decide +kernel
theorem dT_limit_48 : decode cT_limit 48 = .ok (.getfield 86, 3) := by decide +kernel
theorem dT_limit_51 : decode cT_limit 51 = .ok (.iload 4, 2) := by decide +kernel
theorem dT_limit_53 : decode cT_limit 53 = .ok (.iaload, 1) := by decide +kernel
theorem dT_limit_54 : decode cT_limit 54 = .ok (.iload_n 3, 1) := by decide +kernel
theorem dT_limit_55 : decode cT_limit 55 = .ok (.sipush 504, 3) := by decide +kernel
theorem dT_limit_58 : decode cT_limit 58 = .ok (.iand, 1) := by decide +kernel
theorem dT_limit_59 : decode cT_limit 59 = .ok (.iconst (-1), 1) := by decide +kernel
theorem dT_limit_60 : decode cT_limit 60 = .ok (.ixor, 1) := by decide +kernel
theorem dT_limit_61 : decode cT_limit 61 = .ok (.iand, 1) := by decide +kernel
theorem dT_limit_62 : decode cT_limit 62 = .ok (.istore 5, 2) := by decide +kernel
theorem dT_limit_64 : decode cT_limit 64 = .ok (.aload_n 0, 1) := by decide +kernel
theorem dT_limit_65 : decode cT_limit 65 = .ok (.getfield 24, 3) := by decide +kernel
theorem dT_limit_68 : decode cT_limit 68 = .ok (.getfield 86, 3) := by decide +kernel
theorem dT_limit_71 : decode cT_limit 71 = .ok (.iload 4, 2) := by decide +kernel
theorem dT_limit_73 : decode cT_limit 73 = .ok (.iload 5, 2) := by decide +kernel
theorem dT_limit_75 : decode cT_limit 75 = .ok (.iload_n 3, 1) := by decide +kernel
theorem dT_limit_76 : decode cT_limit 76 = .ok (.iconst 4, 1) := by decide +kernel
theorem dT_limit_77 : decode cT_limit 77 = .ok (.iand, 1) := by decide +kernel
theorem dT_limit_78 : decode cT_limit 78 = .ok (.ior, 1) := by decide +kernel
theorem dT_limit_79 : decode cT_limit 79 = .ok (.iastore, 1) := by decide +kernel
theorem dT_limit_80 : decode cT_limit 80 = .ok (.aload_n 0, 1) := by decide +kernel
theorem dT_limit_81 : decode cT_limit 81 = .ok (.getfield 24, 3) := by decide +kernel
theorem dT_limit_84 : decode cT_limit 84 = .ok (.getfield 86, 3) := by decide +kernel
theorem dT_limit_87 : decode cT_limit 87 = .ok (.iload 4, 2) := by decide +kernel
theorem dT_limit_89 : decode cT_limit 89 = .ok (.iaload, 1) := by decide +kernel
theorem dT_limit_90 : decode cT_limit 90 = .ok (.ireturn, 1) := by decide +kernel
theorem dT_trust_0 : decode cT_trust 0 = .ok (.aload_n 0, 1) := by decide +kernel
theorem dT_trust_1 : decode cT_trust 1 = .ok (.iload_n 1, 1) := by decide +kernel
theorem dT_trust_2 : decode cT_trust 2 = .ok (.iload_n 2, 1) := by decide +kernel
theorem dT_trust_3 : decode cT_trust 3 = .ok (.invokevirtual 76, 3) := by decide +kernel
theorem dT_trust_6 : decode cT_trust 6 = .ok (.istore_n 3, 1) := by decide +kernel
theorem dT_trust_7 : decode cT_trust 7 = .ok (.iload_n 3, 1) := by decide +kernel
theorem dT_trust_8 : decode cT_trust 8 = .ok (.ifCond .ge 5, 3) := by decide +kernel
theorem dT_trust_11 : decode cT_trust 11 = .ok (.iload_n 3, 1) := by decide +kernel
theorem dT_trust_12 : decode cT_trust 12 = .ok (.ireturn, 1) := by decide +kernel
theorem dT_trust_13 : decode cT_trust 13 = .ok (.aload_n 0, 1) := by decide +kernel
theorem dT_trust_14 : decode cT_trust 14 = .ok (.getfield 28, 3) := by decide +kernel
theorem dT_trust_17 : decode cT_trust 17 = .ok (.iconst 2, 1) := by decide +kernel
theorem dT_trust_18 : decode cT_trust 18 = .ok (.if_icmp .eq 6, 3) := by decide +kernel
theorem dT_trust_21 : decode cT_trust 21 = .ok (.bipush (-3), 2) := by decide +kernel
theorem dT_trust_23 : decode cT_trust 23 = .ok (.ireturn, 1) := by decide +kernel
theorem dT_trust_24 : decode cT_trust 24 = .ok (.aload_n 0, 1) := by decide +kernel
theorem dT_trust_25 : decode cT_trust 25 = .ok (.iload_n 1, 1) := by decide +kernel
theorem dT_trust_26 : decode cT_trust 26 = .ok (.iload_n 3, 1) := by decide +kernel
theorem dT_trust_27 : decode cT_trust 27 = .ok (.invokevirtual 79, 3) := by decide +kernel
theorem dT_trust_30 : decode cT_trust 30 = .ok (.ifCond .eq 6, 3) := by decide +kernel
theorem dT_trust_33 : decode cT_trust 33 = .ok (.bipush (-4), 2) := by decide +kernel
theorem dT_trust_35 : decode cT_trust 35 = .ok (.ireturn, 1) := by decide +kernel
theorem dT_trust_36 : decode cT_trust 36 = .ok (.aload_n 0, 1) := by decide +kernel
theorem dT_trust_37 : decode cT_trust 37 = .ok (.getfield 24, 3) := by decide +kernel
theorem dT_trust_40 : decode cT_trust 40 = .ok (.iload_n 3, 1) := by decide +kernel
theorem dT_trust_41 : decode cT_trust 41 = .ok (.iconst 1, 1) := by decide +kernel
theorem dT_trust_42 : decode cT_trust 42 = .ok (.invokevirtual 90, 3) := by decide +kernel
theorem dT_trust_45 : decode cT_trust 45 = .ok (.ifCond .eq 17, 3) := by decide +kernel
theorem dT_trust_48 : decode cT_trust 48 = .ok (.aload_n 0, 1) := by decide +kernel
theorem dT_trust_49 : decode cT_trust 49 = .ok (.getfield 24, 3) := by decide +kernel
theorem dT_trust_52 : decode cT_trust 52 = .ok (.iload_n 3, 1) := by decide +kernel
theorem dT_trust_53 : decode cT_trust 53 = .ok (.sipush 128, 3) := by decide +kernel
theorem dT_trust_56 : decode cT_trust 56 = .ok (.invokevirtual 90, 3) := by decide +kernel
theorem dT_trust_59 : decode cT_trust 59 = .ok (.ifCond .ne 6, 3) := by decide +kernel
theorem dT_trust_62 : decode cT_trust 62 = .ok (.bipush (-5), 2) := by decide +kernel
theorem dT_trust_64 : decode cT_trust 64 = .ok (.ireturn, 1) := by decide +kernel
theorem dT_trust_65 : decode cT_trust 65 = .ok (.aload_n 0, 1) := by decide +kernel
theorem dT_trust_66 : decode cT_trust 66 = .ok (.getfield 24, 3) := by decide +kernel
theorem dT_trust_69 : decode cT_trust 69 = .ok (.getfield 86, 3) := by decide +kernel
theorem dT_trust_72 : decode cT_trust 72 = .ok (.iload_n 3, 1) := by decide +kernel
theorem dT_trust_73 : decode cT_trust 73 = .ok (.dup2, 1) := by decide +kernel
theorem dT_trust_74 : decode cT_trust 74 = .ok (.iaload, 1) := by decide +kernel
theorem dT_trust_75 : decode cT_trust 75 = .ok (.sipush 512, 3) := by decide +kernel
theorem dT_trust_78 : decode cT_trust 78 = .ok (.ior, 1) := by decide +kernel
theorem dT_trust_79 : decode cT_trust 79 = .ok (.iastore, 1) := by decide +kernel
theorem dT_trust_80 : decode cT_trust 80 = .ok (.iconst 0, 1) := by decide +kernel
theorem dT_trust_81 : decode cT_trust 81 = .ok (.ireturn, 1) := by decide +kernel
theorem dT_read_0 : decode cT_read 0 = .ok (.aload_n 0, 1) := by decide +kernel
theorem dT_read_1 : decode cT_read 1 = .ok (.iload_n 1, 1) := by decide +kernel
theorem dT_read_2 : decode cT_read 2 = .ok (.iload_n 2, 1) := by decide +kernel
theorem dT_read_3 : decode cT_read 3 = .ok (.invokevirtual 76, 3) := by decide +kernel
theorem dT_read_6 : decode cT_read 6 = .ok (.istore_n 3, 1) := by decide +kernel
theorem dT_read_7 : decode cT_read 7 = .ok (.iload_n 3, 1) := by decide +kernel
theorem dT_read_8 : decode cT_read 8 = .ok (.ifCond .ge 6, 3) := by decide +kernel
theorem dT_read_11 : decode cT_read 11 = .ok (.iload_n 3, 1) := by decide +kernel
theorem dT_read_12 : decode cT_read 12 = .ok (.i2l, 1) := by decide +kernel
theorem dT_read_13 : decode cT_read 13 = .ok (.lreturn, 1) := by decide +kernel
theorem dT_read_14 : decode cT_read 14 = .ok (.aload_n 0, 1) := by decide +kernel
theorem dT_read_15 : decode cT_read 15 = .ok (.getfield 24, 3) := by decide +kernel
theorem dT_read_18 : decode cT_read 18 = .ok (.iload_n 3, 1) := by decide +kernel
theorem dT_read_19 : decode cT_read 19 = .ok (.iconst 4, 1) := by decide +kernel
theorem dT_read_20 : decode cT_read 20 = .ok (.invokevirtual 90, 3) := by decide +kernel
theorem dT_read_23 : decode cT_read 23 = .ok (.ifCond .eq 7, 3) := by decide +kernel
theorem dT_read_26 : decode cT_read 26 = .ok (.ldc2_w 93, 3) := by decide +kernel
theorem dT_read_29 : decode cT_read 29 = .ok (.lreturn, 1) := by decide +kernel
theorem dT_read_30 : decode cT_read 30 = .ok (.aload_n 0, 1) := by decide +kernel
theorem dT_read_31 : decode cT_read 31 = .ok (.getfield 24, 3) := by decide +kernel
theorem dT_read_34 : decode cT_read 34 = .ok (.getfield 95, 3) := by decide +kernel
theorem dT_read_37 : decode cT_read 37 = .ok (.iload_n 3, 1) := by decide +kernel
theorem dT_read_38 : decode cT_read 38 = .ok (.iaload, 1) := by decide +kernel
theorem dT_read_39 : decode cT_read 39 = .ok (.invokestatic 98, 3) := by decide +kernel
theorem dT_read_42 : decode cT_read 42 = .ok (.lreturn, 1) := by decide +kernel
theorem dT_encrypt_0 : decode cT_encrypt 0 = .ok (.aload_n 0, 1) := by decide +kernel
theorem dT_encrypt_1 : decode cT_encrypt 1 = .ok (.iload_n 1, 1) := by decide +kernel
theorem dT_encrypt_2 : decode cT_encrypt 2 = .ok (.iload_n 2, 1) := by decide +kernel
theorem dT_encrypt_3 : decode cT_encrypt 3 = .ok (.bipush 16, 2) := by decide +kernel
theorem dT_encrypt_5 : decode cT_encrypt 5 = .ok (.invokevirtual 102, 3) := by decide +kernel
theorem dT_encrypt_8 : decode cT_encrypt 8 = .ok (.istore 4, 2) := by decide +kernel
theorem dT_encrypt_10 : decode cT_encrypt 10 = .ok (.iload 4, 2) := by decide +kernel
theorem dT_encrypt_12 : decode cT_encrypt 12 = .ok (.ifCond .ge 9, 3) := by decide +kernel
theorem dT_encrypt_15 : decode cT_encrypt 15 = .ok (.iload 4, 2) := by decide +kernel
theorem dT_encrypt_17 : decode cT_encrypt 17 = .ok (.i2l, 1) := by decide +kernel
theorem dT_encrypt_18 : decode cT_encrypt 18 = .ok (.goto 20, 3) := by decide +kernel
theorem dT_encrypt_21 : decode cT_encrypt 21 = .ok (.aload_n 0, 1) := by decide +kernel
theorem dT_encrypt_22 : decode cT_encrypt 22 = .ok (.getfield 24, 3) := by decide +kernel
theorem dT_encrypt_25 : decode cT_encrypt 25 = .ok (.getfield 95, 3) := by decide +kernel
theorem dT_encrypt_28 : decode cT_encrypt 28 = .ok (.iload 4, 2) := by decide +kernel
theorem dT_encrypt_30 : decode cT_encrypt 30 = .ok (.iaload, 1) := by decide +kernel
theorem dT_encrypt_31 : decode cT_encrypt 31 = .ok (.iload_n 3, 1) := by decide +kernel
theorem dT_encrypt_32 : decode cT_encrypt 32 = .ok (.invokestatic 105, 3) := by decide +kernel
theorem dT_encrypt_35 : decode cT_encrypt 35 = .ok (.invokestatic 98, 3) := by decide +kernel
theorem dT_encrypt_38 : decode cT_encrypt 38 = .ok (.lreturn, 1) := by decide +kernel
theorem dT_decrypt_0 : decode cT_decrypt 0 = .ok (.aload_n 0, 1) := by decide +kernel
theorem dT_decrypt_1 : decode cT_decrypt 1 = .ok (.iload_n 1, 1) := by decide +kernel
theorem dT_decrypt_2 : decode cT_decrypt 2 = .ok (.iload_n 2, 1) := by decide +kernel
theorem dT_decrypt_3 : decode cT_decrypt 3 = .ok (.bipush 32, 2) := by decide +kernel
theorem dT_decrypt_5 : decode cT_decrypt 5 = .ok (.invokevirtual 102, 3) := by decide +kernel
theorem dT_decrypt_8 : decode cT_decrypt 8 = .ok (.istore 4, 2) := by decide +kernel
theorem dT_decrypt_10 : decode cT_decrypt 10 = .ok (.iload 4, 2) := by decide +kernel
theorem dT_decrypt_12 : decode cT_decrypt 12 = .ok (.ifCond .ge 9, 3) := by decide +kernel
theorem dT_decrypt_15 : decode cT_decrypt 15 = .ok (.iload 4, 2) := by decide +kernel
theorem dT_decrypt_17 : decode cT_decrypt 17 = .ok (.i2l, 1) := by decide +kernel
theorem dT_decrypt_18 : decode cT_decrypt 18 = .ok (.goto 20, 3) := by decide +kernel
theorem dT_decrypt_21 : decode cT_decrypt 21 = .ok (.aload_n 0, 1) := by decide +kernel
theorem dT_decrypt_22 : decode cT_decrypt 22 = .ok (.getfield 24, 3) := by decide +kernel
theorem dT_decrypt_25 : decode cT_decrypt 25 = .ok (.getfield 95, 3) := by decide +kernel
theorem dT_decrypt_28 : decode cT_decrypt 28 = .ok (.iload 4, 2) := by decide +kernel
theorem dT_decrypt_30 : decode cT_decrypt 30 = .ok (.iaload, 1) := by decide +kernel
theorem dT_decrypt_31 : decode cT_decrypt 31 = .ok (.iload_n 3, 1) := by decide +kernel
theorem dT_decrypt_32 : decode cT_decrypt 32 = .ok (.invokestatic 108, 3) := by decide +kernel
theorem dT_decrypt_35 : decode cT_decrypt 35 = .ok (.invokestatic 98, 3) := by decide +kernel
theorem dT_decrypt_38 : decode cT_decrypt 38 = .ok (.lreturn, 1) := by decide +kernel
theorem dT_sign_0 : decode cT_sign 0 = .ok (.aload_n 0, 1) := by decide +kernel
theorem dT_sign_1 : decode cT_sign 1 = .ok (.iload_n 1, 1) := by decide +kernel
theorem dT_sign_2 : decode cT_sign 2 = .ok (.iload_n 2, 1) := by decide +kernel
theorem dT_sign_3 : decode cT_sign 3 = .ok (.bipush 64, 2) := by decide +kernel
theorem dT_sign_5 : decode cT_sign 5 = .ok (.invokevirtual 102, 3) := by decide +kernel
theorem dT_sign_8 : decode cT_sign 8 = .ok (.istore 4, 2) := by decide +kernel
theorem dT_sign_10 : decode cT_sign 10 = .ok (.iload 4, 2) := by decide +kernel
theorem dT_sign_12 : decode cT_sign 12 = .ok (.ifCond .ge 9, 3) := by decide +kernel
theorem dT_sign_15 : decode cT_sign 15 = .ok (.iload 4, 2) := by decide +kernel
theorem dT_sign_17 : decode cT_sign 17 = .ok (.i2l, 1) := by decide +kernel
theorem dT_sign_18 : decode cT_sign 18 = .ok (.goto 20, 3) := by decide +kernel
theorem dT_sign_21 : decode cT_sign 21 = .ok (.aload_n 0, 1) := by decide +kernel
theorem dT_sign_22 : decode cT_sign 22 = .ok (.getfield 24, 3) := by decide +kernel
theorem dT_sign_25 : decode cT_sign 25 = .ok (.getfield 95, 3) := by decide +kernel
theorem dT_sign_28 : decode cT_sign 28 = .ok (.iload 4, 2) := by decide +kernel
theorem dT_sign_30 : decode cT_sign 30 = .ok (.iaload, 1) := by decide +kernel
theorem dT_sign_31 : decode cT_sign 31 = .ok (.iload_n 3, 1) := by decide +kernel
theorem dT_sign_32 : decode cT_sign 32 = .ok (.invokestatic 67, 3) := by decide +kernel
theorem dT_sign_35 : decode cT_sign 35 = .ok (.invokestatic 98, 3) := by decide +kernel
theorem dT_sign_38 : decode cT_sign 38 = .ok (.lreturn, 1) := by decide +kernel
theorem dT_wrap_0 : decode cT_wrap 0 = .ok (.aload_n 0, 1) := by decide +kernel
theorem dT_wrap_1 : decode cT_wrap 1 = .ok (.iload_n 1, 1) := by decide +kernel
theorem dT_wrap_2 : decode cT_wrap 2 = .ok (.iload_n 2, 1) := by decide +kernel
theorem dT_wrap_3 : decode cT_wrap 3 = .ok (.invokevirtual 76, 3) := by decide +kernel
theorem dT_wrap_6 : decode cT_wrap 6 = .ok (.istore 4, 2) := by decide +kernel
theorem dT_wrap_8 : decode cT_wrap 8 = .ok (.iload 4, 2) := by decide +kernel
theorem dT_wrap_10 : decode cT_wrap 10 = .ok (.ifCond .ge 7, 3) := by decide +kernel
theorem dT_wrap_13 : decode cT_wrap 13 = .ok (.iload 4, 2) := by decide +kernel
theorem dT_wrap_15 : decode cT_wrap 15 = .ok (.i2l, 1) := by decide +kernel
theorem dT_wrap_16 : decode cT_wrap 16 = .ok (.lreturn, 1) := by decide +kernel
theorem dT_wrap_17 : decode cT_wrap 17 = .ok (.aload_n 0, 1) := by decide +kernel
theorem dT_wrap_18 : decode cT_wrap 18 = .ok (.iload_n 1, 1) := by decide +kernel
theorem dT_wrap_19 : decode cT_wrap 19 = .ok (.iload_n 3, 1) := by decide +kernel
theorem dT_wrap_20 : decode cT_wrap 20 = .ok (.invokevirtual 76, 3) := by decide +kernel
theorem dT_wrap_23 : decode cT_wrap 23 = .ok (.istore 5, 2) := by decide +kernel
theorem dT_wrap_25 : decode cT_wrap 25 = .ok (.iload 5, 2) := by decide +kernel
theorem dT_wrap_27 : decode cT_wrap 27 = .ok (.ifCond .ge 7, 3) := by decide +kernel
theorem dT_wrap_30 : decode cT_wrap 30 = .ok (.iload 5, 2) := by decide +kernel
theorem dT_wrap_32 : decode cT_wrap 32 = .ok (.i2l, 1) := by decide +kernel
theorem dT_wrap_33 : decode cT_wrap 33 = .ok (.lreturn, 1) := by decide +kernel
theorem dT_wrap_34 : decode cT_wrap 34 = .ok (.aload_n 0, 1) := by decide +kernel
theorem dT_wrap_35 : decode cT_wrap 35 = .ok (.getfield 24, 3) := by decide +kernel
theorem dT_wrap_38 : decode cT_wrap 38 = .ok (.iload 4, 2) := by decide +kernel
theorem dT_wrap_40 : decode cT_wrap 40 = .ok (.sipush 128, 3) := by decide +kernel
theorem dT_wrap_43 : decode cT_wrap 43 = .ok (.invokevirtual 90, 3) := by decide +kernel
theorem dT_wrap_46 : decode cT_wrap 46 = .ok (.ifCond .eq 22, 3) := by decide +kernel
theorem dT_wrap_49 : decode cT_wrap 49 = .ok (.aload_n 0, 1) := by decide +kernel
theorem dT_wrap_50 : decode cT_wrap 50 = .ok (.getfield 24, 3) := by decide +kernel
theorem dT_wrap_53 : decode cT_wrap 53 = .ok (.iload 4, 2) := by decide +kernel
theorem dT_wrap_55 : decode cT_wrap 55 = .ok (.sipush 512, 3) := by decide +kernel
theorem dT_wrap_58 : decode cT_wrap 58 = .ok (.invokevirtual 90, 3) := by decide +kernel
theorem dT_wrap_61 : decode cT_wrap 61 = .ok (.ifCond .eq 7, 3) := by decide +kernel
theorem dT_wrap_64 : decode cT_wrap 64 = .ok (.iconst 1, 1) := by decide +kernel
theorem dT_wrap_65 : decode cT_wrap 65 = .ok (.goto 4, 3) := by decide +kernel
theorem dT_wrap_68 : decode cT_wrap 68 = .ok (.iconst 0, 1) := by decide +kernel
theorem dT_wrap_69 : decode cT_wrap 69 = .ok (.istore 6, 2) := by decide +kernel
theorem dT_wrap_71 : decode cT_wrap 71 = .ok (.iload 6, 2) := by decide +kernel
theorem dT_wrap_73 : decode cT_wrap 73 = .ok (.ifCond .eq 17, 3) := by decide +kernel
theorem dT_wrap_76 : decode cT_wrap 76 = .ok (.aload_n 0, 1) := by decide +kernel
theorem dT_wrap_77 : decode cT_wrap 77 = .ok (.getfield 24, 3) := by decide +kernel
theorem dT_wrap_80 : decode cT_wrap 80 = .ok (.iload 5, 2) := by decide +kernel
theorem dT_wrap_82 : decode cT_wrap 82 = .ok (.bipush 8, 2) := by decide +kernel
theorem dT_wrap_84 : decode cT_wrap 84 = .ok (.invokevirtual 90, 3) := by decide +kernel
theorem dT_wrap_87 : decode cT_wrap 87 = .ok (.ifCond .ne 7, 3) := by decide +kernel
theorem dT_wrap_90 : decode cT_wrap 90 = .ok (.ldc2_w 93, 3) := by decide +kernel
theorem dT_wrap_93 : decode cT_wrap 93 = .ok (.lreturn, 1) := by decide +kernel
theorem dT_wrap_94 : decode cT_wrap 94 = .ok (.aload_n 0, 1) := by decide +kernel
theorem dT_wrap_95 : decode cT_wrap 95 = .ok (.getfield 24, 3) := by decide +kernel
theorem dT_wrap_98 : decode cT_wrap 98 = .ok (.getfield 95, 3) := by decide +kernel
theorem dT_wrap_101 : decode cT_wrap 101 = .ok (.iload 4, 2) := by decide +kernel
theorem dT_wrap_103 : decode cT_wrap 103 = .ok (.iaload, 1) := by decide +kernel
theorem dT_wrap_104 : decode cT_wrap 104 = .ok (.istore 7, 2) := by decide +kernel
theorem dT_wrap_106 : decode cT_wrap 106 = .ok (.aload_n 0, 1) := by decide +kernel
theorem dT_wrap_107 : decode cT_wrap 107 = .ok (.getfield 24, 3) := by decide +kernel
theorem dT_wrap_110 : decode cT_wrap 110 = .ok (.getfield 95, 3) := by decide +kernel
theorem dT_wrap_113 : decode cT_wrap 113 = .ok (.iload 5, 2) := by decide +kernel
theorem dT_wrap_115 : decode cT_wrap 115 = .ok (.iaload, 1) := by decide +kernel
theorem dT_wrap_116 : decode cT_wrap 116 = .ok (.istore 8, 2) := by decide +kernel
theorem dT_wrap_118 : decode cT_wrap 118 = .ok (.iload 7, 2) := by decide +kernel
theorem dT_wrap_120 : decode cT_wrap 120 = .ok (.iload 8, 2) := by decide +kernel
theorem dT_wrap_122 : decode cT_wrap 122 = .ok (.invokestatic 111, 3) := by decide +kernel
theorem dT_wrap_125 : decode cT_wrap 125 = .ok (.bipush 32, 2) := by decide +kernel
theorem dT_wrap_127 : decode cT_wrap 127 = .ok (.lshl, 1) := by decide +kernel
theorem dT_wrap_128 : decode cT_wrap 128 = .ok (.iload 7, 2) := by decide +kernel
theorem dT_wrap_130 : decode cT_wrap 130 = .ok (.iload 8, 2) := by decide +kernel
theorem dT_wrap_132 : decode cT_wrap 132 = .ok (.invokestatic 105, 3) := by decide +kernel
theorem dT_wrap_135 : decode cT_wrap 135 = .ok (.invokestatic 98, 3) := by decide +kernel
theorem dT_wrap_138 : decode cT_wrap 138 = .ok (.ladd, 1) := by decide +kernel
theorem dT_wrap_139 : decode cT_wrap 139 = .ok (.lreturn, 1) := by decide +kernel
theorem dT_unwrap_0 : decode cT_unwrap 0 = .ok (.aload_n 0, 1) := by decide +kernel
theorem dT_unwrap_1 : decode cT_unwrap 1 = .ok (.iload_n 1, 1) := by decide +kernel
theorem dT_unwrap_2 : decode cT_unwrap 2 = .ok (.iload_n 2, 1) := by decide +kernel
theorem dT_unwrap_3 : decode cT_unwrap 3 = .ok (.invokevirtual 76, 3) := by decide +kernel
theorem dT_unwrap_6 : decode cT_unwrap 6 = .ok (.istore 6, 2) := by decide +kernel
theorem dT_unwrap_8 : decode cT_unwrap 8 = .ok (.iload 6, 2) := by decide +kernel
theorem dT_unwrap_10 : decode cT_unwrap 10 = .ok (.ifCond .ge 6, 3) := by decide +kernel
theorem dT_unwrap_13 : decode cT_unwrap 13 = .ok (.iload 6, 2) := by decide +kernel
theorem dT_unwrap_15 : decode cT_unwrap 15 = .ok (.ireturn, 1) := by decide +kernel
theorem dT_unwrap_16 : decode cT_unwrap 16 = .ok (.aload_n 0, 1) := by decide +kernel
theorem dT_unwrap_17 : decode cT_unwrap 17 = .ok (.getfield 24, 3) := by decide +kernel
theorem dT_unwrap_20 : decode cT_unwrap 20 = .ok (.iload 6, 2) := by decide +kernel
theorem dT_unwrap_22 : decode cT_unwrap 22 = .ok (.sipush 256, 3) := by decide +kernel
theorem dT_unwrap_25 : decode cT_unwrap 25 = .ok (.invokevirtual 90, 3) := by decide +kernel
theorem dT_unwrap_28 : decode cT_unwrap 28 = .ok (.ifCond .eq 16, 3) := by decide +kernel
theorem dT_unwrap_31 : decode cT_unwrap 31 = .ok (.iload 5, 2) := by decide +kernel
theorem dT_unwrap_33 : decode cT_unwrap 33 = .ok (.sipush 128, 3) := by decide +kernel
theorem dT_unwrap_36 : decode cT_unwrap 36 = .ok (.iand, 1) := by decide +kernel
theorem dT_unwrap_37 : decode cT_unwrap 37 = .ok (.ifCond .ne 7, 3) := by decide +kernel
theorem dT_unwrap_40 : decode cT_unwrap 40 = .ok (.iconst 1, 1) := by decide +kernel
theorem dT_unwrap_41 : decode cT_unwrap 41 = .ok (.goto 4, 3) := by decide +kernel
theorem dT_unwrap_44 : decode cT_unwrap 44 = .ok (.iconst 0, 1) := by decide +kernel
theorem dT_unwrap_45 : decode cT_unwrap 45 = .ok (.istore 7, 2) := by decide +kernel
theorem dT_unwrap_47 : decode cT_unwrap 47 = .ok (.aload_n 0, 1) := by decide +kernel
theorem dT_unwrap_48 : decode cT_unwrap 48 = .ok (.iload_n 1, 1) := by decide +kernel
theorem dT_unwrap_49 : decode cT_unwrap 49 = .ok (.iload 5, 2) := by decide +kernel
theorem dT_unwrap_51 : decode cT_unwrap 51 = .ok (.iload 7, 2) := by decide +kernel
theorem dT_unwrap_53 : decode cT_unwrap 53 = .ok (.invokevirtual 55, 3) := by decide +kernel
theorem dT_unwrap_56 : decode cT_unwrap 56 = .ok (.istore 8, 2) := by decide +kernel
theorem dT_unwrap_58 : decode cT_unwrap 58 = .ok (.iload 8, 2) := by decide +kernel
theorem dT_unwrap_60 : decode cT_unwrap 60 = .ok (.ifCond .eq 6, 3) := by decide +kernel
theorem dT_unwrap_63 : decode cT_unwrap 63 = .ok (.iload 8, 2) := by decide +kernel
theorem dT_unwrap_65 : decode cT_unwrap 65 = .ok (.ireturn, 1) := by decide +kernel
theorem dT_unwrap_66 : decode cT_unwrap 66 = .ok (.aload_n 0, 1) := by decide +kernel
theorem dT_unwrap_67 : decode cT_unwrap 67 = .ok (.getfield 24, 3) := by decide +kernel
theorem dT_unwrap_70 : decode cT_unwrap 70 = .ok (.getfield 95, 3) := by decide +kernel
theorem dT_unwrap_73 : decode cT_unwrap 73 = .ok (.iload 6, 2) := by decide +kernel
theorem dT_unwrap_75 : decode cT_unwrap 75 = .ok (.iaload, 1) := by decide +kernel
theorem dT_unwrap_76 : decode cT_unwrap 76 = .ok (.istore 9, 2) := by decide +kernel
theorem dT_unwrap_78 : decode cT_unwrap 78 = .ok (.iload 9, 2) := by decide +kernel
theorem dT_unwrap_80 : decode cT_unwrap 80 = .ok (.lload_n 3, 1) := by decide +kernel
theorem dT_unwrap_81 : decode cT_unwrap 81 = .ok (.l2i, 1) := by decide +kernel
theorem dT_unwrap_82 : decode cT_unwrap 82 = .ok (.invokestatic 108, 3) := by decide +kernel
theorem dT_unwrap_85 : decode cT_unwrap 85 = .ok (.istore 10, 2) := by decide +kernel
theorem dT_unwrap_87 : decode cT_unwrap 87 = .ok (.lload_n 3, 1) := by decide +kernel
theorem dT_unwrap_88 : decode cT_unwrap 88 = .ok (.bipush 32, 2) := by decide +kernel
theorem dT_unwrap_90 : decode cT_unwrap 90 = .ok (.lushr, 1) := by decide +kernel
theorem dT_unwrap_91 : decode cT_unwrap 91 = .ok (.iload 9, 2) := by decide +kernel
theorem dT_unwrap_93 : decode cT_unwrap 93 = .ok (.iload 10, 2) := by decide +kernel
theorem dT_unwrap_95 : decode cT_unwrap 95 = .ok (.invokestatic 111, 3) := by decide +kernel
theorem dT_unwrap_98 : decode cT_unwrap 98 = .ok (.lcmp, 1) := by decide +kernel
theorem dT_unwrap_99 : decode cT_unwrap 99 = .ok (.ifCond .eq 6, 3) := by decide +kernel
theorem dT_unwrap_102 : decode cT_unwrap 102 = .ok (.bipush (-7), 2) := by decide +kernel
theorem dT_unwrap_104 : decode cT_unwrap 104 = .ok (.ireturn, 1) := by decide +kernel
theorem dT_unwrap_105 : decode cT_unwrap 105 = .ok (.aload_n 0, 1) := by decide +kernel
theorem dT_unwrap_106 : decode cT_unwrap 106 = .ok (.getfield 24, 3) := by decide +kernel
theorem dT_unwrap_109 : decode cT_unwrap 109 = .ok (.iload 5, 2) := by decide +kernel
theorem dT_unwrap_111 : decode cT_unwrap 111 = .ok (.iload 10, 2) := by decide +kernel
theorem dT_unwrap_113 : decode cT_unwrap 113 = .ok (.iload_n 1, 1) := by decide +kernel
theorem dT_unwrap_114 : decode cT_unwrap 114 = .ok (.invokevirtual 59, 3) := by decide +kernel
theorem dT_unwrap_117 : decode cT_unwrap 117 = .ok (.ireturn, 1) := by decide +kernel
theorem dT_find_0 : decode cT_find 0 = .ok (.aload_n 0, 1) := by decide +kernel
theorem dT_find_1 : decode cT_find 1 = .ok (.iload_n 1, 1) := by decide +kernel
theorem dT_find_2 : decode cT_find 2 = .ok (.invokevirtual 32, 3) := by decide +kernel
theorem dT_find_5 : decode cT_find 5 = .ok (.ifCond .ne 5, 3) := by decide +kernel
theorem dT_find_8 : decode cT_find 8 = .ok (.iconst (-1), 1) := by decide +kernel
theorem dT_find_9 : decode cT_find 9 = .ok (.ireturn, 1) := by decide +kernel
theorem dT_find_10 : decode cT_find 10 = .ok (.iconst 0, 1) := by decide +kernel
theorem dT_find_11 : decode cT_find 11 = .ok (.istore_n 3, 1) := by decide +kernel
theorem dT_find_12 : decode cT_find 12 = .ok (.iconst 0, 1) := by decide +kernel
theorem dT_find_13 : decode cT_find 13 = .ok (.istore 4, 2) := by decide +kernel
theorem dT_find_15 : decode cT_find 15 = .ok (.iload 4, 2) := by decide +kernel
theorem dT_find_17 : decode cT_find 17 = .ok (.aload_n 0, 1) := by decide +kernel
theorem dT_find_18 : decode cT_find 18 = .ok (.getfield 24, 3) := by decide +kernel
theorem dT_find_21 : decode cT_find 21 = .ok (.getfield 115, 3) := by decide +kernel
theorem dT_find_24 : decode cT_find 24 = .ok (.if_icmp .ge 37, 3) := by decide +kernel
theorem dT_find_27 : decode cT_find 27 = .ok (.aload_n 0, 1) := by decide +kernel
theorem dT_find_28 : decode cT_find 28 = .ok (.iload 4, 2) := by decide +kernel
theorem dT_find_30 : decode cT_find 30 = .ok (.invokevirtual 118, 3) := by decide +kernel
theorem dT_find_33 : decode cT_find 33 = .ok (.ifCond .eq 22, 3) := by decide +kernel
theorem dT_find_36 : decode cT_find 36 = .ok (.iload_n 3, 1) := by decide +kernel
theorem dT_find_37 : decode cT_find 37 = .ok (.iload_n 2, 1) := by decide +kernel
theorem dT_find_38 : decode cT_find 38 = .ok (.if_icmp .ne 14, 3) := by decide +kernel
theorem dT_find_41 : decode cT_find 41 = .ok (.aload_n 0, 1) := by decide +kernel
theorem dT_find_42 : decode cT_find 42 = .ok (.getfield 24, 3) := by decide +kernel
theorem dT_find_45 : decode cT_find 45 = .ok (.getfield 121, 3) := by decide +kernel
theorem dT_find_48 : decode cT_find 48 = .ok (.iload 4, 2) := by decide +kernel
theorem dT_find_50 : decode cT_find 50 = .ok (.iaload, 1) := by decide +kernel
theorem dT_find_51 : decode cT_find 51 = .ok (.ireturn, 1) := by decide +kernel
theorem dT_find_52 : decode cT_find 52 = .ok (.iinc 3 1, 3) := by decide +kernel
theorem dT_find_55 : decode cT_find 55 = .ok (.iinc 4 1, 3) := by decide +kernel
theorem dT_find_58 : decode cT_find 58 = .ok (.goto (-43), 3) := by decide +kernel
theorem dT_find_61 : decode cT_find 61 = .ok (.iconst 0, 1) := by decide +kernel
theorem dT_find_62 : decode cT_find 62 = .ok (.ireturn, 1) := by decide +kernel
theorem dT_status_0 : decode cT_status 0 = .ok (.iload_n 1, 1) := by decide +kernel
theorem dT_status_1 : decode cT_status 1 = .ok (.tableswitch 89 0 5 #[39, 44, 57, 65, 73, 81], 39) := by decide +kernel
theorem dT_status_40 : decode cT_status 40 = .ok (.aload_n 0, 1) := by decide +kernel
theorem dT_status_41 : decode cT_status 41 = .ok (.getfield 28, 3) := by decide +kernel
theorem dT_status_44 : decode cT_status 44 = .ok (.ireturn, 1) := by decide +kernel
theorem dT_status_45 : decode cT_status 45 = .ok (.aload_n 0, 1) := by decide +kernel
theorem dT_status_46 : decode cT_status 46 = .ok (.getfield 36, 3) := by decide +kernel
theorem dT_status_49 : decode cT_status 49 = .ok (.bipush 8, 2) := by decide +kernel
theorem dT_status_51 : decode cT_status 51 = .ok (.aload_n 0, 1) := by decide +kernel
theorem dT_status_52 : decode cT_status 52 = .ok (.getfield 39, 3) := by decide +kernel
theorem dT_status_55 : decode cT_status 55 = .ok (.imul, 1) := by decide +kernel
theorem dT_status_56 : decode cT_status 56 = .ok (.iadd, 1) := by decide +kernel
theorem dT_status_57 : decode cT_status 57 = .ok (.ireturn, 1) := by decide +kernel
theorem dT_status_58 : decode cT_status 58 = .ok (.aload_n 0, 1) := by decide +kernel
theorem dT_status_59 : decode cT_status 59 = .ok (.getfield 14, 3) := by decide +kernel
theorem dT_status_62 : decode cT_status 62 = .ok (.getfield 124, 3) := by decide +kernel
theorem dT_status_65 : decode cT_status 65 = .ok (.ireturn, 1) := by decide +kernel
theorem dT_status_66 : decode cT_status 66 = .ok (.aload_n 0, 1) := by decide +kernel
theorem dT_status_67 : decode cT_status 67 = .ok (.getfield 18, 3) := by decide +kernel
theorem dT_status_70 : decode cT_status 70 = .ok (.getfield 124, 3) := by decide +kernel
theorem dT_status_73 : decode cT_status 73 = .ok (.ireturn, 1) := by decide +kernel
theorem dT_status_74 : decode cT_status 74 = .ok (.aload_n 0, 1) := by decide +kernel
theorem dT_status_75 : decode cT_status 75 = .ok (.getfield 24, 3) := by decide +kernel
theorem dT_status_78 : decode cT_status 78 = .ok (.getfield 115, 3) := by decide +kernel
theorem dT_status_81 : decode cT_status 81 = .ok (.ireturn, 1) := by decide +kernel
theorem dT_status_82 : decode cT_status 82 = .ok (.aload_n 0, 1) := by decide +kernel
theorem dT_status_83 : decode cT_status 83 = .ok (.getfield 24, 3) := by decide +kernel
theorem dT_status_86 : decode cT_status 86 = .ok (.getfield 127, 3) := by decide +kernel
theorem dT_status_89 : decode cT_status 89 = .ok (.ireturn, 1) := by decide +kernel
theorem dT_status_90 : decode cT_status 90 = .ok (.iconst (-1), 1) := by decide +kernel
theorem dT_status_91 : decode cT_status 91 = .ok (.ireturn, 1) := by decide +kernel
theorem dT_isOpen_0 : decode cT_isOpen 0 = .ok (.iload_n 1, 1) := by decide +kernel
theorem dT_isOpen_1 : decode cT_isOpen 1 = .ok (.ifCond .lt 23, 3) := by decide +kernel
theorem dT_isOpen_4 : decode cT_isOpen 4 = .ok (.iload_n 1, 1) := by decide +kernel
theorem dT_isOpen_5 : decode cT_isOpen 5 = .ok (.iconst 3, 1) := by decide +kernel
theorem dT_isOpen_6 : decode cT_isOpen 6 = .ok (.if_icmp .ge 18, 3) := by decide +kernel
theorem dT_isOpen_9 : decode cT_isOpen 9 = .ok (.aload_n 0, 1) := by decide +kernel
theorem dT_isOpen_10 : decode cT_isOpen 10 = .ok (.getfield 36, 3) := by decide +kernel
theorem dT_isOpen_13 : decode cT_isOpen 13 = .ok (.iconst 1, 1) := by decide +kernel
theorem dT_isOpen_14 : decode cT_isOpen 14 = .ok (.iload_n 1, 1) := by decide +kernel
theorem dT_isOpen_15 : decode cT_isOpen 15 = .ok (.ishl, 1) := by decide +kernel
theorem dT_isOpen_16 : decode cT_isOpen 16 = .ok (.iand, 1) := by decide +kernel
theorem dT_isOpen_17 : decode cT_isOpen 17 = .ok (.ifCond .eq 7, 3) := by decide +kernel
theorem dT_isOpen_20 : decode cT_isOpen 20 = .ok (.iconst 1, 1) := by decide +kernel
theorem dT_isOpen_21 : decode cT_isOpen 21 = .ok (.goto 4, 3) := by decide +kernel
theorem dT_isOpen_24 : decode cT_isOpen 24 = .ok (.iconst 0, 1) := by decide +kernel
theorem dT_isOpen_25 : decode cT_isOpen 25 = .ok (.ireturn, 1) := by decide +kernel
theorem dT_isReadWrite_0 : decode cT_isReadWrite 0 = .ok (.aload_n 0, 1) := by decide +kernel
theorem dT_isReadWrite_1 : decode cT_isReadWrite 1 = .ok (.iload_n 1, 1) := by decide +kernel
theorem dT_isReadWrite_2 : decode cT_isReadWrite 2 = .ok (.invokevirtual 32, 3) := by decide +kernel
theorem dT_isReadWrite_5 : decode cT_isReadWrite 5 = .ok (.ifCond .eq 18, 3) := by decide +kernel
theorem dT_isReadWrite_8 : decode cT_isReadWrite 8 = .ok (.aload_n 0, 1) := by decide +kernel
theorem dT_isReadWrite_9 : decode cT_isReadWrite 9 = .ok (.getfield 39, 3) := by decide +kernel
theorem dT_isReadWrite_12 : decode cT_isReadWrite 12 = .ok (.iconst 1, 1) := by decide +kernel
theorem dT_isReadWrite_13 : decode cT_isReadWrite 13 = .ok (.iload_n 1, 1) := by decide +kernel
theorem dT_isReadWrite_14 : decode cT_isReadWrite 14 = .ok (.ishl, 1) := by decide +kernel
theorem dT_isReadWrite_15 : decode cT_isReadWrite 15 = .ok (.iand, 1) := by decide +kernel
theorem dT_isReadWrite_16 : decode cT_isReadWrite 16 = .ok (.ifCond .eq 7, 3) := by decide +kernel
theorem dT_isReadWrite_19 : decode cT_isReadWrite 19 = .ok (.iconst 1, 1) := by decide +kernel
theorem dT_isReadWrite_20 : decode cT_isReadWrite 20 = .ok (.goto 4, 3) := by decide +kernel
theorem dT_isReadWrite_23 : decode cT_isReadWrite 23 = .ok (.iconst 0, 1) := by decide +kernel
theorem dT_isReadWrite_24 : decode cT_isReadWrite 24 = .ok (.ireturn, 1) := by decide +kernel
theorem dT_isVisible_0 : decode cT_isVisible 0 = .ok (.aload_n 0, 1) := by decide +kernel
theorem dT_isVisible_1 : decode cT_isVisible 1 = .ok (.getfield 28, 3) := by decide +kernel
theorem dT_isVisible_4 : decode cT_isVisible 4 = .ok (.iconst 1, 1) := by decide +kernel
theorem dT_isVisible_5 : decode cT_isVisible 5 = .ok (.if_icmp .eq 15, 3) := by decide +kernel
theorem dT_isVisible_8 : decode cT_isVisible 8 = .ok (.aload_n 0, 1) := by decide +kernel
theorem dT_isVisible_9 : decode cT_isVisible 9 = .ok (.getfield 24, 3) := by decide +kernel
theorem dT_isVisible_12 : decode cT_isVisible 12 = .ok (.iload_n 1, 1) := by decide +kernel
theorem dT_isVisible_13 : decode cT_isVisible 13 = .ok (.iconst 2, 1) := by decide +kernel
theorem dT_isVisible_14 : decode cT_isVisible 14 = .ok (.invokevirtual 90, 3) := by decide +kernel
theorem dT_isVisible_17 : decode cT_isVisible 17 = .ok (.ifCond .ne 7, 3) := by decide +kernel
theorem dT_isVisible_20 : decode cT_isVisible 20 = .ok (.iconst 1, 1) := by decide +kernel
theorem dT_isVisible_21 : decode cT_isVisible 21 = .ok (.goto 4, 3) := by decide +kernel
theorem dT_isVisible_24 : decode cT_isVisible 24 = .ok (.iconst 0, 1) := by decide +kernel
theorem dT_isVisible_25 : decode cT_isVisible 25 = .ok (.ireturn, 1) := by decide +kernel
theorem dT_isFixedFor_0 : decode cT_isFixedFor 0 = .ok (.aload_n 0, 1) := by decide +kernel
theorem dT_isFixedFor_1 : decode cT_isFixedFor 1 = .ok (.getfield 24, 3) := by decide +kernel
theorem dT_isFixedFor_4 : decode cT_isFixedFor 4 = .ok (.iload_n 2, 1) := by decide +kernel
theorem dT_isFixedFor_5 : decode cT_isFixedFor 5 = .ok (.iconst 1, 1) := by decide +kernel
theorem dT_isFixedFor_6 : decode cT_isFixedFor 6 = .ok (.invokevirtual 90, 3) := by decide +kernel
theorem dT_isFixedFor_9 : decode cT_isFixedFor 9 = .ok (.ifCond .eq 15, 3) := by decide +kernel
theorem dT_isFixedFor_12 : decode cT_isFixedFor 12 = .ok (.aload_n 0, 1) := by decide +kernel
theorem dT_isFixedFor_13 : decode cT_isFixedFor 13 = .ok (.iload_n 1, 1) := by decide +kernel
theorem dT_isFixedFor_14 : decode cT_isFixedFor 14 = .ok (.invokevirtual 130, 3) := by decide +kernel
theorem dT_isFixedFor_17 : decode cT_isFixedFor 17 = .ok (.ifCond .ne 7, 3) := by decide +kernel
theorem dT_isFixedFor_20 : decode cT_isFixedFor 20 = .ok (.iconst 1, 1) := by decide +kernel
theorem dT_isFixedFor_21 : decode cT_isFixedFor 21 = .ok (.goto 4, 3) := by decide +kernel
theorem dT_isFixedFor_24 : decode cT_isFixedFor 24 = .ok (.iconst 0, 1) := by decide +kernel
theorem dT_isFixedFor_25 : decode cT_isFixedFor 25 = .ok (.ireturn, 1) := by decide +kernel
theorem dT_rowOrRefusal_0 : decode cT_rowOrRefusal 0 = .ok (.aload_n 0, 1) := by decide +kernel
theorem dT_rowOrRefusal_1 : decode cT_rowOrRefusal 1 = .ok (.iload_n 1, 1) := by decide +kernel
theorem dT_rowOrRefusal_2 : decode cT_rowOrRefusal 2 = .ok (.invokevirtual 32, 3) := by decide +kernel
theorem dT_rowOrRefusal_5 : decode cT_rowOrRefusal 5 = .ok (.ifCond .ne 5, 3) := by decide +kernel
theorem dT_rowOrRefusal_8 : decode cT_rowOrRefusal 8 = .ok (.iconst (-1), 1) := by decide +kernel
theorem dT_rowOrRefusal_9 : decode cT_rowOrRefusal 9 = .ok (.ireturn, 1) := by decide +kernel
theorem dT_rowOrRefusal_10 : decode cT_rowOrRefusal 10 = .ok (.aload_n 0, 1) := by decide +kernel
theorem dT_rowOrRefusal_11 : decode cT_rowOrRefusal 11 = .ok (.getfield 24, 3) := by decide +kernel
theorem dT_rowOrRefusal_14 : decode cT_rowOrRefusal 14 = .ok (.iload_n 2, 1) := by decide +kernel
theorem dT_rowOrRefusal_15 : decode cT_rowOrRefusal 15 = .ok (.invokevirtual 133, 3) := by decide +kernel
theorem dT_rowOrRefusal_18 : decode cT_rowOrRefusal 18 = .ok (.istore_n 3, 1) := by decide +kernel
theorem dT_rowOrRefusal_19 : decode cT_rowOrRefusal 19 = .ok (.iload_n 3, 1) := by decide +kernel
theorem dT_rowOrRefusal_20 : decode cT_rowOrRefusal 20 = .ok (.ifCond .lt 15, 3) := by decide +kernel
theorem dT_rowOrRefusal_23 : decode cT_rowOrRefusal 23 = .ok (.aload_n 0, 1) := by decide +kernel
theorem dT_rowOrRefusal_24 : decode cT_rowOrRefusal 24 = .ok (.iload_n 3, 1) := by decide +kernel
theorem dT_rowOrRefusal_25 : decode cT_rowOrRefusal 25 = .ok (.invokevirtual 118, 3) := by decide +kernel
theorem dT_rowOrRefusal_28 : decode cT_rowOrRefusal 28 = .ok (.ifCond .eq 7, 3) := by decide +kernel
theorem dT_rowOrRefusal_31 : decode cT_rowOrRefusal 31 = .ok (.iload_n 3, 1) := by decide +kernel
theorem dT_rowOrRefusal_32 : decode cT_rowOrRefusal 32 = .ok (.goto 5, 3) := by decide +kernel
theorem dT_rowOrRefusal_35 : decode cT_rowOrRefusal 35 = .ok (.bipush (-2), 2) := by decide +kernel
theorem dT_rowOrRefusal_37 : decode cT_rowOrRefusal 37 = .ok (.ireturn, 1) := by decide +kernel
theorem dT_rowForUse_0 : decode cT_rowForUse 0 = .ok (.aload_n 0, 1) := by decide +kernel
theorem dT_rowForUse_1 : decode cT_rowForUse 1 = .ok (.iload_n 1, 1) := by decide +kernel
theorem dT_rowForUse_2 : decode cT_rowForUse 2 = .ok (.iload_n 2, 1) := by decide +kernel
theorem dT_rowForUse_3 : decode cT_rowForUse 3 = .ok (.invokevirtual 76, 3) := by decide +kernel
theorem dT_rowForUse_6 : decode cT_rowForUse 6 = .ok (.istore 4, 2) := by decide +kernel
theorem dT_rowForUse_8 : decode cT_rowForUse 8 = .ok (.iload 4, 2) := by decide +kernel
theorem dT_rowForUse_10 : decode cT_rowForUse 10 = .ok (.ifCond .lt 21, 3) := by decide +kernel
theorem dT_rowForUse_13 : decode cT_rowForUse 13 = .ok (.aload_n 0, 1) := by decide +kernel
theorem dT_rowForUse_14 : decode cT_rowForUse 14 = .ok (.getfield 24, 3) := by decide +kernel
theorem dT_rowForUse_17 : decode cT_rowForUse 17 = .ok (.iload 4, 2) := by decide +kernel
theorem dT_rowForUse_19 : decode cT_rowForUse 19 = .ok (.iload_n 3, 1) := by decide +kernel
theorem dT_rowForUse_20 : decode cT_rowForUse 20 = .ok (.invokevirtual 90, 3) := by decide +kernel
theorem dT_rowForUse_23 : decode cT_rowForUse 23 = .ok (.ifCond .ne 8, 3) := by decide +kernel
theorem dT_rowForUse_26 : decode cT_rowForUse 26 = .ok (.bipush (-5), 2) := by decide +kernel
theorem dT_rowForUse_28 : decode cT_rowForUse 28 = .ok (.goto 5, 3) := by decide +kernel
theorem dT_rowForUse_31 : decode cT_rowForUse 31 = .ok (.iload 4, 2) := by decide +kernel
theorem dT_rowForUse_33 : decode cT_rowForUse 33 = .ok (.ireturn, 1) := by decide +kernel
theorem dT_refusalToMake_0 : decode cT_refusalToMake 0 = .ok (.aload_n 0, 1) := by decide +kernel
theorem dT_refusalToMake_1 : decode cT_refusalToMake 1 = .ok (.iload_n 1, 1) := by decide +kernel
theorem dT_refusalToMake_2 : decode cT_refusalToMake 2 = .ok (.invokevirtual 32, 3) := by decide +kernel
theorem dT_refusalToMake_5 : decode cT_refusalToMake 5 = .ok (.ifCond .ne 5, 3) := by decide +kernel
theorem dT_refusalToMake_8 : decode cT_refusalToMake 8 = .ok (.iconst (-1), 1) := by decide +kernel
theorem dT_refusalToMake_9 : decode cT_refusalToMake 9 = .ok (.ireturn, 1) := by decide +kernel
theorem dT_refusalToMake_10 : decode cT_refusalToMake 10 = .ok (.iload_n 2, 1) := by decide +kernel
theorem dT_refusalToMake_11 : decode cT_refusalToMake 11 = .ok (.iconst 2, 1) := by decide +kernel
theorem dT_refusalToMake_12 : decode cT_refusalToMake 12 = .ok (.iand, 1) := by decide +kernel
theorem dT_refusalToMake_13 : decode cT_refusalToMake 13 = .ok (.ifCond .eq 14, 3) := by decide +kernel
theorem dT_refusalToMake_16 : decode cT_refusalToMake 16 = .ok (.aload_n 0, 1) := by decide +kernel
theorem dT_refusalToMake_17 : decode cT_refusalToMake 17 = .ok (.getfield 28, 3) := by decide +kernel
theorem dT_refusalToMake_20 : decode cT_refusalToMake 20 = .ok (.iconst 1, 1) := by decide +kernel
theorem dT_refusalToMake_21 : decode cT_refusalToMake 21 = .ok (.if_icmp .eq 6, 3) := by decide +kernel
theorem dT_refusalToMake_24 : decode cT_refusalToMake 24 = .ok (.bipush (-3), 2) := by decide +kernel
theorem dT_refusalToMake_26 : decode cT_refusalToMake 26 = .ok (.ireturn, 1) := by decide +kernel
theorem dT_refusalToMake_27 : decode cT_refusalToMake 27 = .ok (.iload_n 2, 1) := by decide +kernel
theorem dT_refusalToMake_28 : decode cT_refusalToMake 28 = .ok (.iconst 1, 1) := by decide +kernel
theorem dT_refusalToMake_29 : decode cT_refusalToMake 29 = .ok (.iand, 1) := by decide +kernel
theorem dT_refusalToMake_30 : decode cT_refusalToMake 30 = .ok (.ifCond .eq 14, 3) := by decide +kernel
theorem dT_refusalToMake_33 : decode cT_refusalToMake 33 = .ok (.aload_n 0, 1) := by decide +kernel
theorem dT_refusalToMake_34 : decode cT_refusalToMake 34 = .ok (.iload_n 1, 1) := by decide +kernel
theorem dT_refusalToMake_35 : decode cT_refusalToMake 35 = .ok (.invokevirtual 130, 3) := by decide +kernel
theorem dT_refusalToMake_38 : decode cT_refusalToMake 38 = .ok (.ifCond .ne 6, 3) := by decide +kernel
theorem dT_refusalToMake_41 : decode cT_refusalToMake 41 = .ok (.bipush (-4), 2) := by decide +kernel
theorem dT_refusalToMake_43 : decode cT_refusalToMake 43 = .ok (.ireturn, 1) := by decide +kernel
theorem dT_refusalToMake_44 : decode cT_refusalToMake 44 = .ok (.iload_n 3, 1) := by decide +kernel
theorem dT_refusalToMake_45 : decode cT_refusalToMake 45 = .ok (.ifCond .eq 10, 3) := by decide +kernel
theorem dT_refusalToMake_48 : decode cT_refusalToMake 48 = .ok (.iload_n 2, 1) := by decide +kernel
theorem dT_refusalToMake_49 : decode cT_refusalToMake 49 = .ok (.invokestatic 136, 3) := by decide +kernel
theorem dT_refusalToMake_52 : decode cT_refusalToMake 52 = .ok (.ifCond .ne 6, 3) := by decide +kernel
theorem dT_refusalToMake_55 : decode cT_refusalToMake 55 = .ok (.bipush (-5), 2) := by decide +kernel
theorem dT_refusalToMake_57 : decode cT_refusalToMake 57 = .ok (.ireturn, 1) := by decide +kernel
theorem dT_refusalToMake_58 : decode cT_refusalToMake 58 = .ok (.aload_n 0, 1) := by decide +kernel
theorem dT_refusalToMake_59 : decode cT_refusalToMake 59 = .ok (.getfield 24, 3) := by decide +kernel
theorem dT_refusalToMake_62 : decode cT_refusalToMake 62 = .ok (.getfield 115, 3) := by decide +kernel
theorem dT_refusalToMake_65 : decode cT_refusalToMake 65 = .ok (.bipush 10, 2) := by decide +kernel
theorem dT_refusalToMake_67 : decode cT_refusalToMake 67 = .ok (.if_icmp .lt 8, 3) := by decide +kernel
theorem dT_refusalToMake_70 : decode cT_refusalToMake 70 = .ok (.bipush (-6), 2) := by decide +kernel
theorem dT_refusalToMake_72 : decode cT_refusalToMake 72 = .ok (.goto 4, 3) := by decide +kernel
theorem dT_refusalToMake_75 : decode cT_refusalToMake 75 = .ok (.iconst 0, 1) := by decide +kernel
theorem dT_refusalToMake_76 : decode cT_refusalToMake 76 = .ok (.ireturn, 1) := by decide +kernel
theorem dT_areGood_0 : decode cT_areGood 0 = .ok (.iload_n 0, 1) := by decide +kernel
theorem dT_areGood_1 : decode cT_areGood 1 = .ok (.ifCond .lt 38, 3) := by decide +kernel
theorem dT_areGood_4 : decode cT_areGood 4 = .ok (.iload_n 0, 1) := by decide +kernel
theorem dT_areGood_5 : decode cT_areGood 5 = .ok (.sipush 511, 3) := by decide +kernel
theorem dT_areGood_8 : decode cT_areGood 8 = .ok (.if_icmp .gt 31, 3) := by decide +kernel
theorem dT_areGood_11 : decode cT_areGood 11 = .ok (.iload_n 0, 1) := by decide +kernel
theorem dT_areGood_12 : decode cT_areGood 12 = .ok (.sipush 128, 3) := by decide +kernel
theorem dT_areGood_15 : decode cT_areGood 15 = .ok (.bipush 32, 2) := by decide +kernel
theorem dT_areGood_17 : decode cT_areGood 17 = .ok (.invokestatic 139, 3) := by decide +kernel
theorem dT_areGood_20 : decode cT_areGood 20 = .ok (.ifCond .ne 19, 3) := by decide +kernel
theorem dT_areGood_23 : decode cT_areGood 23 = .ok (.iload_n 0, 1) := by decide +kernel
theorem dT_areGood_24 : decode cT_areGood 24 = .ok (.sipush 256, 3) := by decide +kernel
theorem dT_areGood_27 : decode cT_areGood 27 = .ok (.bipush 16, 2) := by decide +kernel
theorem dT_areGood_29 : decode cT_areGood 29 = .ok (.invokestatic 139, 3) := by decide +kernel
theorem dT_areGood_32 : decode cT_areGood 32 = .ok (.ifCond .ne 7, 3) := by decide +kernel
theorem dT_areGood_35 : decode cT_areGood 35 = .ok (.iconst 1, 1) := by decide +kernel
end
section
theorem dT_areGood_36 : decode cT_areGood 36 = .ok (.goto 4, 3) := by decide +kernel
theorem dT_areGood_39 : decode cT_areGood 39 = .ok (.iconst 0, 1) := by decide +kernel
theorem dT_areGood_40 : decode cT_areGood 40 = .ok (.ireturn, 1) := by decide +kernel
theorem dT_hasBoth_0 : decode cT_hasBoth 0 = .ok (.iload_n 0, 1) := by decide +kernel
theorem dT_hasBoth_1 : decode cT_hasBoth 1 = .ok (.iload_n 1, 1) := by decide +kernel
theorem dT_hasBoth_2 : decode cT_hasBoth 2 = .ok (.iand, 1) := by decide +kernel
theorem dT_hasBoth_3 : decode cT_hasBoth 3 = .ok (.ifCond .eq 13, 3) := by decide +kernel
theorem dT_hasBoth_6 : decode cT_hasBoth 6 = .ok (.iload_n 0, 1) := by decide +kernel
theorem dT_hasBoth_7 : decode cT_hasBoth 7 = .ok (.iload_n 2, 1) := by decide +kernel
theorem dT_hasBoth_8 : decode cT_hasBoth 8 = .ok (.iand, 1) := by decide +kernel
theorem dT_hasBoth_9 : decode cT_hasBoth 9 = .ok (.ifCond .eq 7, 3) := by decide +kernel
theorem dT_hasBoth_12 : decode cT_hasBoth 12 = .ok (.iconst 1, 1) := by decide +kernel
theorem dT_hasBoth_13 : decode cT_hasBoth 13 = .ok (.goto 4, 3) := by decide +kernel
theorem dT_hasBoth_16 : decode cT_hasBoth 16 = .ok (.iconst 0, 1) := by decide +kernel
theorem dT_hasBoth_17 : decode cT_hasBoth 17 = .ok (.ireturn, 1) := by decide +kernel
theorem dT_originOf_0 : decode cT_originOf 0 = .ok (.iload_n 0, 1) := by decide +kernel
theorem dT_originOf_1 : decode cT_originOf 1 = .ok (.iconst 4, 1) := by decide +kernel
theorem dT_originOf_2 : decode cT_originOf 2 = .ok (.iand, 1) := by decide +kernel
theorem dT_originOf_3 : decode cT_originOf 3 = .ok (.ifCond .eq 9, 3) := by decide +kernel
theorem dT_originOf_6 : decode cT_originOf 6 = .ok (.sipush 2048, 3) := by decide +kernel
theorem dT_originOf_9 : decode cT_originOf 9 = .ok (.goto 4, 3) := by decide +kernel
theorem dT_originOf_12 : decode cT_originOf 12 = .ok (.iconst 0, 1) := by decide +kernel
theorem dT_originOf_13 : decode cT_originOf 13 = .ok (.istore_n 1, 1) := by decide +kernel
theorem dT_originOf_14 : decode cT_originOf 14 = .ok (.iload_n 0, 1) := by decide +kernel
theorem dT_originOf_15 : decode cT_originOf 15 = .ok (.bipush 8, 2) := by decide +kernel
theorem dT_originOf_17 : decode cT_originOf 17 = .ok (.iand, 1) := by decide +kernel
theorem dT_originOf_18 : decode cT_originOf 18 = .ok (.ifCond .ne 9, 3) := by decide +kernel
theorem dT_originOf_21 : decode cT_originOf 21 = .ok (.sipush 4096, 3) := by decide +kernel
theorem dT_originOf_24 : decode cT_originOf 24 = .ok (.goto 4, 3) := by decide +kernel
theorem dT_originOf_27 : decode cT_originOf 27 = .ok (.iconst 0, 1) := by decide +kernel
theorem dT_originOf_28 : decode cT_originOf 28 = .ok (.istore_n 2, 1) := by decide +kernel
theorem dT_originOf_29 : decode cT_originOf 29 = .ok (.sipush 1024, 3) := by decide +kernel
theorem dT_originOf_32 : decode cT_originOf 32 = .ok (.iload_n 1, 1) := by decide +kernel
theorem dT_originOf_33 : decode cT_originOf 33 = .ok (.ior, 1) := by decide +kernel
theorem dT_originOf_34 : decode cT_originOf 34 = .ok (.iload_n 2, 1) := by decide +kernel
theorem dT_originOf_35 : decode cT_originOf 35 = .ok (.ior, 1) := by decide +kernel
theorem dT_originOf_36 : decode cT_originOf 36 = .ok (.ireturn, 1) := by decide +kernel
theorem dT_answered_0 : decode cT_answered 0 = .ok (.iload_n 0, 1) := by decide +kernel
theorem dT_answered_1 : decode cT_answered 1 = .ok (.i2l, 1) := by decide +kernel
theorem dT_answered_2 : decode cT_answered 2 = .ok (.ldc2_w 143, 3) := by decide +kernel
theorem dT_answered_5 : decode cT_answered 5 = .ok (.land, 1) := by decide +kernel
theorem dT_answered_6 : decode cT_answered 6 = .ok (.lreturn, 1) := by decide +kernel
theorem dT_tagOf_0 : decode cT_tagOf 0 = .ok (.iload_n 0, 1) := by decide +kernel
theorem dT_tagOf_1 : decode cT_tagOf 1 = .ok (.iload_n 1, 1) := by decide +kernel
theorem dT_tagOf_2 : decode cT_tagOf 2 = .ok (.invokestatic 67, 3) := by decide +kernel
theorem dT_tagOf_5 : decode cT_tagOf 5 = .ok (.ldc 145, 2) := by decide +kernel
theorem dT_tagOf_7 : decode cT_tagOf 7 = .ok (.iand, 1) := by decide +kernel
theorem dT_tagOf_8 : decode cT_tagOf 8 = .ok (.i2l, 1) := by decide +kernel
theorem dT_tagOf_9 : decode cT_tagOf 9 = .ok (.lreturn, 1) := by decide +kernel
theorem dR_init_0 : decode cR_init 0 = .ok (.aload_n 0, 1) := by decide +kernel
theorem dR_init_1 : decode cR_init 1 = .ok (.invokespecial 3, 3) := by decide +kernel
theorem dR_init_4 : decode cR_init 4 = .ok (.aload_n 0, 1) := by decide +kernel
theorem dR_init_5 : decode cR_init 5 = .ok (.iload_n 1, 1) := by decide +kernel
theorem dR_init_6 : decode cR_init 6 = .ok (.putfield 9, 3) := by decide +kernel
theorem dR_init_9 : decode cR_init 9 = .ok (.return_, 1) := by decide +kernel
theorem dR_tryPin_0 : decode cR_tryPin 0 = .ok (.aload_n 0, 1) := by decide +kernel
theorem dR_tryPin_1 : decode cR_tryPin 1 = .ok (.getfield 15, 3) := by decide +kernel
theorem dR_tryPin_4 : decode cR_tryPin 4 = .ok (.iconst 3, 1) := by decide +kernel
theorem dR_tryPin_5 : decode cR_tryPin 5 = .ok (.if_icmp .lt 6, 3) := by decide +kernel
theorem dR_tryPin_8 : decode cR_tryPin 8 = .ok (.bipush (-8), 2) := by decide +kernel
theorem dR_tryPin_10 : decode cR_tryPin 10 = .ok (.ireturn, 1) := by decide +kernel
theorem dR_tryPin_11 : decode cR_tryPin 11 = .ok (.iload_n 1, 1) := by decide +kernel
theorem dR_tryPin_12 : decode cR_tryPin 12 = .ok (.aload_n 0, 1) := by decide +kernel
theorem dR_tryPin_13 : decode cR_tryPin 13 = .ok (.getfield 9, 3) := by decide +kernel
theorem dR_tryPin_16 : decode cR_tryPin 16 = .ok (.if_icmp .eq 16, 3) := by decide +kernel
theorem dR_tryPin_19 : decode cR_tryPin 19 = .ok (.aload_n 0, 1) := by decide +kernel
theorem dR_tryPin_20 : decode cR_tryPin 20 = .ok (.dup, 1) := by decide +kernel
theorem dR_tryPin_21 : decode cR_tryPin 21 = .ok (.getfield 15, 3) := by decide +kernel
theorem dR_tryPin_24 : decode cR_tryPin 24 = .ok (.iconst 1, 1) := by decide +kernel
theorem dR_tryPin_25 : decode cR_tryPin 25 = .ok (.iadd, 1) := by decide +kernel
theorem dR_tryPin_26 : decode cR_tryPin 26 = .ok (.putfield 15, 3) := by decide +kernel
theorem dR_tryPin_29 : decode cR_tryPin 29 = .ok (.bipush (-9), 2) := by decide +kernel
theorem dR_tryPin_31 : decode cR_tryPin 31 = .ok (.ireturn, 1) := by decide +kernel
theorem dR_tryPin_32 : decode cR_tryPin 32 = .ok (.aload_n 0, 1) := by decide +kernel
theorem dR_tryPin_33 : decode cR_tryPin 33 = .ok (.iconst 0, 1) := by decide +kernel
theorem dR_tryPin_34 : decode cR_tryPin 34 = .ok (.putfield 15, 3) := by decide +kernel
theorem dR_tryPin_37 : decode cR_tryPin 37 = .ok (.iconst 0, 1) := by decide +kernel
theorem dR_tryPin_38 : decode cR_tryPin 38 = .ok (.ireturn, 1) := by decide +kernel
theorem dR_renew_0 : decode cR_renew 0 = .ok (.aload_n 0, 1) := by decide +kernel
theorem dR_renew_1 : decode cR_renew 1 = .ok (.iload_n 1, 1) := by decide +kernel
theorem dR_renew_2 : decode cR_renew 2 = .ok (.putfield 9, 3) := by decide +kernel
theorem dR_renew_5 : decode cR_renew 5 = .ok (.aload_n 0, 1) := by decide +kernel
theorem dR_renew_6 : decode cR_renew 6 = .ok (.iconst 0, 1) := by decide +kernel
theorem dR_renew_7 : decode cR_renew 7 = .ok (.putfield 15, 3) := by decide +kernel
theorem dR_renew_10 : decode cR_renew 10 = .ok (.return_, 1) := by decide +kernel
theorem dK_init_0 : decode cK_init 0 = .ok (.aload_n 0, 1) := by decide +kernel
theorem dK_init_1 : decode cK_init 1 = .ok (.invokespecial 3, 3) := by decide +kernel
theorem dK_init_4 : decode cK_init 4 = .ok (.aload_n 0, 1) := by decide +kernel
theorem dK_init_5 : decode cK_init 5 = .ok (.bipush 10, 2) := by decide +kernel
theorem dK_init_7 : decode cK_init 7 = .ok (.newarray .int, 2) := by decide +kernel
theorem dK_init_9 : decode cK_init 9 = .ok (.putfield 9, 3) := by decide +kernel
theorem dK_init_12 : decode cK_init 12 = .ok (.aload_n 0, 1) := by decide +kernel
theorem dK_init_13 : decode cK_init 13 = .ok (.bipush 10, 2) := by decide +kernel
theorem dK_init_15 : decode cK_init 15 = .ok (.newarray .int, 2) := by decide +kernel
theorem dK_init_17 : decode cK_init 17 = .ok (.putfield 15, 3) := by decide +kernel
theorem dK_init_20 : decode cK_init 20 = .ok (.aload_n 0, 1) := by decide +kernel
theorem dK_init_21 : decode cK_init 21 = .ok (.bipush 10, 2) := by decide +kernel
theorem dK_init_23 : decode cK_init 23 = .ok (.newarray .int, 2) := by decide +kernel
theorem dK_init_25 : decode cK_init 25 = .ok (.putfield 18, 3) := by decide +kernel
theorem dK_init_28 : decode cK_init 28 = .ok (.aload_n 0, 1) := by decide +kernel
theorem dK_init_29 : decode cK_init 29 = .ok (.bipush 10, 2) := by decide +kernel
theorem dK_init_31 : decode cK_init 31 = .ok (.newarray .int, 2) := by decide +kernel
theorem dK_init_33 : decode cK_init 33 = .ok (.putfield 21, 3) := by decide +kernel
theorem dK_init_36 : decode cK_init 36 = .ok (.return_, 1) := by decide +kernel
theorem dK_has_0 : decode cK_has 0 = .ok (.iload_n 1, 1) := by decide +kernel
theorem dK_has_1 : decode cK_has 1 = .ok (.ifCond .lt 26, 3) := by decide +kernel
theorem dK_has_4 : decode cK_has 4 = .ok (.iload_n 1, 1) := by decide +kernel
theorem dK_has_5 : decode cK_has 5 = .ok (.aload_n 0, 1) := by decide +kernel
theorem dK_has_6 : decode cK_has 6 = .ok (.getfield 24, 3) := by decide +kernel
theorem dK_has_9 : decode cK_has 9 = .ok (.if_icmp .ge 18, 3) := by decide +kernel
theorem dK_has_12 : decode cK_has 12 = .ok (.aload_n 0, 1) := by decide +kernel
theorem dK_has_13 : decode cK_has 13 = .ok (.getfield 15, 3) := by decide +kernel
theorem dK_has_16 : decode cK_has 16 = .ok (.iload_n 1, 1) := by decide +kernel
theorem dK_has_17 : decode cK_has 17 = .ok (.iaload, 1) := by decide +kernel
theorem dK_has_18 : decode cK_has 18 = .ok (.iload_n 2, 1) := by decide +kernel
theorem dK_has_19 : decode cK_has 19 = .ok (.iand, 1) := by decide +kernel
theorem dK_has_20 : decode cK_has 20 = .ok (.ifCond .eq 7, 3) := by decide +kernel
theorem dK_has_23 : decode cK_has 23 = .ok (.iconst 1, 1) := by decide +kernel
theorem dK_has_24 : decode cK_has 24 = .ok (.goto 4, 3) := by decide +kernel
theorem dK_has_27 : decode cK_has 27 = .ok (.iconst 0, 1) := by decide +kernel
theorem dK_has_28 : decode cK_has 28 = .ok (.ireturn, 1) := by decide +kernel
theorem dK_rowWith_0 : decode cK_rowWith 0 = .ok (.iconst 0, 1) := by decide +kernel
theorem dK_rowWith_1 : decode cK_rowWith 1 = .ok (.istore_n 2, 1) := by decide +kernel
theorem dK_rowWith_2 : decode cK_rowWith 2 = .ok (.iload_n 2, 1) := by decide +kernel
theorem dK_rowWith_3 : decode cK_rowWith 3 = .ok (.aload_n 0, 1) := by decide +kernel
theorem dK_rowWith_4 : decode cK_rowWith 4 = .ok (.getfield 24, 3) := by decide +kernel
theorem dK_rowWith_7 : decode cK_rowWith 7 = .ok (.if_icmp .ge 21, 3) := by decide +kernel
theorem dK_rowWith_10 : decode cK_rowWith 10 = .ok (.aload_n 0, 1) := by decide +kernel
theorem dK_rowWith_11 : decode cK_rowWith 11 = .ok (.getfield 9, 3) := by decide +kernel
theorem dK_rowWith_14 : decode cK_rowWith 14 = .ok (.iload_n 2, 1) := by decide +kernel
theorem dK_rowWith_15 : decode cK_rowWith 15 = .ok (.iaload, 1) := by decide +kernel
theorem dK_rowWith_16 : decode cK_rowWith 16 = .ok (.iload_n 1, 1) := by decide +kernel
theorem dK_rowWith_17 : decode cK_rowWith 17 = .ok (.if_icmp .ne 5, 3) := by decide +kernel
theorem dK_rowWith_20 : decode cK_rowWith 20 = .ok (.iload_n 2, 1) := by decide +kernel
theorem dK_rowWith_21 : decode cK_rowWith 21 = .ok (.ireturn, 1) := by decide +kernel
theorem dK_rowWith_22 : decode cK_rowWith 22 = .ok (.iinc 2 1, 3) := by decide +kernel
theorem dK_rowWith_25 : decode cK_rowWith 25 = .ok (.goto (-23), 3) := by decide +kernel
theorem dK_rowWith_28 : decode cK_rowWith 28 = .ok (.iconst (-1), 1) := by decide +kernel
theorem dK_rowWith_29 : decode cK_rowWith 29 = .ok (.ireturn, 1) := by decide +kernel
theorem dK_add_0 : decode cK_add 0 = .ok (.aload_n 0, 1) := by decide +kernel
theorem dK_add_1 : decode cK_add 1 = .ok (.getfield 24, 3) := by decide +kernel
theorem dK_add_4 : decode cK_add 4 = .ok (.bipush 10, 2) := by decide +kernel
theorem dK_add_6 : decode cK_add 6 = .ok (.if_icmp .lt 6, 3) := by decide +kernel
theorem dK_add_9 : decode cK_add 9 = .ok (.bipush (-6), 2) := by decide +kernel
theorem dK_add_11 : decode cK_add 11 = .ok (.ireturn, 1) := by decide +kernel
theorem dK_add_12 : decode cK_add 12 = .ok (.aload_n 0, 1) := by decide +kernel
theorem dK_add_13 : decode cK_add 13 = .ok (.dup, 1) := by decide +kernel
theorem dK_add_14 : decode cK_add 14 = .ok (.getfield 28, 3) := by decide +kernel
theorem dK_add_17 : decode cK_add 17 = .ok (.iconst 1, 1) := by decide +kernel
theorem dK_add_18 : decode cK_add 18 = .ok (.iadd, 1) := by decide +kernel
theorem dK_add_19 : decode cK_add 19 = .ok (.putfield 28, 3) := by decide +kernel
theorem dK_add_22 : decode cK_add 22 = .ok (.aload_n 0, 1) := by decide +kernel
theorem dK_add_23 : decode cK_add 23 = .ok (.getfield 9, 3) := by decide +kernel
theorem dK_add_26 : decode cK_add 26 = .ok (.aload_n 0, 1) := by decide +kernel
theorem dK_add_27 : decode cK_add 27 = .ok (.getfield 24, 3) := by decide +kernel
theorem dK_add_30 : decode cK_add 30 = .ok (.aload_n 0, 1) := by decide +kernel
theorem dK_add_31 : decode cK_add 31 = .ok (.getfield 28, 3) := by decide +kernel
theorem dK_add_34 : decode cK_add 34 = .ok (.iastore, 1) := by decide +kernel
theorem dK_add_35 : decode cK_add 35 = .ok (.aload_n 0, 1) := by decide +kernel
theorem dK_add_36 : decode cK_add 36 = .ok (.getfield 15, 3) := by decide +kernel
theorem dK_add_39 : decode cK_add 39 = .ok (.aload_n 0, 1) := by decide +kernel
theorem dK_add_40 : decode cK_add 40 = .ok (.getfield 24, 3) := by decide +kernel
theorem dK_add_43 : decode cK_add 43 = .ok (.iload_n 1, 1) := by decide +kernel
theorem dK_add_44 : decode cK_add 44 = .ok (.iastore, 1) := by decide +kernel
theorem dK_add_45 : decode cK_add 45 = .ok (.aload_n 0, 1) := by decide +kernel
theorem dK_add_46 : decode cK_add 46 = .ok (.getfield 18, 3) := by decide +kernel
theorem dK_add_49 : decode cK_add 49 = .ok (.aload_n 0, 1) := by decide +kernel
theorem dK_add_50 : decode cK_add 50 = .ok (.getfield 24, 3) := by decide +kernel
theorem dK_add_53 : decode cK_add 53 = .ok (.iload_n 2, 1) := by decide +kernel
theorem dK_add_54 : decode cK_add 54 = .ok (.iastore, 1) := by decide +kernel
theorem dK_add_55 : decode cK_add 55 = .ok (.aload_n 0, 1) := by decide +kernel
theorem dK_add_56 : decode cK_add 56 = .ok (.getfield 21, 3) := by decide +kernel
theorem dK_add_59 : decode cK_add 59 = .ok (.aload_n 0, 1) := by decide +kernel
theorem dK_add_60 : decode cK_add 60 = .ok (.getfield 24, 3) := by decide +kernel
theorem dK_add_63 : decode cK_add 63 = .ok (.iload_n 1, 1) := by decide +kernel
theorem dK_add_64 : decode cK_add 64 = .ok (.iconst 1, 1) := by decide +kernel
theorem dK_add_65 : decode cK_add 65 = .ok (.iand, 1) := by decide +kernel
theorem dK_add_66 : decode cK_add 66 = .ok (.ifCond .eq 7, 3) := by decide +kernel
theorem dK_add_69 : decode cK_add 69 = .ok (.iconst (-1), 1) := by decide +kernel
theorem dK_add_70 : decode cK_add 70 = .ok (.goto 4, 3) := by decide +kernel
theorem dK_add_73 : decode cK_add 73 = .ok (.iload_n 3, 1) := by decide +kernel
theorem dK_add_74 : decode cK_add 74 = .ok (.iastore, 1) := by decide +kernel
theorem dK_add_75 : decode cK_add 75 = .ok (.aload_n 0, 1) := by decide +kernel
theorem dK_add_76 : decode cK_add 76 = .ok (.dup, 1) := by decide +kernel
theorem dK_add_77 : decode cK_add 77 = .ok (.getfield 24, 3) := by decide +kernel
theorem dK_add_80 : decode cK_add 80 = .ok (.iconst 1, 1) := by decide +kernel
theorem dK_add_81 : decode cK_add 81 = .ok (.iadd, 1) := by decide +kernel
theorem dK_add_82 : decode cK_add 82 = .ok (.putfield 24, 3) := by decide +kernel
theorem dK_add_85 : decode cK_add 85 = .ok (.aload_n 0, 1) := by decide +kernel
theorem dK_add_86 : decode cK_add 86 = .ok (.getfield 28, 3) := by decide +kernel
theorem dK_add_89 : decode cK_add 89 = .ok (.ireturn, 1) := by decide +kernel
theorem dK_removeRow_0 : decode cK_removeRow 0 = .ok (.iload_n 1, 1) := by decide +kernel
theorem dK_removeRow_1 : decode cK_removeRow 1 = .ok (.istore_n 2, 1) := by decide +kernel
theorem dK_removeRow_2 : decode cK_removeRow 2 = .ok (.iload_n 2, 1) := by decide +kernel
theorem dK_removeRow_3 : decode cK_removeRow 3 = .ok (.aload_n 0, 1) := by decide +kernel
theorem dK_removeRow_4 : decode cK_removeRow 4 = .ok (.getfield 24, 3) := by decide +kernel
theorem dK_removeRow_7 : decode cK_removeRow 7 = .ok (.iconst 1, 1) := by decide +kernel
theorem dK_removeRow_8 : decode cK_removeRow 8 = .ok (.isub, 1) := by decide +kernel
theorem dK_removeRow_9 : decode cK_removeRow 9 = .ok (.if_icmp .ge 65, 3) := by decide +kernel
theorem dK_removeRow_12 : decode cK_removeRow 12 = .ok (.aload_n 0, 1) := by decide +kernel
theorem dK_removeRow_13 : decode cK_removeRow 13 = .ok (.getfield 9, 3) := by decide +kernel
theorem dK_removeRow_16 : decode cK_removeRow 16 = .ok (.iload_n 2, 1) := by decide +kernel
theorem dK_removeRow_17 : decode cK_removeRow 17 = .ok (.aload_n 0, 1) := by decide +kernel
theorem dK_removeRow_18 : decode cK_removeRow 18 = .ok (.getfield 9, 3) := by decide +kernel
theorem dK_removeRow_21 : decode cK_removeRow 21 = .ok (.iload_n 2, 1) := by decide +kernel
theorem dK_removeRow_22 : decode cK_removeRow 22 = .ok (.iconst 1, 1) := by decide +kernel
theorem dK_removeRow_23 : decode cK_removeRow 23 = .ok (.iadd, 1) := by decide +kernel
theorem dK_removeRow_24 : decode cK_removeRow 24 = .ok (.iaload, 1) := by decide +kernel
theorem dK_removeRow_25 : decode cK_removeRow 25 = .ok (.iastore, 1) := by decide +kernel
theorem dK_removeRow_26 : decode cK_removeRow 26 = .ok (.aload_n 0, 1) := by decide +kernel
theorem dK_removeRow_27 : decode cK_removeRow 27 = .ok (.getfield 15, 3) := by decide +kernel
theorem dK_removeRow_30 : decode cK_removeRow 30 = .ok (.iload_n 2, 1) := by decide +kernel
theorem dK_removeRow_31 : decode cK_removeRow 31 = .ok (.aload_n 0, 1) := by decide +kernel
theorem dK_removeRow_32 : decode cK_removeRow 32 = .ok (.getfield 15, 3) := by decide +kernel
theorem dK_removeRow_35 : decode cK_removeRow 35 = .ok (.iload_n 2, 1) := by decide +kernel
theorem dK_removeRow_36 : decode cK_removeRow 36 = .ok (.iconst 1, 1) := by decide +kernel
theorem dK_removeRow_37 : decode cK_removeRow 37 = .ok (.iadd, 1) := by decide +kernel
theorem dK_removeRow_38 : decode cK_removeRow 38 = .ok (.iaload, 1) := by decide +kernel
theorem dK_removeRow_39 : decode cK_removeRow 39 = .ok (.iastore, 1) := by decide +kernel
theorem dK_removeRow_40 : decode cK_removeRow 40 = .ok (.aload_n 0, 1) := by decide +kernel
theorem dK_removeRow_41 : decode cK_removeRow 41 = .ok (.getfield 18, 3) := by decide +kernel
theorem dK_removeRow_44 : decode cK_removeRow 44 = .ok (.iload_n 2, 1) := by decide +kernel
theorem dK_removeRow_45 : decode cK_removeRow 45 = .ok (.aload_n 0, 1) := by decide +kernel
theorem dK_removeRow_46 : decode cK_removeRow 46 = .ok (.getfield 18, 3) := by decide +kernel
theorem dK_removeRow_49 : decode cK_removeRow 49 = .ok (.iload_n 2, 1) := by decide +kernel
theorem dK_removeRow_50 : decode cK_removeRow 50 = .ok (.iconst 1, 1) := by decide +kernel
theorem dK_removeRow_51 : decode cK_removeRow 51 = .ok (.iadd, 1) := by decide +kernel
theorem dK_removeRow_52 : decode cK_removeRow 52 = .ok (.iaload, 1) := by decide +kernel
theorem dK_removeRow_53 : decode cK_removeRow 53 = .ok (.iastore, 1) := by decide +kernel
theorem dK_removeRow_54 : decode cK_removeRow 54 = .ok (.aload_n 0, 1) := by decide +kernel
theorem dK_removeRow_55 : decode cK_removeRow 55 = .ok (.getfield 21, 3) := by decide +kernel
theorem dK_removeRow_58 : decode cK_removeRow 58 = .ok (.iload_n 2, 1) := by decide +kernel
theorem dK_removeRow_59 : decode cK_removeRow 59 = .ok (.aload_n 0, 1) := by decide +kernel
theorem dK_removeRow_60 : decode cK_removeRow 60 = .ok (.getfield 21, 3) := by decide +kernel
theorem dK_removeRow_63 : decode cK_removeRow 63 = .ok (.iload_n 2, 1) := by decide +kernel
theorem dK_removeRow_64 : decode cK_removeRow 64 = .ok (.iconst 1, 1) := by decide +kernel
theorem dK_removeRow_65 : decode cK_removeRow 65 = .ok (.iadd, 1) := by decide +kernel
theorem dK_removeRow_66 : decode cK_removeRow 66 = .ok (.iaload, 1) := by decide +kernel
theorem dK_removeRow_67 : decode cK_removeRow 67 = .ok (.iastore, 1) := by decide +kernel
theorem dK_removeRow_68 : decode cK_removeRow 68 = .ok (.iinc 2 1, 3) := by decide +kernel
theorem dK_removeRow_71 : decode cK_removeRow 71 = .ok (.goto (-69), 3) := by decide +kernel
theorem dK_removeRow_74 : decode cK_removeRow 74 = .ok (.aload_n 0, 1) := by decide +kernel
theorem dK_removeRow_75 : decode cK_removeRow 75 = .ok (.dup, 1) := by decide +kernel
theorem dK_removeRow_76 : decode cK_removeRow 76 = .ok (.getfield 24, 3) := by decide +kernel
theorem dK_removeRow_79 : decode cK_removeRow 79 = .ok (.iconst 1, 1) := by decide +kernel
theorem dK_removeRow_80 : decode cK_removeRow 80 = .ok (.isub, 1) := by decide +kernel
theorem dK_removeRow_81 : decode cK_removeRow 81 = .ok (.putfield 24, 3) := by decide +kernel
theorem dK_removeRow_84 : decode cK_removeRow 84 = .ok (.return_, 1) := by decide +kernel
theorem dK_removeOwnedBy_0 : decode cK_removeOwnedBy 0 = .ok (.aload_n 0, 1) := by decide +kernel
theorem dK_removeOwnedBy_1 : decode cK_removeOwnedBy 1 = .ok (.getfield 24, 3) := by decide +kernel
theorem dK_removeOwnedBy_4 : decode cK_removeOwnedBy 4 = .ok (.iconst 1, 1) := by decide +kernel
theorem dK_removeOwnedBy_5 : decode cK_removeOwnedBy 5 = .ok (.isub, 1) := by decide +kernel
theorem dK_removeOwnedBy_6 : decode cK_removeOwnedBy 6 = .ok (.istore_n 2, 1) := by decide +kernel
theorem dK_removeOwnedBy_7 : decode cK_removeOwnedBy 7 = .ok (.iload_n 2, 1) := by decide +kernel
theorem dK_removeOwnedBy_8 : decode cK_removeOwnedBy 8 = .ok (.ifCond .lt 24, 3) := by decide +kernel
theorem dK_removeOwnedBy_11 : decode cK_removeOwnedBy 11 = .ok (.aload_n 0, 1) := by decide +kernel
theorem dK_removeOwnedBy_12 : decode cK_removeOwnedBy 12 = .ok (.getfield 21, 3) := by decide +kernel
theorem dK_removeOwnedBy_15 : decode cK_removeOwnedBy 15 = .ok (.iload_n 2, 1) := by decide +kernel
theorem dK_removeOwnedBy_16 : decode cK_removeOwnedBy 16 = .ok (.iaload, 1) := by decide +kernel
theorem dK_removeOwnedBy_17 : decode cK_removeOwnedBy 17 = .ok (.iload_n 1, 1) := by decide +kernel
theorem dK_removeOwnedBy_18 : decode cK_removeOwnedBy 18 = .ok (.if_icmp .ne 8, 3) := by decide +kernel
theorem dK_removeOwnedBy_21 : decode cK_removeOwnedBy 21 = .ok (.aload_n 0, 1) := by decide +kernel
theorem dK_removeOwnedBy_22 : decode cK_removeOwnedBy 22 = .ok (.iload_n 2, 1) := by decide +kernel
theorem dK_removeOwnedBy_23 : decode cK_removeOwnedBy 23 = .ok (.invokevirtual 31, 3) := by decide +kernel
theorem dK_removeOwnedBy_26 : decode cK_removeOwnedBy 26 = .ok (.iinc 2 (-1), 3) := by decide +kernel
theorem dK_removeOwnedBy_29 : decode cK_removeOwnedBy 29 = .ok (.goto (-22), 3) := by decide +kernel
theorem dK_removeOwnedBy_32 : decode cK_removeOwnedBy 32 = .ok (.return_, 1) := by decide +kernel
theorem dK_removePrivateSessionKeys_0 : decode cK_removePrivateSessionKeys 0 = .ok (.aload_n 0, 1) := by decide +kernel
theorem dK_removePrivateSessionKeys_1 : decode cK_removePrivateSessionKeys 1 = .ok (.getfield 24, 3) := by decide +kernel
theorem dK_removePrivateSessionKeys_4 : decode cK_removePrivateSessionKeys 4 = .ok (.iconst 1, 1) := by decide +kernel
theorem dK_removePrivateSessionKeys_5 : decode cK_removePrivateSessionKeys 5 = .ok (.isub, 1) := by decide +kernel
theorem dK_removePrivateSessionKeys_6 : decode cK_removePrivateSessionKeys 6 = .ok (.istore_n 1, 1) := by decide +kernel
theorem dK_removePrivateSessionKeys_7 : decode cK_removePrivateSessionKeys 7 = .ok (.iload_n 1, 1) := by decide +kernel
theorem dK_removePrivateSessionKeys_8 : decode cK_removePrivateSessionKeys 8 = .ok (.ifCond .lt 32, 3) := by decide +kernel
theorem dK_removePrivateSessionKeys_11 : decode cK_removePrivateSessionKeys 11 = .ok (.aload_n 0, 1) := by decide +kernel
theorem dK_removePrivateSessionKeys_12 : decode cK_removePrivateSessionKeys 12 = .ok (.iload_n 1, 1) := by decide +kernel
theorem dK_removePrivateSessionKeys_13 : decode cK_removePrivateSessionKeys 13 = .ok (.iconst 2, 1) := by decide +kernel
theorem dK_removePrivateSessionKeys_14 : decode cK_removePrivateSessionKeys 14 = .ok (.invokevirtual 35, 3) := by decide +kernel
theorem dK_removePrivateSessionKeys_17 : decode cK_removePrivateSessionKeys 17 = .ok (.ifCond .eq 17, 3) := by decide +kernel
theorem dK_removePrivateSessionKeys_20 : decode cK_removePrivateSessionKeys 20 = .ok (.aload_n 0, 1) := by decide +kernel
theorem dK_removePrivateSessionKeys_21 : decode cK_removePrivateSessionKeys 21 = .ok (.iload_n 1, 1) := by decide +kernel
theorem dK_removePrivateSessionKeys_22 : decode cK_removePrivateSessionKeys 22 = .ok (.iconst 1, 1) := by decide +kernel
theorem dK_removePrivateSessionKeys_23 : decode cK_removePrivateSessionKeys 23 = .ok (.invokevirtual 35, 3) := by decide +kernel
theorem dK_removePrivateSessionKeys_26 : decode cK_removePrivateSessionKeys 26 = .ok (.ifCond .ne 8, 3) := by decide +kernel
theorem dK_removePrivateSessionKeys_29 : decode cK_removePrivateSessionKeys 29 = .ok (.aload_n 0, 1) := by decide +kernel
theorem dK_removePrivateSessionKeys_30 : decode cK_removePrivateSessionKeys 30 = .ok (.iload_n 1, 1) := by decide +kernel
theorem dK_removePrivateSessionKeys_31 : decode cK_removePrivateSessionKeys 31 = .ok (.invokevirtual 31, 3) := by decide +kernel
theorem dK_removePrivateSessionKeys_34 : decode cK_removePrivateSessionKeys 34 = .ok (.iinc 1 (-1), 3) := by decide +kernel
theorem dK_removePrivateSessionKeys_37 : decode cK_removePrivateSessionKeys 37 = .ok (.goto (-30), 3) := by decide +kernel
theorem dK_removePrivateSessionKeys_40 : decode cK_removePrivateSessionKeys 40 = .ok (.return_, 1) := by decide +kernel
theorem dW_half_0 : decode cW_half 0 = .ok (.iload_n 2, 1) := by decide +kernel
theorem dW_half_1 : decode cW_half 1 = .ok (.ldc 7, 2) := by decide +kernel
theorem dW_half_3 : decode cW_half 3 = .ok (.imul, 1) := by decide +kernel
theorem dW_half_4 : decode cW_half 4 = .ok (.iload_n 0, 1) := by decide +kernel
theorem dW_half_5 : decode cW_half 5 = .ok (.iload_n 1, 1) := by decide +kernel
theorem dW_half_6 : decode cW_half 6 = .ok (.invokestatic 8, 3) := by decide +kernel
theorem dW_half_9 : decode cW_half 9 = .ok (.sipush 257, 3) := by decide +kernel
theorem dW_half_12 : decode cW_half 12 = .ok (.imul, 1) := by decide +kernel
theorem dW_half_13 : decode cW_half 13 = .ok (.iadd, 1) := by decide +kernel
theorem dW_half_14 : decode cW_half 14 = .ok (.iload_n 1, 1) := by decide +kernel
theorem dW_half_15 : decode cW_half 15 = .ok (.sipush 4099, 3) := by decide +kernel
theorem dW_half_18 : decode cW_half 18 = .ok (.imul, 1) := by decide +kernel
theorem dW_half_19 : decode cW_half 19 = .ok (.iadd, 1) := by decide +kernel
theorem dW_half_20 : decode cW_half 20 = .ok (.istore_n 3, 1) := by decide +kernel
theorem dW_half_21 : decode cW_half 21 = .ok (.iload_n 3, 1) := by decide +kernel
theorem dW_half_22 : decode cW_half 22 = .ok (.iload_n 3, 1) := by decide +kernel
theorem dW_half_23 : decode cW_half 23 = .ok (.bipush 7, 2) := by decide +kernel
theorem dW_half_25 : decode cW_half 25 = .ok (.iushr, 1) := by decide +kernel
theorem dW_half_26 : decode cW_half 26 = .ok (.ixor, 1) := by decide +kernel
theorem dW_half_27 : decode cW_half 27 = .ok (.ldc 14, 2) := by decide +kernel
theorem dW_half_29 : decode cW_half 29 = .ok (.iand, 1) := by decide +kernel
theorem dW_half_30 : decode cW_half 30 = .ok (.ireturn, 1) := by decide +kernel
theorem dW_enc_0 : decode cW_enc 0 = .ok (.iload_n 1, 1) := by decide +kernel
theorem dW_enc_1 : decode cW_enc 1 = .ok (.bipush 16, 2) := by decide +kernel
theorem dW_enc_3 : decode cW_enc 3 = .ok (.iushr, 1) := by decide +kernel
theorem dW_enc_4 : decode cW_enc 4 = .ok (.istore_n 2, 1) := by decide +kernel
theorem dW_enc_5 : decode cW_enc 5 = .ok (.iload_n 1, 1) := by decide +kernel
theorem dW_enc_6 : decode cW_enc 6 = .ok (.ldc 14, 2) := by decide +kernel
theorem dW_enc_8 : decode cW_enc 8 = .ok (.iand, 1) := by decide +kernel
theorem dW_enc_9 : decode cW_enc 9 = .ok (.istore_n 3, 1) := by decide +kernel
theorem dW_enc_10 : decode cW_enc 10 = .ok (.iconst 0, 1) := by decide +kernel
theorem dW_enc_11 : decode cW_enc 11 = .ok (.istore 4, 2) := by decide +kernel
theorem dW_enc_13 : decode cW_enc 13 = .ok (.iload 4, 2) := by decide +kernel
theorem dW_enc_15 : decode cW_enc 15 = .ok (.iconst 4, 1) := by decide +kernel
theorem dW_enc_16 : decode cW_enc 16 = .ok (.if_icmp .ge 25, 3) := by decide +kernel
theorem dW_enc_19 : decode cW_enc 19 = .ok (.iload_n 2, 1) := by decide +kernel
theorem dW_enc_20 : decode cW_enc 20 = .ok (.iload_n 0, 1) := by decide +kernel
theorem dW_enc_21 : decode cW_enc 21 = .ok (.iload 4, 2) := by decide +kernel
theorem dW_enc_23 : decode cW_enc 23 = .ok (.iload_n 3, 1) := by decide +kernel
theorem dW_enc_24 : decode cW_enc 24 = .ok (.invokestatic 15, 3) := by decide +kernel
theorem dW_enc_27 : decode cW_enc 27 = .ok (.ixor, 1) := by decide +kernel
theorem dW_enc_28 : decode cW_enc 28 = .ok (.istore 5, 2) := by decide +kernel
theorem dW_enc_30 : decode cW_enc 30 = .ok (.iload_n 3, 1) := by decide +kernel
theorem dW_enc_31 : decode cW_enc 31 = .ok (.istore_n 2, 1) := by decide +kernel
theorem dW_enc_32 : decode cW_enc 32 = .ok (.iload 5, 2) := by decide +kernel
theorem dW_enc_34 : decode cW_enc 34 = .ok (.istore_n 3, 1) := by decide +kernel
theorem dW_enc_35 : decode cW_enc 35 = .ok (.iinc 4 1, 3) := by decide +kernel
theorem dW_enc_38 : decode cW_enc 38 = .ok (.goto (-25), 3) := by decide +kernel
theorem dW_enc_41 : decode cW_enc 41 = .ok (.iload_n 2, 1) := by decide +kernel
theorem dW_enc_42 : decode cW_enc 42 = .ok (.ldc 19, 2) := by decide +kernel
theorem dW_enc_44 : decode cW_enc 44 = .ok (.imul, 1) := by decide +kernel
theorem dW_enc_45 : decode cW_enc 45 = .ok (.iload_n 3, 1) := by decide +kernel
theorem dW_enc_46 : decode cW_enc 46 = .ok (.iadd, 1) := by decide +kernel
theorem dW_enc_47 : decode cW_enc 47 = .ok (.ireturn, 1) := by decide +kernel
theorem dW_dec_0 : decode cW_dec 0 = .ok (.iload_n 1, 1) := by decide +kernel
theorem dW_dec_1 : decode cW_dec 1 = .ok (.bipush 16, 2) := by decide +kernel
theorem dW_dec_3 : decode cW_dec 3 = .ok (.iushr, 1) := by decide +kernel
theorem dW_dec_4 : decode cW_dec 4 = .ok (.istore_n 2, 1) := by decide +kernel
theorem dW_dec_5 : decode cW_dec 5 = .ok (.iload_n 1, 1) := by decide +kernel
theorem dW_dec_6 : decode cW_dec 6 = .ok (.ldc 14, 2) := by decide +kernel
theorem dW_dec_8 : decode cW_dec 8 = .ok (.iand, 1) := by decide +kernel
theorem dW_dec_9 : decode cW_dec 9 = .ok (.istore_n 3, 1) := by decide +kernel
theorem dW_dec_10 : decode cW_dec 10 = .ok (.iconst 3, 1) := by decide +kernel
theorem dW_dec_11 : decode cW_dec 11 = .ok (.istore 4, 2) := by decide +kernel
theorem dW_dec_13 : decode cW_dec 13 = .ok (.iload 4, 2) := by decide +kernel
theorem dW_dec_15 : decode cW_dec 15 = .ok (.ifCond .lt 25, 3) := by decide +kernel
theorem dW_dec_18 : decode cW_dec 18 = .ok (.iload_n 3, 1) := by decide +kernel
theorem dW_dec_19 : decode cW_dec 19 = .ok (.iload_n 0, 1) := by decide +kernel
theorem dW_dec_20 : decode cW_dec 20 = .ok (.iload 4, 2) := by decide +kernel
theorem dW_dec_22 : decode cW_dec 22 = .ok (.iload_n 2, 1) := by decide +kernel
theorem dW_dec_23 : decode cW_dec 23 = .ok (.invokestatic 15, 3) := by decide +kernel
theorem dW_dec_26 : decode cW_dec 26 = .ok (.ixor, 1) := by decide +kernel
theorem dW_dec_27 : decode cW_dec 27 = .ok (.istore 5, 2) := by decide +kernel
theorem dW_dec_29 : decode cW_dec 29 = .ok (.iload_n 2, 1) := by decide +kernel
theorem dW_dec_30 : decode cW_dec 30 = .ok (.istore_n 3, 1) := by decide +kernel
theorem dW_dec_31 : decode cW_dec 31 = .ok (.iload 5, 2) := by decide +kernel
theorem dW_dec_33 : decode cW_dec 33 = .ok (.istore_n 2, 1) := by decide +kernel
theorem dW_dec_34 : decode cW_dec 34 = .ok (.iinc 4 (-1), 3) := by decide +kernel
theorem dW_dec_37 : decode cW_dec 37 = .ok (.goto (-24), 3) := by decide +kernel
theorem dW_dec_40 : decode cW_dec 40 = .ok (.iload_n 2, 1) := by decide +kernel
theorem dW_dec_41 : decode cW_dec 41 = .ok (.ldc 19, 2) := by decide +kernel
theorem dW_dec_43 : decode cW_dec 43 = .ok (.imul, 1) := by decide +kernel
theorem dW_dec_44 : decode cW_dec 44 = .ok (.iload_n 3, 1) := by decide +kernel
theorem dW_dec_45 : decode cW_dec 45 = .ok (.iadd, 1) := by decide +kernel
theorem dW_dec_46 : decode cW_dec 46 = .ok (.ireturn, 1) := by decide +kernel
theorem dW_mac_0 : decode cW_mac 0 = .ok (.iload_n 0, 1) := by decide +kernel
theorem dW_mac_1 : decode cW_mac 1 = .ok (.istore_n 2, 1) := by decide +kernel
theorem dW_mac_2 : decode cW_mac 2 = .ok (.iconst 0, 1) := by decide +kernel
theorem dW_mac_3 : decode cW_mac 3 = .ok (.istore_n 3, 1) := by decide +kernel
theorem dW_mac_4 : decode cW_mac 4 = .ok (.iload_n 3, 1) := by decide +kernel
theorem dW_mac_5 : decode cW_mac 5 = .ok (.iconst 4, 1) := by decide +kernel
theorem dW_mac_6 : decode cW_mac 6 = .ok (.if_icmp .ge 27, 3) := by decide +kernel
theorem dW_mac_9 : decode cW_mac 9 = .ok (.iload_n 2, 1) := by decide +kernel
theorem dW_mac_10 : decode cW_mac 10 = .ok (.iload_n 1, 1) := by decide +kernel
theorem dW_mac_11 : decode cW_mac 11 = .ok (.iload_n 3, 1) := by decide +kernel
theorem dW_mac_12 : decode cW_mac 12 = .ok (.invokestatic 8, 3) := by decide +kernel
theorem dW_mac_15 : decode cW_mac 15 = .ok (.ixor, 1) := by decide +kernel
theorem dW_mac_16 : decode cW_mac 16 = .ok (.ldc 20, 2) := by decide +kernel
theorem dW_mac_18 : decode cW_mac 18 = .ok (.imul, 1) := by decide +kernel
theorem dW_mac_19 : decode cW_mac 19 = .ok (.istore_n 2, 1) := by decide +kernel
theorem dW_mac_20 : decode cW_mac 20 = .ok (.iload_n 2, 1) := by decide +kernel
theorem dW_mac_21 : decode cW_mac 21 = .ok (.iload_n 2, 1) := by decide +kernel
theorem dW_mac_22 : decode cW_mac 22 = .ok (.bipush 13, 2) := by decide +kernel
theorem dW_mac_24 : decode cW_mac 24 = .ok (.iushr, 1) := by decide +kernel
theorem dW_mac_25 : decode cW_mac 25 = .ok (.ixor, 1) := by decide +kernel
theorem dW_mac_26 : decode cW_mac 26 = .ok (.istore_n 2, 1) := by decide +kernel
theorem dW_mac_27 : decode cW_mac 27 = .ok (.iinc 3 1, 3) := by decide +kernel
theorem dW_mac_30 : decode cW_mac 30 = .ok (.goto (-26), 3) := by decide +kernel
theorem dW_mac_33 : decode cW_mac 33 = .ok (.iload_n 2, 1) := by decide +kernel
theorem dW_mac_34 : decode cW_mac 34 = .ok (.ireturn, 1) := by decide +kernel
theorem dW_byteOf_0 : decode cW_byteOf 0 = .ok (.iload_n 0, 1) := by decide +kernel
theorem dW_byteOf_1 : decode cW_byteOf 1 = .ok (.bipush 8, 2) := by decide +kernel
theorem dW_byteOf_3 : decode cW_byteOf 3 = .ok (.iload_n 1, 1) := by decide +kernel
theorem dW_byteOf_4 : decode cW_byteOf 4 = .ok (.imul, 1) := by decide +kernel
theorem dW_byteOf_5 : decode cW_byteOf 5 = .ok (.iushr, 1) := by decide +kernel
theorem dW_byteOf_6 : decode cW_byteOf 6 = .ok (.sipush 255, 3) := by decide +kernel
theorem dW_byteOf_9 : decode cW_byteOf 9 = .ok (.iand, 1) := by decide +kernel
theorem dW_byteOf_10 : decode cW_byteOf 10 = .ok (.ireturn, 1) := by decide +kernel
theorem dM_init_0 : decode cM_init 0 = .ok (.aload_n 0, 1) := by decide +kernel
theorem dM_init_1 : decode cM_init 1 = .ok (.invokespecial 1, 3) := by decide +kernel
theorem dM_init_4 : decode cM_init 4 = .ok (.aload_n 0, 1) := by decide +kernel
theorem dM_init_5 : decode cM_init 5 = .ok (.iconst 3, 1) := by decide +kernel
theorem dM_init_6 : decode cM_init 6 = .ok (.newarray .int, 2) := by decide +kernel
theorem dM_init_8 : decode cM_init 8 = .ok (.putfield 7, 3) := by decide +kernel
theorem dM_init_11 : decode cM_init 11 = .ok (.aload_n 0, 1) := by decide +kernel
theorem dM_init_12 : decode cM_init 12 = .ok (.iconst 3, 1) := by decide +kernel
theorem dM_init_13 : decode cM_init 13 = .ok (.newarray .int, 2) := by decide +kernel
theorem dM_init_15 : decode cM_init 15 = .ok (.putfield 13, 3) := by decide +kernel
theorem dM_init_18 : decode cM_init 18 = .ok (.aload_n 0, 1) := by decide +kernel
theorem dM_init_19 : decode cM_init 19 = .ok (.iconst 3, 1) := by decide +kernel
theorem dM_init_20 : decode cM_init 20 = .ok (.newarray .int, 2) := by decide +kernel
theorem dM_init_22 : decode cM_init 22 = .ok (.putfield 16, 3) := by decide +kernel
theorem dM_init_25 : decode cM_init 25 = .ok (.aload_n 0, 1) := by decide +kernel
theorem dM_init_26 : decode cM_init 26 = .ok (.sipush 512, 3) := by decide +kernel
theorem dM_init_29 : decode cM_init 29 = .ok (.newarray .boolean, 2) := by decide +kernel
theorem dM_init_31 : decode cM_init 31 = .ok (.putfield 19, 3) := by decide +kernel
theorem dM_init_34 : decode cM_init 34 = .ok (.aload_n 0, 1) := by decide +kernel
theorem dM_init_35 : decode cM_init 35 = .ok (.sipush 512, 3) := by decide +kernel
theorem dM_init_38 : decode cM_init 38 = .ok (.newarray .int, 2) := by decide +kernel
theorem dM_init_40 : decode cM_init 40 = .ok (.putfield 23, 3) := by decide +kernel
theorem dM_init_43 : decode cM_init 43 = .ok (.aload_n 0, 1) := by decide +kernel
theorem dM_init_44 : decode cM_init 44 = .ok (.sipush 512, 3) := by decide +kernel
theorem dM_init_47 : decode cM_init 47 = .ok (.newarray .int, 2) := by decide +kernel
theorem dM_init_49 : decode cM_init 49 = .ok (.putfield 26, 3) := by decide +kernel
theorem dM_init_52 : decode cM_init 52 = .ok (.aload_n 0, 1) := by decide +kernel
theorem dM_init_53 : decode cM_init 53 = .ok (.sipush 512, 3) := by decide +kernel
theorem dM_init_56 : decode cM_init 56 = .ok (.newarray .int, 2) := by decide +kernel
theorem dM_init_58 : decode cM_init 58 = .ok (.putfield 29, 3) := by decide +kernel
theorem dM_init_61 : decode cM_init 61 = .ok (.aload_n 0, 1) := by decide +kernel
theorem dM_init_62 : decode cM_init 62 = .ok (.getfield 13, 3) := by decide +kernel
theorem dM_init_65 : decode cM_init 65 = .ok (.iconst 1, 1) := by decide +kernel
theorem dM_init_66 : decode cM_init 66 = .ok (.iload_n 1, 1) := by decide +kernel
theorem dM_init_67 : decode cM_init 67 = .ok (.iastore, 1) := by decide +kernel
theorem dM_init_68 : decode cM_init 68 = .ok (.aload_n 0, 1) := by decide +kernel
theorem dM_init_69 : decode cM_init 69 = .ok (.getfield 13, 3) := by decide +kernel
theorem dM_init_72 : decode cM_init 72 = .ok (.iconst 2, 1) := by decide +kernel
theorem dM_init_73 : decode cM_init 73 = .ok (.iload_n 2, 1) := by decide +kernel
theorem dM_init_74 : decode cM_init 74 = .ok (.iastore, 1) := by decide +kernel
theorem dM_init_75 : decode cM_init 75 = .ok (.return_, 1) := by decide +kernel
theorem dM_has_0 : decode cM_has 0 = .ok (.iload_n 0, 1) := by decide +kernel
theorem dM_has_1 : decode cM_has 1 = .ok (.iload_n 1, 1) := by decide +kernel
theorem dM_has_2 : decode cM_has 2 = .ok (.iand, 1) := by decide +kernel
theorem dM_has_3 : decode cM_has 3 = .ok (.ifCond .eq 7, 3) := by decide +kernel
theorem dM_has_6 : decode cM_has 6 = .ok (.iconst 1, 1) := by decide +kernel
theorem dM_has_7 : decode cM_has 7 = .ok (.goto 4, 3) := by decide +kernel
theorem dM_has_10 : decode cM_has 10 = .ok (.iconst 0, 1) := by decide +kernel
theorem dM_has_11 : decode cM_has 11 = .ok (.ireturn, 1) := by decide +kernel
theorem dM_half_0 : decode cM_half 0 = .ok (.iload_n 2, 1) := by decide +kernel
theorem dM_half_1 : decode cM_half 1 = .ok (.ldc 32, 2) := by decide +kernel
theorem dM_half_3 : decode cM_half 3 = .ok (.imul, 1) := by decide +kernel
theorem dM_half_4 : decode cM_half 4 = .ok (.iload_n 0, 1) := by decide +kernel
theorem dM_half_5 : decode cM_half 5 = .ok (.bipush 8, 2) := by decide +kernel
theorem dM_half_7 : decode cM_half 7 = .ok (.iload_n 1, 1) := by decide +kernel
theorem dM_half_8 : decode cM_half 8 = .ok (.imul, 1) := by decide +kernel
theorem dM_half_9 : decode cM_half 9 = .ok (.iushr, 1) := by decide +kernel
theorem dM_half_10 : decode cM_half 10 = .ok (.sipush 255, 3) := by decide +kernel
theorem dM_half_13 : decode cM_half 13 = .ok (.iand, 1) := by decide +kernel
theorem dM_half_14 : decode cM_half 14 = .ok (.sipush 257, 3) := by decide +kernel
theorem dM_half_17 : decode cM_half 17 = .ok (.imul, 1) := by decide +kernel
theorem dM_half_18 : decode cM_half 18 = .ok (.iadd, 1) := by decide +kernel
theorem dM_half_19 : decode cM_half 19 = .ok (.iload_n 1, 1) := by decide +kernel
theorem dM_half_20 : decode cM_half 20 = .ok (.sipush 4099, 3) := by decide +kernel
theorem dM_half_23 : decode cM_half 23 = .ok (.imul, 1) := by decide +kernel
theorem dM_half_24 : decode cM_half 24 = .ok (.iadd, 1) := by decide +kernel
theorem dM_half_25 : decode cM_half 25 = .ok (.istore_n 3, 1) := by decide +kernel
theorem dM_half_26 : decode cM_half 26 = .ok (.iload_n 3, 1) := by decide +kernel
theorem dM_half_27 : decode cM_half 27 = .ok (.iload_n 3, 1) := by decide +kernel
theorem dM_half_28 : decode cM_half 28 = .ok (.bipush 7, 2) := by decide +kernel
theorem dM_half_30 : decode cM_half 30 = .ok (.iushr, 1) := by decide +kernel
theorem dM_half_31 : decode cM_half 31 = .ok (.ixor, 1) := by decide +kernel
theorem dM_half_32 : decode cM_half 32 = .ok (.ldc 33, 2) := by decide +kernel
theorem dM_half_34 : decode cM_half 34 = .ok (.iand, 1) := by decide +kernel
theorem dM_half_35 : decode cM_half 35 = .ok (.ireturn, 1) := by decide +kernel
theorem dM_rounds_0 : decode cM_rounds 0 = .ok (.iload_n 2, 1) := by decide +kernel
theorem dM_rounds_1 : decode cM_rounds 1 = .ok (.ifCond .eq 10, 3) := by decide +kernel
theorem dM_rounds_4 : decode cM_rounds 4 = .ok (.iload_n 1, 1) := by decide +kernel
theorem dM_rounds_5 : decode cM_rounds 5 = .ok (.bipush 16, 2) := by decide +kernel
theorem dM_rounds_7 : decode cM_rounds 7 = .ok (.iushr, 1) := by decide +kernel
theorem dM_rounds_8 : decode cM_rounds 8 = .ok (.goto 7, 3) := by decide +kernel
theorem dM_rounds_11 : decode cM_rounds 11 = .ok (.iload_n 1, 1) := by decide +kernel
theorem dM_rounds_12 : decode cM_rounds 12 = .ok (.ldc 33, 2) := by decide +kernel
theorem dM_rounds_14 : decode cM_rounds 14 = .ok (.iand, 1) := by decide +kernel
theorem dM_rounds_15 : decode cM_rounds 15 = .ok (.istore_n 3, 1) := by decide +kernel
theorem dM_rounds_16 : decode cM_rounds 16 = .ok (.iload_n 2, 1) := by decide +kernel
theorem dM_rounds_17 : decode cM_rounds 17 = .ok (.ifCond .eq 10, 3) := by decide +kernel
theorem dM_rounds_20 : decode cM_rounds 20 = .ok (.iload_n 1, 1) := by decide +kernel
theorem dM_rounds_21 : decode cM_rounds 21 = .ok (.ldc 33, 2) := by decide +kernel
theorem dM_rounds_23 : decode cM_rounds 23 = .ok (.iand, 1) := by decide +kernel
theorem dM_rounds_24 : decode cM_rounds 24 = .ok (.goto 7, 3) := by decide +kernel
theorem dM_rounds_27 : decode cM_rounds 27 = .ok (.iload_n 1, 1) := by decide +kernel
theorem dM_rounds_28 : decode cM_rounds 28 = .ok (.bipush 16, 2) := by decide +kernel
theorem dM_rounds_30 : decode cM_rounds 30 = .ok (.iushr, 1) := by decide +kernel
theorem dM_rounds_31 : decode cM_rounds 31 = .ok (.istore 4, 2) := by decide +kernel
theorem dM_rounds_33 : decode cM_rounds 33 = .ok (.iconst 0, 1) := by decide +kernel
theorem dM_rounds_34 : decode cM_rounds 34 = .ok (.istore 5, 2) := by decide +kernel
theorem dM_rounds_36 : decode cM_rounds 36 = .ok (.iload 5, 2) := by decide +kernel
theorem dM_rounds_38 : decode cM_rounds 38 = .ok (.iconst 4, 1) := by decide +kernel
theorem dM_rounds_39 : decode cM_rounds 39 = .ok (.if_icmp .ge 39, 3) := by decide +kernel
theorem dM_rounds_42 : decode cM_rounds 42 = .ok (.iload_n 3, 1) := by decide +kernel
theorem dM_rounds_43 : decode cM_rounds 43 = .ok (.iload_n 0, 1) := by decide +kernel
theorem dM_rounds_44 : decode cM_rounds 44 = .ok (.iload_n 2, 1) := by decide +kernel
theorem dM_rounds_45 : decode cM_rounds 45 = .ok (.ifCond .eq 8, 3) := by decide +kernel
theorem dM_rounds_48 : decode cM_rounds 48 = .ok (.iload 5, 2) := by decide +kernel
theorem dM_rounds_50 : decode cM_rounds 50 = .ok (.goto 7, 3) := by decide +kernel
theorem dM_rounds_53 : decode cM_rounds 53 = .ok (.iconst 3, 1) := by decide +kernel
theorem dM_rounds_54 : decode cM_rounds 54 = .ok (.iload 5, 2) := by decide +kernel
theorem dM_rounds_56 : decode cM_rounds 56 = .ok (.isub, 1) := by decide +kernel
theorem dM_rounds_57 : decode cM_rounds 57 = .ok (.iload 4, 2) := by decide +kernel
theorem dM_rounds_59 : decode cM_rounds 59 = .ok (.invokestatic 34, 3) := by decide +kernel
theorem dM_rounds_62 : decode cM_rounds 62 = .ok (.ixor, 1) := by decide +kernel
theorem dM_rounds_63 : decode cM_rounds 63 = .ok (.istore 6, 2) := by decide +kernel
theorem dM_rounds_65 : decode cM_rounds 65 = .ok (.iload 4, 2) := by decide +kernel
theorem dM_rounds_67 : decode cM_rounds 67 = .ok (.istore_n 3, 1) := by decide +kernel
theorem dM_rounds_68 : decode cM_rounds 68 = .ok (.iload 6, 2) := by decide +kernel
theorem dM_rounds_70 : decode cM_rounds 70 = .ok (.istore 4, 2) := by decide +kernel
theorem dM_rounds_72 : decode cM_rounds 72 = .ok (.iinc 5 1, 3) := by decide +kernel
theorem dM_rounds_75 : decode cM_rounds 75 = .ok (.goto (-39), 3) := by decide +kernel
theorem dM_rounds_78 : decode cM_rounds 78 = .ok (.iload_n 2, 1) := by decide +kernel
theorem dM_rounds_79 : decode cM_rounds 79 = .ok (.ifCond .eq 13, 3) := by decide +kernel
theorem dM_rounds_82 : decode cM_rounds 82 = .ok (.iload_n 3, 1) := by decide +kernel
theorem dM_rounds_83 : decode cM_rounds 83 = .ok (.ldc 38, 2) := by decide +kernel
theorem dM_rounds_85 : decode cM_rounds 85 = .ok (.imul, 1) := by decide +kernel
theorem dM_rounds_86 : decode cM_rounds 86 = .ok (.iload 4, 2) := by decide +kernel
theorem dM_rounds_88 : decode cM_rounds 88 = .ok (.iadd, 1) := by decide +kernel
theorem dM_rounds_89 : decode cM_rounds 89 = .ok (.goto 10, 3) := by decide +kernel
theorem dM_rounds_92 : decode cM_rounds 92 = .ok (.iload 4, 2) := by decide +kernel
theorem dM_rounds_94 : decode cM_rounds 94 = .ok (.ldc 38, 2) := by decide +kernel
theorem dM_rounds_96 : decode cM_rounds 96 = .ok (.imul, 1) := by decide +kernel
theorem dM_rounds_97 : decode cM_rounds 97 = .ok (.iload_n 3, 1) := by decide +kernel
theorem dM_rounds_98 : decode cM_rounds 98 = .ok (.iadd, 1) := by decide +kernel
theorem dM_rounds_99 : decode cM_rounds 99 = .ok (.ireturn, 1) := by decide +kernel
theorem dM_mac_0 : decode cM_mac 0 = .ok (.iload_n 0, 1) := by decide +kernel
theorem dM_mac_1 : decode cM_mac 1 = .ok (.istore_n 2, 1) := by decide +kernel
theorem dM_mac_2 : decode cM_mac 2 = .ok (.iconst 0, 1) := by decide +kernel
theorem dM_mac_3 : decode cM_mac 3 = .ok (.istore_n 3, 1) := by decide +kernel
theorem dM_mac_4 : decode cM_mac 4 = .ok (.iload_n 3, 1) := by decide +kernel
theorem dM_mac_5 : decode cM_mac 5 = .ok (.bipush 32, 2) := by decide +kernel
theorem dM_mac_7 : decode cM_mac 7 = .ok (.if_icmp .ge 29, 3) := by decide +kernel
theorem dM_mac_10 : decode cM_mac 10 = .ok (.iload_n 2, 1) := by decide +kernel
theorem dM_mac_11 : decode cM_mac 11 = .ok (.iload_n 1, 1) := by decide +kernel
theorem dM_mac_12 : decode cM_mac 12 = .ok (.iload_n 3, 1) := by decide +kernel
theorem dM_mac_13 : decode cM_mac 13 = .ok (.iushr, 1) := by decide +kernel
theorem dM_mac_14 : decode cM_mac 14 = .ok (.sipush 255, 3) := by decide +kernel
theorem dM_mac_17 : decode cM_mac 17 = .ok (.iand, 1) := by decide +kernel
theorem dM_mac_18 : decode cM_mac 18 = .ok (.ixor, 1) := by decide +kernel
theorem dM_mac_19 : decode cM_mac 19 = .ok (.ldc 39, 2) := by decide +kernel
theorem dM_mac_21 : decode cM_mac 21 = .ok (.imul, 1) := by decide +kernel
theorem dM_mac_22 : decode cM_mac 22 = .ok (.istore_n 2, 1) := by decide +kernel
theorem dM_mac_23 : decode cM_mac 23 = .ok (.iload_n 2, 1) := by decide +kernel
theorem dM_mac_24 : decode cM_mac 24 = .ok (.iload_n 2, 1) := by decide +kernel
theorem dM_mac_25 : decode cM_mac 25 = .ok (.bipush 13, 2) := by decide +kernel
theorem dM_mac_27 : decode cM_mac 27 = .ok (.iushr, 1) := by decide +kernel
theorem dM_mac_28 : decode cM_mac 28 = .ok (.ixor, 1) := by decide +kernel
theorem dM_mac_29 : decode cM_mac 29 = .ok (.istore_n 2, 1) := by decide +kernel
theorem dM_mac_30 : decode cM_mac 30 = .ok (.iinc 3 8, 3) := by decide +kernel
theorem dM_mac_33 : decode cM_mac 33 = .ok (.goto (-29), 3) := by decide +kernel
theorem dM_mac_36 : decode cM_mac 36 = .ok (.iload_n 2, 1) := by decide +kernel
theorem dM_mac_37 : decode cM_mac 37 = .ok (.ireturn, 1) := by decide +kernel
theorem dM_answer_0 : decode cM_answer 0 = .ok (.iload_n 0, 1) := by decide +kernel
theorem dM_answer_1 : decode cM_answer 1 = .ok (.ifCond .ge 12, 3) := by decide +kernel
theorem dM_answer_4 : decode cM_answer 4 = .ok (.iload_n 0, 1) := by decide +kernel
theorem dM_answer_5 : decode cM_answer 5 = .ok (.i2l, 1) := by decide +kernel
theorem dM_answer_6 : decode cM_answer 6 = .ok (.ldc2_w 40, 3) := by decide +kernel
theorem dM_answer_9 : decode cM_answer 9 = .ok (.ladd, 1) := by decide +kernel
theorem dM_answer_10 : decode cM_answer 10 = .ok (.goto 5, 3) := by decide +kernel
theorem dM_answer_13 : decode cM_answer 13 = .ok (.iload_n 0, 1) := by decide +kernel
theorem dM_answer_14 : decode cM_answer 14 = .ok (.i2l, 1) := by decide +kernel
theorem dM_answer_15 : decode cM_answer 15 = .ok (.lreturn, 1) := by decide +kernel
theorem dM_closed_0 : decode cM_closed 0 = .ok (.iload_n 1, 1) := by decide +kernel
theorem dM_closed_1 : decode cM_closed 1 = .ok (.ifCond .lt 17, 3) := by decide +kernel
theorem dM_closed_4 : decode cM_closed 4 = .ok (.iload_n 1, 1) := by decide +kernel
theorem dM_closed_5 : decode cM_closed 5 = .ok (.iconst 2, 1) := by decide +kernel
theorem dM_closed_6 : decode cM_closed 6 = .ok (.if_icmp .gt 12, 3) := by decide +kernel
theorem dM_closed_9 : decode cM_closed 9 = .ok (.aload_n 0, 1) := by decide +kernel
theorem dM_closed_10 : decode cM_closed 10 = .ok (.getfield 7, 3) := by decide +kernel
theorem dM_closed_13 : decode cM_closed 13 = .ok (.iload_n 1, 1) := by decide +kernel
theorem dM_closed_14 : decode cM_closed 14 = .ok (.iaload, 1) := by decide +kernel
theorem dM_closed_15 : decode cM_closed 15 = .ok (.ifCond .ne 7, 3) := by decide +kernel
theorem dM_closed_18 : decode cM_closed 18 = .ok (.iconst 1, 1) := by decide +kernel
theorem dM_closed_19 : decode cM_closed 19 = .ok (.goto 4, 3) := by decide +kernel
theorem dM_closed_22 : decode cM_closed 22 = .ok (.iconst 0, 1) := by decide +kernel
theorem dM_closed_23 : decode cM_closed 23 = .ok (.ireturn, 1) := by decide +kernel
theorem dM_visible_0 : decode cM_visible 0 = .ok (.aload_n 0, 1) := by decide +kernel
theorem dM_visible_1 : decode cM_visible 1 = .ok (.getfield 19, 3) := by decide +kernel
theorem dM_visible_4 : decode cM_visible 4 = .ok (.iload_n 1, 1) := by decide +kernel
theorem dM_visible_5 : decode cM_visible 5 = .ok (.baload, 1) := by decide +kernel
theorem dM_visible_6 : decode cM_visible 6 = .ok (.ifCond .eq 28, 3) := by decide +kernel
theorem dM_visible_9 : decode cM_visible 9 = .ok (.aload_n 0, 1) := by decide +kernel
theorem dM_visible_10 : decode cM_visible 10 = .ok (.getfield 29, 3) := by decide +kernel
theorem dM_visible_13 : decode cM_visible 13 = .ok (.iload_n 1, 1) := by decide +kernel
theorem dM_visible_14 : decode cM_visible 14 = .ok (.iaload, 1) := by decide +kernel
theorem dM_visible_15 : decode cM_visible 15 = .ok (.iconst 2, 1) := by decide +kernel
theorem dM_visible_16 : decode cM_visible 16 = .ok (.invokestatic 42, 3) := by decide +kernel
theorem dM_visible_19 : decode cM_visible 19 = .ok (.ifCond .eq 11, 3) := by decide +kernel
theorem dM_visible_22 : decode cM_visible 22 = .ok (.aload_n 0, 1) := by decide +kernel
theorem dM_visible_23 : decode cM_visible 23 = .ok (.getfield 46, 3) := by decide +kernel
theorem dM_visible_26 : decode cM_visible 26 = .ok (.iconst 1, 1) := by decide +kernel
theorem dM_visible_27 : decode cM_visible 27 = .ok (.if_icmp .ne 7, 3) := by decide +kernel
theorem dM_visible_30 : decode cM_visible 30 = .ok (.iconst 1, 1) := by decide +kernel
theorem dM_visible_31 : decode cM_visible 31 = .ok (.goto 4, 3) := by decide +kernel
theorem dM_visible_34 : decode cM_visible 34 = .ok (.iconst 0, 1) := by decide +kernel
theorem dM_visible_35 : decode cM_visible 35 = .ok (.ireturn, 1) := by decide +kernel
theorem dM_hidden_0 : decode cM_hidden 0 = .ok (.iload_n 1, 1) := by decide +kernel
theorem dM_hidden_1 : decode cM_hidden 1 = .ok (.iconst 1, 1) := by decide +kernel
theorem dM_hidden_2 : decode cM_hidden 2 = .ok (.if_icmp .lt 21, 3) := by decide +kernel
theorem dM_hidden_5 : decode cM_hidden 5 = .ok (.iload_n 1, 1) := by decide +kernel
theorem dM_hidden_6 : decode cM_hidden 6 = .ok (.aload_n 0, 1) := by decide +kernel
theorem dM_hidden_7 : decode cM_hidden 7 = .ok (.getfield 50, 3) := by decide +kernel
theorem dM_hidden_10 : decode cM_hidden 10 = .ok (.if_icmp .gt 13, 3) := by decide +kernel
theorem dM_hidden_13 : decode cM_hidden 13 = .ok (.aload_n 0, 1) := by decide +kernel
theorem dM_hidden_14 : decode cM_hidden 14 = .ok (.iload_n 1, 1) := by decide +kernel
theorem dM_hidden_15 : decode cM_hidden 15 = .ok (.iconst 1, 1) := by decide +kernel
theorem dM_hidden_16 : decode cM_hidden 16 = .ok (.isub, 1) := by decide +kernel
theorem dM_hidden_17 : decode cM_hidden 17 = .ok (.invokevirtual 53, 3) := by decide +kernel
theorem dM_hidden_20 : decode cM_hidden 20 = .ok (.ifCond .ne 7, 3) := by decide +kernel
theorem dM_hidden_23 : decode cM_hidden 23 = .ok (.iconst 1, 1) := by decide +kernel
theorem dM_hidden_24 : decode cM_hidden 24 = .ok (.goto 4, 3) := by decide +kernel
theorem dM_hidden_27 : decode cM_hidden 27 = .ok (.iconst 0, 1) := by decide +kernel
theorem dM_hidden_28 : decode cM_hidden 28 = .ok (.ireturn, 1) := by decide +kernel
theorem dM_readOnly_0 : decode cM_readOnly 0 = .ok (.aload_n 0, 1) := by decide +kernel
theorem dM_readOnly_1 : decode cM_readOnly 1 = .ok (.getfield 7, 3) := by decide +kernel
theorem dM_readOnly_4 : decode cM_readOnly 4 = .ok (.iload_n 1, 1) := by decide +kernel
theorem dM_readOnly_5 : decode cM_readOnly 5 = .ok (.iaload, 1) := by decide +kernel
theorem dM_readOnly_6 : decode cM_readOnly 6 = .ok (.iconst 1, 1) := by decide +kernel
theorem dM_readOnly_7 : decode cM_readOnly 7 = .ok (.if_icmp .ne 15, 3) := by decide +kernel
theorem dM_readOnly_10 : decode cM_readOnly 10 = .ok (.iload_n 2, 1) := by decide +kernel
theorem dM_readOnly_11 : decode cM_readOnly 11 = .ok (.iconst 1, 1) := by decide +kernel
theorem dM_readOnly_12 : decode cM_readOnly 12 = .ok (.invokestatic 42, 3) := by decide +kernel
theorem dM_readOnly_15 : decode cM_readOnly 15 = .ok (.ifCond .eq 7, 3) := by decide +kernel
theorem dM_readOnly_18 : decode cM_readOnly 18 = .ok (.iconst 1, 1) := by decide +kernel
theorem dM_readOnly_19 : decode cM_readOnly 19 = .ok (.goto 4, 3) := by decide +kernel
theorem dM_readOnly_22 : decode cM_readOnly 22 = .ok (.iconst 0, 1) := by decide +kernel
theorem dM_readOnly_23 : decode cM_readOnly 23 = .ok (.ireturn, 1) := by decide +kernel
theorem dM_count_0 : decode cM_count 0 = .ok (.iconst 0, 1) := by decide +kernel
theorem dM_count_1 : decode cM_count 1 = .ok (.istore_n 1, 1) := by decide +kernel
theorem dM_count_2 : decode cM_count 2 = .ok (.iconst 0, 1) := by decide +kernel
theorem dM_count_3 : decode cM_count 3 = .ok (.istore_n 2, 1) := by decide +kernel
theorem dM_count_4 : decode cM_count 4 = .ok (.iload_n 2, 1) := by decide +kernel
theorem dM_count_5 : decode cM_count 5 = .ok (.aload_n 0, 1) := by decide +kernel
theorem dM_count_6 : decode cM_count 6 = .ok (.getfield 50, 3) := by decide +kernel
theorem dM_count_9 : decode cM_count 9 = .ok (.if_icmp .ge 26, 3) := by decide +kernel
theorem dM_count_12 : decode cM_count 12 = .ok (.aload_n 0, 1) := by decide +kernel
theorem dM_count_13 : decode cM_count 13 = .ok (.getfield 19, 3) := by decide +kernel
theorem dM_count_16 : decode cM_count 16 = .ok (.iload_n 2, 1) := by decide +kernel
theorem dM_count_17 : decode cM_count 17 = .ok (.baload, 1) := by decide +kernel
theorem dM_count_18 : decode cM_count 18 = .ok (.ifCond .eq 9, 3) := by decide +kernel
theorem dM_count_21 : decode cM_count 21 = .ok (.iload_n 1, 1) := by decide +kernel
theorem dM_count_22 : decode cM_count 22 = .ok (.iconst 1, 1) := by decide +kernel
theorem dM_count_23 : decode cM_count 23 = .ok (.iadd, 1) := by decide +kernel
theorem dM_count_24 : decode cM_count 24 = .ok (.goto 4, 3) := by decide +kernel
theorem dM_count_27 : decode cM_count 27 = .ok (.iload_n 1, 1) := by decide +kernel
theorem dM_count_28 : decode cM_count 28 = .ok (.istore_n 1, 1) := by decide +kernel
theorem dM_count_29 : decode cM_count 29 = .ok (.iinc 2 1, 3) := by decide +kernel
theorem dM_count_32 : decode cM_count 32 = .ok (.goto (-28), 3) := by decide +kernel
theorem dM_count_35 : decode cM_count 35 = .ok (.iload_n 1, 1) := by decide +kernel
theorem dM_count_36 : decode cM_count 36 = .ok (.ireturn, 1) := by decide +kernel
theorem dM_good_0 : decode cM_good 0 = .ok (.iload_n 0, 1) := by decide +kernel
theorem dM_good_1 : decode cM_good 1 = .ok (.ifCond .lt 52, 3) := by decide +kernel
theorem dM_good_4 : decode cM_good 4 = .ok (.iload_n 0, 1) := by decide +kernel
theorem dM_good_5 : decode cM_good 5 = .ok (.sipush 511, 3) := by decide +kernel
theorem dM_good_8 : decode cM_good 8 = .ok (.if_icmp .gt 45, 3) := by decide +kernel
theorem dM_good_11 : decode cM_good 11 = .ok (.iload_n 0, 1) := by decide +kernel
theorem dM_good_12 : decode cM_good 12 = .ok (.sipush 128, 3) := by decide +kernel
theorem dM_good_15 : decode cM_good 15 = .ok (.invokestatic 42, 3) := by decide +kernel
theorem dM_good_18 : decode cM_good 18 = .ok (.ifCond .eq 12, 3) := by decide +kernel
theorem dM_good_21 : decode cM_good 21 = .ok (.iload_n 0, 1) := by decide +kernel
theorem dM_good_22 : decode cM_good 22 = .ok (.bipush 32, 2) := by decide +kernel
theorem dM_good_24 : decode cM_good 24 = .ok (.invokestatic 42, 3) := by decide +kernel
theorem dM_good_27 : decode cM_good 27 = .ok (.ifCond .ne 26, 3) := by decide +kernel
theorem dM_good_30 : decode cM_good 30 = .ok (.iload_n 0, 1) := by decide +kernel
theorem dM_good_31 : decode cM_good 31 = .ok (.sipush 256, 3) := by decide +kernel
theorem dM_good_34 : decode cM_good 34 = .ok (.invokestatic 42, 3) := by decide +kernel
theorem dM_good_37 : decode cM_good 37 = .ok (.ifCond .eq 12, 3) := by decide +kernel
theorem dM_good_40 : decode cM_good 40 = .ok (.iload_n 0, 1) := by decide +kernel
theorem dM_good_41 : decode cM_good 41 = .ok (.bipush 16, 2) := by decide +kernel
theorem dM_good_43 : decode cM_good 43 = .ok (.invokestatic 42, 3) := by decide +kernel
theorem dM_good_46 : decode cM_good 46 = .ok (.ifCond .ne 7, 3) := by decide +kernel
theorem dM_good_49 : decode cM_good 49 = .ok (.iconst 1, 1) := by decide +kernel
theorem dM_good_50 : decode cM_good 50 = .ok (.goto 4, 3) := by decide +kernel
theorem dM_good_53 : decode cM_good 53 = .ok (.iconst 0, 1) := by decide +kernel
theorem dM_good_54 : decode cM_good 54 = .ok (.ireturn, 1) := by decide +kernel
theorem dM_obstacle_0 : decode cM_obstacle 0 = .ok (.iload_n 2, 1) := by decide +kernel
theorem dM_obstacle_1 : decode cM_obstacle 1 = .ok (.iconst 2, 1) := by decide +kernel
theorem dM_obstacle_2 : decode cM_obstacle 2 = .ok (.invokestatic 42, 3) := by decide +kernel
theorem dM_obstacle_5 : decode cM_obstacle 5 = .ok (.ifCond .eq 14, 3) := by decide +kernel
theorem dM_obstacle_8 : decode cM_obstacle 8 = .ok (.aload_n 0, 1) := by decide +kernel
theorem dM_obstacle_9 : decode cM_obstacle 9 = .ok (.getfield 46, 3) := by decide +kernel
theorem dM_obstacle_12 : decode cM_obstacle 12 = .ok (.iconst 1, 1) := by decide +kernel
theorem dM_obstacle_13 : decode cM_obstacle 13 = .ok (.if_icmp .eq 6, 3) := by decide +kernel
theorem dM_obstacle_16 : decode cM_obstacle 16 = .ok (.bipush (-3), 2) := by decide +kernel
theorem dM_obstacle_18 : decode cM_obstacle 18 = .ok (.ireturn, 1) := by decide +kernel
theorem dM_obstacle_19 : decode cM_obstacle 19 = .ok (.aload_n 0, 1) := by decide +kernel
theorem dM_obstacle_20 : decode cM_obstacle 20 = .ok (.iload_n 1, 1) := by decide +kernel
theorem dM_obstacle_21 : decode cM_obstacle 21 = .ok (.iload_n 2, 1) := by decide +kernel
theorem dM_obstacle_22 : decode cM_obstacle 22 = .ok (.invokevirtual 57, 3) := by decide +kernel
theorem dM_obstacle_25 : decode cM_obstacle 25 = .ok (.ifCond .eq 6, 3) := by decide +kernel
theorem dM_obstacle_28 : decode cM_obstacle 28 = .ok (.bipush (-4), 2) := by decide +kernel
theorem dM_obstacle_30 : decode cM_obstacle 30 = .ok (.ireturn, 1) := by decide +kernel
theorem dM_obstacle_31 : decode cM_obstacle 31 = .ok (.iload_n 2, 1) := by decide +kernel
theorem dM_obstacle_32 : decode cM_obstacle 32 = .ok (.invokestatic 60, 3) := by decide +kernel
theorem dM_obstacle_35 : decode cM_obstacle 35 = .ok (.ifCond .eq 7, 3) := by decide +kernel
theorem dM_obstacle_38 : decode cM_obstacle 38 = .ok (.iload_n 3, 1) := by decide +kernel
theorem dM_obstacle_39 : decode cM_obstacle 39 = .ok (.ifCond .eq 6, 3) := by decide +kernel
theorem dM_obstacle_42 : decode cM_obstacle 42 = .ok (.bipush (-5), 2) := by decide +kernel
theorem dM_obstacle_44 : decode cM_obstacle 44 = .ok (.ireturn, 1) := by decide +kernel
theorem dM_obstacle_45 : decode cM_obstacle 45 = .ok (.aload_n 0, 1) := by decide +kernel
theorem dM_obstacle_46 : decode cM_obstacle 46 = .ok (.invokevirtual 63, 3) := by decide +kernel
theorem dM_obstacle_49 : decode cM_obstacle 49 = .ok (.bipush 10, 2) := by decide +kernel
theorem dM_obstacle_51 : decode cM_obstacle 51 = .ok (.if_icmp .lt 8, 3) := by decide +kernel
theorem dM_obstacle_54 : decode cM_obstacle 54 = .ok (.bipush (-6), 2) := by decide +kernel
theorem dM_obstacle_56 : decode cM_obstacle 56 = .ok (.goto 4, 3) := by decide +kernel
theorem dM_obstacle_59 : decode cM_obstacle 59 = .ok (.iconst 0, 1) := by decide +kernel
theorem dM_obstacle_60 : decode cM_obstacle 60 = .ok (.ireturn, 1) := by decide +kernel
theorem dM_enter_0 : decode cM_enter 0 = .ok (.aload_n 0, 1) := by decide +kernel
theorem dM_enter_1 : decode cM_enter 1 = .ok (.getfield 19, 3) := by decide +kernel
theorem dM_enter_4 : decode cM_enter 4 = .ok (.aload_n 0, 1) := by decide +kernel
theorem dM_enter_5 : decode cM_enter 5 = .ok (.getfield 50, 3) := by decide +kernel
theorem dM_enter_8 : decode cM_enter 8 = .ok (.iconst 1, 1) := by decide +kernel
theorem dM_enter_9 : decode cM_enter 9 = .ok (.bastore, 1) := by decide +kernel
theorem dM_enter_10 : decode cM_enter 10 = .ok (.aload_n 0, 1) := by decide +kernel
theorem dM_enter_11 : decode cM_enter 11 = .ok (.getfield 23, 3) := by decide +kernel
theorem dM_enter_14 : decode cM_enter 14 = .ok (.aload_n 0, 1) := by decide +kernel
theorem dM_enter_15 : decode cM_enter 15 = .ok (.getfield 50, 3) := by decide +kernel
theorem dM_enter_18 : decode cM_enter 18 = .ok (.iload_n 3, 1) := by decide +kernel
theorem dM_enter_19 : decode cM_enter 19 = .ok (.iastore, 1) := by decide +kernel
theorem dM_enter_20 : decode cM_enter 20 = .ok (.aload_n 0, 1) := by decide +kernel
theorem dM_enter_21 : decode cM_enter 21 = .ok (.getfield 26, 3) := by decide +kernel
theorem dM_enter_24 : decode cM_enter 24 = .ok (.aload_n 0, 1) := by decide +kernel
theorem dM_enter_25 : decode cM_enter 25 = .ok (.getfield 50, 3) := by decide +kernel
theorem dM_enter_28 : decode cM_enter 28 = .ok (.iload_n 1, 1) := by decide +kernel
theorem dM_enter_29 : decode cM_enter 29 = .ok (.iastore, 1) := by decide +kernel
theorem dM_enter_30 : decode cM_enter 30 = .ok (.aload_n 0, 1) := by decide +kernel
theorem dM_enter_31 : decode cM_enter 31 = .ok (.getfield 29, 3) := by decide +kernel
theorem dM_enter_34 : decode cM_enter 34 = .ok (.aload_n 0, 1) := by decide +kernel
theorem dM_enter_35 : decode cM_enter 35 = .ok (.getfield 50, 3) := by decide +kernel
theorem dM_enter_38 : decode cM_enter 38 = .ok (.iload_n 2, 1) := by decide +kernel
theorem dM_enter_39 : decode cM_enter 39 = .ok (.iastore, 1) := by decide +kernel
theorem dM_enter_40 : decode cM_enter 40 = .ok (.aload_n 0, 1) := by decide +kernel
theorem dM_enter_41 : decode cM_enter 41 = .ok (.dup, 1) := by decide +kernel
theorem dM_enter_42 : decode cM_enter 42 = .ok (.getfield 50, 3) := by decide +kernel
theorem dM_enter_45 : decode cM_enter 45 = .ok (.iconst 1, 1) := by decide +kernel
theorem dM_enter_46 : decode cM_enter 46 = .ok (.iadd, 1) := by decide +kernel
theorem dM_enter_47 : decode cM_enter 47 = .ok (.putfield 50, 3) := by decide +kernel
theorem dM_enter_50 : decode cM_enter 50 = .ok (.aload_n 0, 1) := by decide +kernel
theorem dM_enter_51 : decode cM_enter 51 = .ok (.getfield 50, 3) := by decide +kernel
theorem dM_enter_54 : decode cM_enter 54 = .ok (.ireturn, 1) := by decide +kernel
theorem dM_open_0 : decode cM_open 0 = .ok (.iload_n 1, 1) := by decide +kernel
theorem dM_open_1 : decode cM_open 1 = .ok (.ifCond .ne 14, 3) := by decide +kernel
theorem dM_open_4 : decode cM_open 4 = .ok (.aload_n 0, 1) := by decide +kernel
theorem dM_open_5 : decode cM_open 5 = .ok (.getfield 46, 3) := by decide +kernel
theorem dM_open_8 : decode cM_open 8 = .ok (.iconst 2, 1) := by decide +kernel
theorem dM_open_9 : decode cM_open 9 = .ok (.if_icmp .ne 6, 3) := by decide +kernel
theorem dM_open_12 : decode cM_open 12 = .ok (.bipush (-3), 2) := by decide +kernel
theorem dM_open_14 : decode cM_open 14 = .ok (.ireturn, 1) := by decide +kernel
theorem dM_open_15 : decode cM_open 15 = .ok (.iconst 0, 1) := by decide +kernel
theorem dM_open_16 : decode cM_open 16 = .ok (.istore_n 2, 1) := by decide +kernel
theorem dM_open_17 : decode cM_open 17 = .ok (.iload_n 2, 1) := by decide +kernel
theorem dM_open_18 : decode cM_open 18 = .ok (.iconst 3, 1) := by decide +kernel
theorem dM_open_19 : decode cM_open 19 = .ok (.if_icmp .ge 35, 3) := by decide +kernel
theorem dM_open_22 : decode cM_open 22 = .ok (.aload_n 0, 1) := by decide +kernel
theorem dM_open_23 : decode cM_open 23 = .ok (.getfield 7, 3) := by decide +kernel
theorem dM_open_26 : decode cM_open 26 = .ok (.iload_n 2, 1) := by decide +kernel
theorem dM_open_27 : decode cM_open 27 = .ok (.iaload, 1) := by decide +kernel
theorem dM_open_28 : decode cM_open 28 = .ok (.ifCond .ne 20, 3) := by decide +kernel
theorem dM_open_31 : decode cM_open 31 = .ok (.aload_n 0, 1) := by decide +kernel
theorem dM_open_32 : decode cM_open 32 = .ok (.getfield 7, 3) := by decide +kernel
theorem dM_open_35 : decode cM_open 35 = .ok (.iload_n 2, 1) := by decide +kernel
theorem dM_open_36 : decode cM_open 36 = .ok (.iload_n 1, 1) := by decide +kernel
theorem dM_open_37 : decode cM_open 37 = .ok (.ifCond .eq 7, 3) := by decide +kernel
theorem dM_open_40 : decode cM_open 40 = .ok (.iconst 2, 1) := by decide +kernel
theorem dM_open_41 : decode cM_open 41 = .ok (.goto 4, 3) := by decide +kernel
theorem dM_open_44 : decode cM_open 44 = .ok (.iconst 1, 1) := by decide +kernel
theorem dM_open_45 : decode cM_open 45 = .ok (.iastore, 1) := by decide +kernel
theorem dM_open_46 : decode cM_open 46 = .ok (.iload_n 2, 1) := by decide +kernel
theorem dM_open_47 : decode cM_open 47 = .ok (.ireturn, 1) := by decide +kernel
theorem dM_open_48 : decode cM_open 48 = .ok (.iinc 2 1, 3) := by decide +kernel
theorem dM_open_51 : decode cM_open 51 = .ok (.goto (-34), 3) := by decide +kernel
theorem dM_open_54 : decode cM_open 54 = .ok (.bipush (-6), 2) := by decide +kernel
theorem dM_open_56 : decode cM_open 56 = .ok (.ireturn, 1) := by decide +kernel
theorem dM_close_0 : decode cM_close 0 = .ok (.aload_n 0, 1) := by decide +kernel
theorem dM_close_1 : decode cM_close 1 = .ok (.iload_n 1, 1) := by decide +kernel
theorem dM_close_2 : decode cM_close 2 = .ok (.invokevirtual 67, 3) := by decide +kernel
theorem dM_close_5 : decode cM_close 5 = .ok (.ifCond .eq 5, 3) := by decide +kernel
theorem dM_close_8 : decode cM_close 8 = .ok (.iconst (-1), 1) := by decide +kernel
theorem dM_close_9 : decode cM_close 9 = .ok (.ireturn, 1) := by decide +kernel
theorem dM_close_10 : decode cM_close 10 = .ok (.aload_n 0, 1) := by decide +kernel
theorem dM_close_11 : decode cM_close 11 = .ok (.getfield 7, 3) := by decide +kernel
theorem dM_close_14 : decode cM_close 14 = .ok (.iload_n 1, 1) := by decide +kernel
theorem dM_close_15 : decode cM_close 15 = .ok (.iconst 0, 1) := by decide +kernel
theorem dM_close_16 : decode cM_close 16 = .ok (.iastore, 1) := by decide +kernel
end
section
theorem dM_close_17 : decode cM_close 17 = .ok (.iconst 0, 1) := by decide +kernel
theorem dM_close_18 : decode cM_close 18 = .ok (.istore_n 2, 1) := by decide +kernel
theorem dM_close_19 : decode cM_close 19 = .ok (.iload_n 2, 1) := by decide +kernel
theorem dM_close_20 : decode cM_close 20 = .ok (.aload_n 0, 1) := by decide +kernel
theorem dM_close_21 : decode cM_close 21 = .ok (.getfield 50, 3) := by decide +kernel
theorem dM_close_24 : decode cM_close 24 = .ok (.if_icmp .ge 52, 3) := by decide +kernel
theorem dM_close_27 : decode cM_close 27 = .ok (.aload_n 0, 1) := by decide +kernel
theorem dM_close_28 : decode cM_close 28 = .ok (.getfield 19, 3) := by decide +kernel
theorem dM_close_31 : decode cM_close 31 = .ok (.iload_n 2, 1) := by decide +kernel
theorem dM_close_32 : decode cM_close 32 = .ok (.aload_n 0, 1) := by decide +kernel
theorem dM_close_33 : decode cM_close 33 = .ok (.getfield 19, 3) := by decide +kernel
theorem dM_close_36 : decode cM_close 36 = .ok (.iload_n 2, 1) := by decide +kernel
theorem dM_close_37 : decode cM_close 37 = .ok (.baload, 1) := by decide +kernel
theorem dM_close_38 : decode cM_close 38 = .ok (.ifCond .eq 30, 3) := by decide +kernel
theorem dM_close_41 : decode cM_close 41 = .ok (.aload_n 0, 1) := by decide +kernel
theorem dM_close_42 : decode cM_close 42 = .ok (.getfield 29, 3) := by decide +kernel
theorem dM_close_45 : decode cM_close 45 = .ok (.iload_n 2, 1) := by decide +kernel
theorem dM_close_46 : decode cM_close 46 = .ok (.iaload, 1) := by decide +kernel
theorem dM_close_47 : decode cM_close 47 = .ok (.iconst 1, 1) := by decide +kernel
theorem dM_close_48 : decode cM_close 48 = .ok (.invokestatic 42, 3) := by decide +kernel
theorem dM_close_51 : decode cM_close 51 = .ok (.ifCond .ne 13, 3) := by decide +kernel
theorem dM_close_54 : decode cM_close 54 = .ok (.aload_n 0, 1) := by decide +kernel
theorem dM_close_55 : decode cM_close 55 = .ok (.getfield 26, 3) := by decide +kernel
theorem dM_close_58 : decode cM_close 58 = .ok (.iload_n 2, 1) := by decide +kernel
theorem dM_close_59 : decode cM_close 59 = .ok (.iaload, 1) := by decide +kernel
theorem dM_close_60 : decode cM_close 60 = .ok (.iload_n 1, 1) := by decide +kernel
theorem dM_close_61 : decode cM_close 61 = .ok (.if_icmp .eq 7, 3) := by decide +kernel
theorem dM_close_64 : decode cM_close 64 = .ok (.iconst 1, 1) := by decide +kernel
theorem dM_close_65 : decode cM_close 65 = .ok (.goto 4, 3) := by decide +kernel
theorem dM_close_68 : decode cM_close 68 = .ok (.iconst 0, 1) := by decide +kernel
theorem dM_close_69 : decode cM_close 69 = .ok (.bastore, 1) := by decide +kernel
theorem dM_close_70 : decode cM_close 70 = .ok (.iinc 2 1, 3) := by decide +kernel
theorem dM_close_73 : decode cM_close 73 = .ok (.goto (-54), 3) := by decide +kernel
theorem dM_close_76 : decode cM_close 76 = .ok (.aload_n 0, 1) := by decide +kernel
theorem dM_close_77 : decode cM_close 77 = .ok (.aload_n 0, 1) := by decide +kernel
theorem dM_close_78 : decode cM_close 78 = .ok (.getfield 7, 3) := by decide +kernel
theorem dM_close_81 : decode cM_close 81 = .ok (.iconst 0, 1) := by decide +kernel
theorem dM_close_82 : decode cM_close 82 = .ok (.iaload, 1) := by decide +kernel
theorem dM_close_83 : decode cM_close 83 = .ok (.aload_n 0, 1) := by decide +kernel
theorem dM_close_84 : decode cM_close 84 = .ok (.getfield 7, 3) := by decide +kernel
theorem dM_close_87 : decode cM_close 87 = .ok (.iconst 1, 1) := by decide +kernel
theorem dM_close_88 : decode cM_close 88 = .ok (.iaload, 1) := by decide +kernel
theorem dM_close_89 : decode cM_close 89 = .ok (.iadd, 1) := by decide +kernel
theorem dM_close_90 : decode cM_close 90 = .ok (.aload_n 0, 1) := by decide +kernel
theorem dM_close_91 : decode cM_close 91 = .ok (.getfield 7, 3) := by decide +kernel
theorem dM_close_94 : decode cM_close 94 = .ok (.iconst 2, 1) := by decide +kernel
theorem dM_close_95 : decode cM_close 95 = .ok (.iaload, 1) := by decide +kernel
theorem dM_close_96 : decode cM_close 96 = .ok (.iadd, 1) := by decide +kernel
theorem dM_close_97 : decode cM_close 97 = .ok (.ifCond .ne 7, 3) := by decide +kernel
theorem dM_close_100 : decode cM_close 100 = .ok (.iconst 0, 1) := by decide +kernel
theorem dM_close_101 : decode cM_close 101 = .ok (.goto 7, 3) := by decide +kernel
theorem dM_close_104 : decode cM_close 104 = .ok (.aload_n 0, 1) := by decide +kernel
theorem dM_close_105 : decode cM_close 105 = .ok (.getfield 46, 3) := by decide +kernel
theorem dM_close_108 : decode cM_close 108 = .ok (.putfield 46, 3) := by decide +kernel
theorem dM_close_111 : decode cM_close 111 = .ok (.iconst 0, 1) := by decide +kernel
theorem dM_close_112 : decode cM_close 112 = .ok (.ireturn, 1) := by decide +kernel
theorem dM_login_0 : decode cM_login 0 = .ok (.iload_n 2, 1) := by decide +kernel
theorem dM_login_1 : decode cM_login 1 = .ok (.ifCond .eq 7, 3) := by decide +kernel
theorem dM_login_4 : decode cM_login 4 = .ok (.iconst 2, 1) := by decide +kernel
theorem dM_login_5 : decode cM_login 5 = .ok (.goto 4, 3) := by decide +kernel
theorem dM_login_8 : decode cM_login 8 = .ok (.iconst 1, 1) := by decide +kernel
theorem dM_login_9 : decode cM_login 9 = .ok (.istore 4, 2) := by decide +kernel
theorem dM_login_11 : decode cM_login 11 = .ok (.aload_n 0, 1) := by decide +kernel
theorem dM_login_12 : decode cM_login 12 = .ok (.iload_n 1, 1) := by decide +kernel
theorem dM_login_13 : decode cM_login 13 = .ok (.invokevirtual 67, 3) := by decide +kernel
theorem dM_login_16 : decode cM_login 16 = .ok (.ifCond .eq 5, 3) := by decide +kernel
theorem dM_login_19 : decode cM_login 19 = .ok (.iconst (-1), 1) := by decide +kernel
theorem dM_login_20 : decode cM_login 20 = .ok (.ireturn, 1) := by decide +kernel
theorem dM_login_21 : decode cM_login 21 = .ok (.aload_n 0, 1) := by decide +kernel
theorem dM_login_22 : decode cM_login 22 = .ok (.getfield 46, 3) := by decide +kernel
theorem dM_login_25 : decode cM_login 25 = .ok (.ifCond .le 6, 3) := by decide +kernel
theorem dM_login_28 : decode cM_login 28 = .ok (.bipush (-3), 2) := by decide +kernel
theorem dM_login_30 : decode cM_login 30 = .ok (.ireturn, 1) := by decide +kernel
theorem dM_login_31 : decode cM_login 31 = .ok (.iload_n 2, 1) := by decide +kernel
theorem dM_login_32 : decode cM_login 32 = .ok (.ifCond .eq 36, 3) := by decide +kernel
theorem dM_login_35 : decode cM_login 35 = .ok (.aload_n 0, 1) := by decide +kernel
theorem dM_login_36 : decode cM_login 36 = .ok (.getfield 7, 3) := by decide +kernel
theorem dM_login_39 : decode cM_login 39 = .ok (.iconst 0, 1) := by decide +kernel
theorem dM_login_40 : decode cM_login 40 = .ok (.iaload, 1) := by decide +kernel
theorem dM_login_41 : decode cM_login 41 = .ok (.iconst 1, 1) := by decide +kernel
theorem dM_login_42 : decode cM_login 42 = .ok (.if_icmp .eq 23, 3) := by decide +kernel
theorem dM_login_45 : decode cM_login 45 = .ok (.aload_n 0, 1) := by decide +kernel
theorem dM_login_46 : decode cM_login 46 = .ok (.getfield 7, 3) := by decide +kernel
theorem dM_login_49 : decode cM_login 49 = .ok (.iconst 1, 1) := by decide +kernel
theorem dM_login_50 : decode cM_login 50 = .ok (.iaload, 1) := by decide +kernel
theorem dM_login_51 : decode cM_login 51 = .ok (.iconst 1, 1) := by decide +kernel
theorem dM_login_52 : decode cM_login 52 = .ok (.if_icmp .eq 13, 3) := by decide +kernel
theorem dM_login_55 : decode cM_login 55 = .ok (.aload_n 0, 1) := by decide +kernel
theorem dM_login_56 : decode cM_login 56 = .ok (.getfield 7, 3) := by decide +kernel
theorem dM_login_59 : decode cM_login 59 = .ok (.iconst 2, 1) := by decide +kernel
theorem dM_login_60 : decode cM_login 60 = .ok (.iaload, 1) := by decide +kernel
theorem dM_login_61 : decode cM_login 61 = .ok (.iconst 1, 1) := by decide +kernel
theorem dM_login_62 : decode cM_login 62 = .ok (.if_icmp .ne 6, 3) := by decide +kernel
theorem dM_login_65 : decode cM_login 65 = .ok (.bipush (-4), 2) := by decide +kernel
theorem dM_login_67 : decode cM_login 67 = .ok (.ireturn, 1) := by decide +kernel
theorem dM_login_68 : decode cM_login 68 = .ok (.aload_n 0, 1) := by decide +kernel
theorem dM_login_69 : decode cM_login 69 = .ok (.getfield 16, 3) := by decide +kernel
theorem dM_login_72 : decode cM_login 72 = .ok (.iload 4, 2) := by decide +kernel
theorem dM_login_74 : decode cM_login 74 = .ok (.iaload, 1) := by decide +kernel
theorem dM_login_75 : decode cM_login 75 = .ok (.iconst 3, 1) := by decide +kernel
theorem dM_login_76 : decode cM_login 76 = .ok (.if_icmp .lt 6, 3) := by decide +kernel
theorem dM_login_79 : decode cM_login 79 = .ok (.bipush (-8), 2) := by decide +kernel
theorem dM_login_81 : decode cM_login 81 = .ok (.ireturn, 1) := by decide +kernel
theorem dM_login_82 : decode cM_login 82 = .ok (.aload_n 0, 1) := by decide +kernel
theorem dM_login_83 : decode cM_login 83 = .ok (.getfield 13, 3) := by decide +kernel
theorem dM_login_86 : decode cM_login 86 = .ok (.iload 4, 2) := by decide +kernel
theorem dM_login_88 : decode cM_login 88 = .ok (.iaload, 1) := by decide +kernel
theorem dM_login_89 : decode cM_login 89 = .ok (.iload_n 3, 1) := by decide +kernel
theorem dM_login_90 : decode cM_login 90 = .ok (.if_icmp .eq 22, 3) := by decide +kernel
theorem dM_login_93 : decode cM_login 93 = .ok (.aload_n 0, 1) := by decide +kernel
theorem dM_login_94 : decode cM_login 94 = .ok (.getfield 16, 3) := by decide +kernel
theorem dM_login_97 : decode cM_login 97 = .ok (.iload 4, 2) := by decide +kernel
theorem dM_login_99 : decode cM_login 99 = .ok (.aload_n 0, 1) := by decide +kernel
theorem dM_login_100 : decode cM_login 100 = .ok (.getfield 16, 3) := by decide +kernel
theorem dM_login_103 : decode cM_login 103 = .ok (.iload 4, 2) := by decide +kernel
theorem dM_login_105 : decode cM_login 105 = .ok (.iaload, 1) := by decide +kernel
theorem dM_login_106 : decode cM_login 106 = .ok (.iconst 1, 1) := by decide +kernel
theorem dM_login_107 : decode cM_login 107 = .ok (.iadd, 1) := by decide +kernel
theorem dM_login_108 : decode cM_login 108 = .ok (.iastore, 1) := by decide +kernel
theorem dM_login_109 : decode cM_login 109 = .ok (.bipush (-9), 2) := by decide +kernel
theorem dM_login_111 : decode cM_login 111 = .ok (.ireturn, 1) := by decide +kernel
theorem dM_login_112 : decode cM_login 112 = .ok (.aload_n 0, 1) := by decide +kernel
theorem dM_login_113 : decode cM_login 113 = .ok (.getfield 16, 3) := by decide +kernel
theorem dM_login_116 : decode cM_login 116 = .ok (.iload 4, 2) := by decide +kernel
theorem dM_login_118 : decode cM_login 118 = .ok (.iconst 0, 1) := by decide +kernel
theorem dM_login_119 : decode cM_login 119 = .ok (.iastore, 1) := by decide +kernel
theorem dM_login_120 : decode cM_login 120 = .ok (.aload_n 0, 1) := by decide +kernel
theorem dM_login_121 : decode cM_login 121 = .ok (.iload 4, 2) := by decide +kernel
theorem dM_login_123 : decode cM_login 123 = .ok (.putfield 46, 3) := by decide +kernel
theorem dM_login_126 : decode cM_login 126 = .ok (.iconst 0, 1) := by decide +kernel
theorem dM_login_127 : decode cM_login 127 = .ok (.ireturn, 1) := by decide +kernel
theorem dM_logout_0 : decode cM_logout 0 = .ok (.aload_n 0, 1) := by decide +kernel
theorem dM_logout_1 : decode cM_logout 1 = .ok (.iload_n 1, 1) := by decide +kernel
theorem dM_logout_2 : decode cM_logout 2 = .ok (.invokevirtual 67, 3) := by decide +kernel
theorem dM_logout_5 : decode cM_logout 5 = .ok (.ifCond .eq 5, 3) := by decide +kernel
theorem dM_logout_8 : decode cM_logout 8 = .ok (.iconst (-1), 1) := by decide +kernel
theorem dM_logout_9 : decode cM_logout 9 = .ok (.ireturn, 1) := by decide +kernel
theorem dM_logout_10 : decode cM_logout 10 = .ok (.aload_n 0, 1) := by decide +kernel
theorem dM_logout_11 : decode cM_logout 11 = .ok (.getfield 46, 3) := by decide +kernel
theorem dM_logout_14 : decode cM_logout 14 = .ok (.ifCond .ne 6, 3) := by decide +kernel
theorem dM_logout_17 : decode cM_logout 17 = .ok (.bipush (-3), 2) := by decide +kernel
theorem dM_logout_19 : decode cM_logout 19 = .ok (.ireturn, 1) := by decide +kernel
theorem dM_logout_20 : decode cM_logout 20 = .ok (.aload_n 0, 1) := by decide +kernel
theorem dM_logout_21 : decode cM_logout 21 = .ok (.iconst 0, 1) := by decide +kernel
theorem dM_logout_22 : decode cM_logout 22 = .ok (.putfield 46, 3) := by decide +kernel
theorem dM_logout_25 : decode cM_logout 25 = .ok (.iconst 0, 1) := by decide +kernel
theorem dM_logout_26 : decode cM_logout 26 = .ok (.istore_n 2, 1) := by decide +kernel
theorem dM_logout_27 : decode cM_logout 27 = .ok (.iload_n 2, 1) := by decide +kernel
theorem dM_logout_28 : decode cM_logout 28 = .ok (.aload_n 0, 1) := by decide +kernel
theorem dM_logout_29 : decode cM_logout 29 = .ok (.getfield 50, 3) := by decide +kernel
theorem dM_logout_32 : decode cM_logout 32 = .ok (.if_icmp .ge 55, 3) := by decide +kernel
theorem dM_logout_35 : decode cM_logout 35 = .ok (.aload_n 0, 1) := by decide +kernel
theorem dM_logout_36 : decode cM_logout 36 = .ok (.getfield 19, 3) := by decide +kernel
theorem dM_logout_39 : decode cM_logout 39 = .ok (.iload_n 2, 1) := by decide +kernel
theorem dM_logout_40 : decode cM_logout 40 = .ok (.aload_n 0, 1) := by decide +kernel
theorem dM_logout_41 : decode cM_logout 41 = .ok (.getfield 19, 3) := by decide +kernel
theorem dM_logout_44 : decode cM_logout 44 = .ok (.iload_n 2, 1) := by decide +kernel
theorem dM_logout_45 : decode cM_logout 45 = .ok (.baload, 1) := by decide +kernel
theorem dM_logout_46 : decode cM_logout 46 = .ok (.ifCond .eq 33, 3) := by decide +kernel
theorem dM_logout_49 : decode cM_logout 49 = .ok (.aload_n 0, 1) := by decide +kernel
theorem dM_logout_50 : decode cM_logout 50 = .ok (.getfield 29, 3) := by decide +kernel
theorem dM_logout_53 : decode cM_logout 53 = .ok (.iload_n 2, 1) := by decide +kernel
theorem dM_logout_54 : decode cM_logout 54 = .ok (.iaload, 1) := by decide +kernel
theorem dM_logout_55 : decode cM_logout 55 = .ok (.iconst 1, 1) := by decide +kernel
theorem dM_logout_56 : decode cM_logout 56 = .ok (.invokestatic 42, 3) := by decide +kernel
theorem dM_logout_59 : decode cM_logout 59 = .ok (.ifCond .ne 16, 3) := by decide +kernel
theorem dM_logout_62 : decode cM_logout 62 = .ok (.aload_n 0, 1) := by decide +kernel
theorem dM_logout_63 : decode cM_logout 63 = .ok (.getfield 29, 3) := by decide +kernel
theorem dM_logout_66 : decode cM_logout 66 = .ok (.iload_n 2, 1) := by decide +kernel
theorem dM_logout_67 : decode cM_logout 67 = .ok (.iaload, 1) := by decide +kernel
theorem dM_logout_68 : decode cM_logout 68 = .ok (.iconst 2, 1) := by decide +kernel
theorem dM_logout_69 : decode cM_logout 69 = .ok (.invokestatic 42, 3) := by decide +kernel
theorem dM_logout_72 : decode cM_logout 72 = .ok (.ifCond .ne 7, 3) := by decide +kernel
theorem dM_logout_75 : decode cM_logout 75 = .ok (.iconst 1, 1) := by decide +kernel
theorem dM_logout_76 : decode cM_logout 76 = .ok (.goto 4, 3) := by decide +kernel
theorem dM_logout_79 : decode cM_logout 79 = .ok (.iconst 0, 1) := by decide +kernel
theorem dM_logout_80 : decode cM_logout 80 = .ok (.bastore, 1) := by decide +kernel
theorem dM_logout_81 : decode cM_logout 81 = .ok (.iinc 2 1, 3) := by decide +kernel
theorem dM_logout_84 : decode cM_logout 84 = .ok (.goto (-57), 3) := by decide +kernel
theorem dM_logout_87 : decode cM_logout 87 = .ok (.iconst 0, 1) := by decide +kernel
theorem dM_logout_88 : decode cM_logout 88 = .ok (.ireturn, 1) := by decide +kernel
theorem dM_unlock_0 : decode cM_unlock 0 = .ok (.aload_n 0, 1) := by decide +kernel
theorem dM_unlock_1 : decode cM_unlock 1 = .ok (.iload_n 1, 1) := by decide +kernel
theorem dM_unlock_2 : decode cM_unlock 2 = .ok (.invokevirtual 67, 3) := by decide +kernel
theorem dM_unlock_5 : decode cM_unlock 5 = .ok (.ifCond .eq 5, 3) := by decide +kernel
theorem dM_unlock_8 : decode cM_unlock 8 = .ok (.iconst (-1), 1) := by decide +kernel
theorem dM_unlock_9 : decode cM_unlock 9 = .ok (.ireturn, 1) := by decide +kernel
theorem dM_unlock_10 : decode cM_unlock 10 = .ok (.aload_n 0, 1) := by decide +kernel
theorem dM_unlock_11 : decode cM_unlock 11 = .ok (.getfield 46, 3) := by decide +kernel
theorem dM_unlock_14 : decode cM_unlock 14 = .ok (.iconst 2, 1) := by decide +kernel
theorem dM_unlock_15 : decode cM_unlock 15 = .ok (.if_icmp .eq 6, 3) := by decide +kernel
theorem dM_unlock_18 : decode cM_unlock 18 = .ok (.bipush (-3), 2) := by decide +kernel
theorem dM_unlock_20 : decode cM_unlock 20 = .ok (.ireturn, 1) := by decide +kernel
theorem dM_unlock_21 : decode cM_unlock 21 = .ok (.aload_n 0, 1) := by decide +kernel
theorem dM_unlock_22 : decode cM_unlock 22 = .ok (.getfield 13, 3) := by decide +kernel
theorem dM_unlock_25 : decode cM_unlock 25 = .ok (.iconst 1, 1) := by decide +kernel
theorem dM_unlock_26 : decode cM_unlock 26 = .ok (.iload_n 2, 1) := by decide +kernel
theorem dM_unlock_27 : decode cM_unlock 27 = .ok (.iastore, 1) := by decide +kernel
theorem dM_unlock_28 : decode cM_unlock 28 = .ok (.aload_n 0, 1) := by decide +kernel
theorem dM_unlock_29 : decode cM_unlock 29 = .ok (.getfield 16, 3) := by decide +kernel
theorem dM_unlock_32 : decode cM_unlock 32 = .ok (.iconst 1, 1) := by decide +kernel
theorem dM_unlock_33 : decode cM_unlock 33 = .ok (.iconst 0, 1) := by decide +kernel
theorem dM_unlock_34 : decode cM_unlock 34 = .ok (.iastore, 1) := by decide +kernel
theorem dM_unlock_35 : decode cM_unlock 35 = .ok (.iconst 0, 1) := by decide +kernel
theorem dM_unlock_36 : decode cM_unlock 36 = .ok (.ireturn, 1) := by decide +kernel
theorem dM_create_0 : decode cM_create 0 = .ok (.aload_n 0, 1) := by decide +kernel
theorem dM_create_1 : decode cM_create 1 = .ok (.iload_n 1, 1) := by decide +kernel
theorem dM_create_2 : decode cM_create 2 = .ok (.invokevirtual 67, 3) := by decide +kernel
theorem dM_create_5 : decode cM_create 5 = .ok (.ifCond .eq 5, 3) := by decide +kernel
theorem dM_create_8 : decode cM_create 8 = .ok (.iconst (-1), 1) := by decide +kernel
theorem dM_create_9 : decode cM_create 9 = .ok (.ireturn, 1) := by decide +kernel
theorem dM_create_10 : decode cM_create 10 = .ok (.aload_n 0, 1) := by decide +kernel
theorem dM_create_11 : decode cM_create 11 = .ok (.iload_n 1, 1) := by decide +kernel
theorem dM_create_12 : decode cM_create 12 = .ok (.iload_n 2, 1) := by decide +kernel
theorem dM_create_13 : decode cM_create 13 = .ok (.iconst 0, 1) := by decide +kernel
theorem dM_create_14 : decode cM_create 14 = .ok (.invokevirtual 70, 3) := by decide +kernel
theorem dM_create_17 : decode cM_create 17 = .ok (.istore 4, 2) := by decide +kernel
theorem dM_create_19 : decode cM_create 19 = .ok (.iload 4, 2) := by decide +kernel
theorem dM_create_21 : decode cM_create 21 = .ok (.ifCond .ge 8, 3) := by decide +kernel
theorem dM_create_24 : decode cM_create 24 = .ok (.iload 4, 2) := by decide +kernel
theorem dM_create_26 : decode cM_create 26 = .ok (.goto 10, 3) := by decide +kernel
theorem dM_create_29 : decode cM_create 29 = .ok (.aload_n 0, 1) := by decide +kernel
theorem dM_create_30 : decode cM_create 30 = .ok (.iload_n 1, 1) := by decide +kernel
theorem dM_create_31 : decode cM_create 31 = .ok (.iload_n 2, 1) := by decide +kernel
theorem dM_create_32 : decode cM_create 32 = .ok (.iload_n 3, 1) := by decide +kernel
theorem dM_create_33 : decode cM_create 33 = .ok (.invokevirtual 74, 3) := by decide +kernel
theorem dM_create_36 : decode cM_create 36 = .ok (.ireturn, 1) := by decide +kernel
theorem dM_generate_0 : decode cM_generate 0 = .ok (.aload_n 0, 1) := by decide +kernel
theorem dM_generate_1 : decode cM_generate 1 = .ok (.iload_n 1, 1) := by decide +kernel
theorem dM_generate_2 : decode cM_generate 2 = .ok (.invokevirtual 67, 3) := by decide +kernel
theorem dM_generate_5 : decode cM_generate 5 = .ok (.ifCond .eq 5, 3) := by decide +kernel
theorem dM_generate_8 : decode cM_generate 8 = .ok (.iconst (-1), 1) := by decide +kernel
theorem dM_generate_9 : decode cM_generate 9 = .ok (.ireturn, 1) := by decide +kernel
theorem dM_generate_10 : decode cM_generate 10 = .ok (.aload_n 0, 1) := by decide +kernel
theorem dM_generate_11 : decode cM_generate 11 = .ok (.iload_n 1, 1) := by decide +kernel
theorem dM_generate_12 : decode cM_generate 12 = .ok (.iload_n 2, 1) := by decide +kernel
theorem dM_generate_13 : decode cM_generate 13 = .ok (.iconst 0, 1) := by decide +kernel
theorem dM_generate_14 : decode cM_generate 14 = .ok (.invokevirtual 70, 3) := by decide +kernel
theorem dM_generate_17 : decode cM_generate 17 = .ok (.istore_n 3, 1) := by decide +kernel
theorem dM_generate_18 : decode cM_generate 18 = .ok (.iload_n 3, 1) := by decide +kernel
theorem dM_generate_19 : decode cM_generate 19 = .ok (.ifCond .ge 5, 3) := by decide +kernel
theorem dM_generate_22 : decode cM_generate 22 = .ok (.iload_n 3, 1) := by decide +kernel
theorem dM_generate_23 : decode cM_generate 23 = .ok (.ireturn, 1) := by decide +kernel
theorem dM_generate_24 : decode cM_generate 24 = .ok (.sipush 1024, 3) := by decide +kernel
theorem dM_generate_27 : decode cM_generate 27 = .ok (.iload_n 2, 1) := by decide +kernel
theorem dM_generate_28 : decode cM_generate 28 = .ok (.iconst 4, 1) := by decide +kernel
theorem dM_generate_29 : decode cM_generate 29 = .ok (.invokestatic 42, 3) := by decide +kernel
theorem dM_generate_32 : decode cM_generate 32 = .ok (.ifCond .eq 9, 3) := by decide +kernel
theorem dM_generate_35 : decode cM_generate 35 = .ok (.sipush 2048, 3) := by decide +kernel
theorem dM_generate_38 : decode cM_generate 38 = .ok (.goto 4, 3) := by decide +kernel
theorem dM_generate_41 : decode cM_generate 41 = .ok (.iconst 0, 1) := by decide +kernel
theorem dM_generate_42 : decode cM_generate 42 = .ok (.iadd, 1) := by decide +kernel
theorem dM_generate_43 : decode cM_generate 43 = .ok (.iload_n 2, 1) := by decide +kernel
theorem dM_generate_44 : decode cM_generate 44 = .ok (.bipush 8, 2) := by decide +kernel
theorem dM_generate_46 : decode cM_generate 46 = .ok (.invokestatic 42, 3) := by decide +kernel
theorem dM_generate_49 : decode cM_generate 49 = .ok (.ifCond .eq 7, 3) := by decide +kernel
theorem dM_generate_52 : decode cM_generate 52 = .ok (.iconst 0, 1) := by decide +kernel
theorem dM_generate_53 : decode cM_generate 53 = .ok (.goto 6, 3) := by decide +kernel
theorem dM_generate_56 : decode cM_generate 56 = .ok (.sipush 4096, 3) := by decide +kernel
theorem dM_generate_59 : decode cM_generate 59 = .ok (.iadd, 1) := by decide +kernel
theorem dM_generate_60 : decode cM_generate 60 = .ok (.istore 4, 2) := by decide +kernel
theorem dM_generate_62 : decode cM_generate 62 = .ok (.aload_n 0, 1) := by decide +kernel
theorem dM_generate_63 : decode cM_generate 63 = .ok (.getfield 77, 3) := by decide +kernel
theorem dM_generate_66 : decode cM_generate 66 = .ok (.ldc 80, 2) := by decide +kernel
theorem dM_generate_68 : decode cM_generate 68 = .ok (.invokestatic 81, 3) := by decide +kernel
theorem dM_generate_71 : decode cM_generate 71 = .ok (.istore 5, 2) := by decide +kernel
theorem dM_generate_73 : decode cM_generate 73 = .ok (.aload_n 0, 1) := by decide +kernel
theorem dM_generate_74 : decode cM_generate 74 = .ok (.dup, 1) := by decide +kernel
theorem dM_generate_75 : decode cM_generate 75 = .ok (.getfield 77, 3) := by decide +kernel
theorem dM_generate_78 : decode cM_generate 78 = .ok (.iconst 1, 1) := by decide +kernel
theorem dM_generate_79 : decode cM_generate 79 = .ok (.iadd, 1) := by decide +kernel
theorem dM_generate_80 : decode cM_generate 80 = .ok (.putfield 77, 3) := by decide +kernel
theorem dM_generate_83 : decode cM_generate 83 = .ok (.aload_n 0, 1) := by decide +kernel
theorem dM_generate_84 : decode cM_generate 84 = .ok (.iload_n 1, 1) := by decide +kernel
theorem dM_generate_85 : decode cM_generate 85 = .ok (.iload_n 2, 1) := by decide +kernel
theorem dM_generate_86 : decode cM_generate 86 = .ok (.iload 4, 2) := by decide +kernel
theorem dM_generate_88 : decode cM_generate 88 = .ok (.iadd, 1) := by decide +kernel
theorem dM_generate_89 : decode cM_generate 89 = .ok (.iload 5, 2) := by decide +kernel
theorem dM_generate_91 : decode cM_generate 91 = .ok (.invokevirtual 74, 3) := by decide +kernel
theorem dM_generate_94 : decode cM_generate 94 = .ok (.ireturn, 1) := by decide +kernel
theorem dM_destroy_0 : decode cM_destroy 0 = .ok (.aload_n 0, 1) := by decide +kernel
theorem dM_destroy_1 : decode cM_destroy 1 = .ok (.iload_n 1, 1) := by decide +kernel
theorem dM_destroy_2 : decode cM_destroy 2 = .ok (.invokevirtual 67, 3) := by decide +kernel
theorem dM_destroy_5 : decode cM_destroy 5 = .ok (.ifCond .eq 5, 3) := by decide +kernel
theorem dM_destroy_8 : decode cM_destroy 8 = .ok (.iconst (-1), 1) := by decide +kernel
theorem dM_destroy_9 : decode cM_destroy 9 = .ok (.ireturn, 1) := by decide +kernel
theorem dM_destroy_10 : decode cM_destroy 10 = .ok (.aload_n 0, 1) := by decide +kernel
theorem dM_destroy_11 : decode cM_destroy 11 = .ok (.iload_n 2, 1) := by decide +kernel
theorem dM_destroy_12 : decode cM_destroy 12 = .ok (.invokevirtual 85, 3) := by decide +kernel
theorem dM_destroy_15 : decode cM_destroy 15 = .ok (.ifCond .eq 6, 3) := by decide +kernel
theorem dM_destroy_18 : decode cM_destroy 18 = .ok (.bipush (-2), 2) := by decide +kernel
theorem dM_destroy_20 : decode cM_destroy 20 = .ok (.ireturn, 1) := by decide +kernel
theorem dM_destroy_21 : decode cM_destroy 21 = .ok (.aload_n 0, 1) := by decide +kernel
theorem dM_destroy_22 : decode cM_destroy 22 = .ok (.iload_n 1, 1) := by decide +kernel
theorem dM_destroy_23 : decode cM_destroy 23 = .ok (.aload_n 0, 1) := by decide +kernel
theorem dM_destroy_24 : decode cM_destroy 24 = .ok (.getfield 29, 3) := by decide +kernel
theorem dM_destroy_27 : decode cM_destroy 27 = .ok (.iload_n 2, 1) := by decide +kernel
theorem dM_destroy_28 : decode cM_destroy 28 = .ok (.iconst 1, 1) := by decide +kernel
theorem dM_destroy_29 : decode cM_destroy 29 = .ok (.isub, 1) := by decide +kernel
theorem dM_destroy_30 : decode cM_destroy 30 = .ok (.iaload, 1) := by decide +kernel
theorem dM_destroy_31 : decode cM_destroy 31 = .ok (.invokevirtual 57, 3) := by decide +kernel
theorem dM_destroy_34 : decode cM_destroy 34 = .ok (.ifCond .eq 6, 3) := by decide +kernel
theorem dM_destroy_37 : decode cM_destroy 37 = .ok (.bipush (-4), 2) := by decide +kernel
theorem dM_destroy_39 : decode cM_destroy 39 = .ok (.ireturn, 1) := by decide +kernel
theorem dM_destroy_40 : decode cM_destroy 40 = .ok (.aload_n 0, 1) := by decide +kernel
theorem dM_destroy_41 : decode cM_destroy 41 = .ok (.getfield 19, 3) := by decide +kernel
theorem dM_destroy_44 : decode cM_destroy 44 = .ok (.iload_n 2, 1) := by decide +kernel
theorem dM_destroy_45 : decode cM_destroy 45 = .ok (.iconst 1, 1) := by decide +kernel
theorem dM_destroy_46 : decode cM_destroy 46 = .ok (.isub, 1) := by decide +kernel
theorem dM_destroy_47 : decode cM_destroy 47 = .ok (.iconst 0, 1) := by decide +kernel
theorem dM_destroy_48 : decode cM_destroy 48 = .ok (.bastore, 1) := by decide +kernel
theorem dM_destroy_49 : decode cM_destroy 49 = .ok (.iconst 0, 1) := by decide +kernel
theorem dM_destroy_50 : decode cM_destroy 50 = .ok (.ireturn, 1) := by decide +kernel
theorem dM_attributes_0 : decode cM_attributes 0 = .ok (.aload_n 0, 1) := by decide +kernel
theorem dM_attributes_1 : decode cM_attributes 1 = .ok (.iload_n 1, 1) := by decide +kernel
theorem dM_attributes_2 : decode cM_attributes 2 = .ok (.invokevirtual 67, 3) := by decide +kernel
theorem dM_attributes_5 : decode cM_attributes 5 = .ok (.ifCond .eq 7, 3) := by decide +kernel
theorem dM_attributes_8 : decode cM_attributes 8 = .ok (.iconst (-1), 1) := by decide +kernel
theorem dM_attributes_9 : decode cM_attributes 9 = .ok (.goto 24, 3) := by decide +kernel
theorem dM_attributes_12 : decode cM_attributes 12 = .ok (.aload_n 0, 1) := by decide +kernel
theorem dM_attributes_13 : decode cM_attributes 13 = .ok (.iload_n 2, 1) := by decide +kernel
theorem dM_attributes_14 : decode cM_attributes 14 = .ok (.invokevirtual 85, 3) := by decide +kernel
theorem dM_attributes_17 : decode cM_attributes 17 = .ok (.ifCond .eq 8, 3) := by decide +kernel
theorem dM_attributes_20 : decode cM_attributes 20 = .ok (.bipush (-2), 2) := by decide +kernel
theorem dM_attributes_22 : decode cM_attributes 22 = .ok (.goto 11, 3) := by decide +kernel
theorem dM_attributes_25 : decode cM_attributes 25 = .ok (.aload_n 0, 1) := by decide +kernel
theorem dM_attributes_26 : decode cM_attributes 26 = .ok (.getfield 29, 3) := by decide +kernel
theorem dM_attributes_29 : decode cM_attributes 29 = .ok (.iload_n 2, 1) := by decide +kernel
theorem dM_attributes_30 : decode cM_attributes 30 = .ok (.iconst 1, 1) := by decide +kernel
theorem dM_attributes_31 : decode cM_attributes 31 = .ok (.isub, 1) := by decide +kernel
theorem dM_attributes_32 : decode cM_attributes 32 = .ok (.iaload, 1) := by decide +kernel
theorem dM_attributes_33 : decode cM_attributes 33 = .ok (.ireturn, 1) := by decide +kernel
theorem dM_limit_0 : decode cM_limit 0 = .ok (.aload_n 0, 1) := by decide +kernel
theorem dM_limit_1 : decode cM_limit 1 = .ok (.iload_n 1, 1) := by decide +kernel
theorem dM_limit_2 : decode cM_limit 2 = .ok (.invokevirtual 67, 3) := by decide +kernel
theorem dM_limit_5 : decode cM_limit 5 = .ok (.ifCond .eq 5, 3) := by decide +kernel
theorem dM_limit_8 : decode cM_limit 8 = .ok (.iconst (-1), 1) := by decide +kernel
theorem dM_limit_9 : decode cM_limit 9 = .ok (.ireturn, 1) := by decide +kernel
theorem dM_limit_10 : decode cM_limit 10 = .ok (.aload_n 0, 1) := by decide +kernel
theorem dM_limit_11 : decode cM_limit 11 = .ok (.iload_n 2, 1) := by decide +kernel
theorem dM_limit_12 : decode cM_limit 12 = .ok (.invokevirtual 85, 3) := by decide +kernel
theorem dM_limit_15 : decode cM_limit 15 = .ok (.ifCond .eq 6, 3) := by decide +kernel
theorem dM_limit_18 : decode cM_limit 18 = .ok (.bipush (-2), 2) := by decide +kernel
theorem dM_limit_20 : decode cM_limit 20 = .ok (.ireturn, 1) := by decide +kernel
theorem dM_limit_21 : decode cM_limit 21 = .ok (.aload_n 0, 1) := by decide +kernel
theorem dM_limit_22 : decode cM_limit 22 = .ok (.iload_n 1, 1) := by decide +kernel
theorem dM_limit_23 : decode cM_limit 23 = .ok (.aload_n 0, 1) := by decide +kernel
theorem dM_limit_24 : decode cM_limit 24 = .ok (.getfield 29, 3) := by decide +kernel
theorem dM_limit_27 : decode cM_limit 27 = .ok (.iload_n 2, 1) := by decide +kernel
theorem dM_limit_28 : decode cM_limit 28 = .ok (.iconst 1, 1) := by decide +kernel
theorem dM_limit_29 : decode cM_limit 29 = .ok (.isub, 1) := by decide +kernel
theorem dM_limit_30 : decode cM_limit 30 = .ok (.iaload, 1) := by decide +kernel
theorem dM_limit_31 : decode cM_limit 31 = .ok (.invokevirtual 57, 3) := by decide +kernel
theorem dM_limit_34 : decode cM_limit 34 = .ok (.ifCond .eq 6, 3) := by decide +kernel
theorem dM_limit_37 : decode cM_limit 37 = .ok (.bipush (-4), 2) := by decide +kernel
theorem dM_limit_39 : decode cM_limit 39 = .ok (.ireturn, 1) := by decide +kernel
theorem dM_limit_40 : decode cM_limit 40 = .ok (.iload_n 3, 1) := by decide +kernel
theorem dM_limit_41 : decode cM_limit 41 = .ok (.ifCond .eq 13, 3) := by decide +kernel
theorem dM_limit_44 : decode cM_limit 44 = .ok (.iload_n 3, 1) := by decide +kernel
theorem dM_limit_45 : decode cM_limit 45 = .ok (.sipush (-509), 3) := by decide +kernel
theorem dM_limit_48 : decode cM_limit 48 = .ok (.invokestatic 42, 3) := by decide +kernel
theorem dM_limit_51 : decode cM_limit 51 = .ok (.ifCond .eq 6, 3) := by decide +kernel
theorem dM_limit_54 : decode cM_limit 54 = .ok (.bipush (-5), 2) := by decide +kernel
theorem dM_limit_56 : decode cM_limit 56 = .ok (.ireturn, 1) := by decide +kernel
theorem dM_limit_57 : decode cM_limit 57 = .ok (.aload_n 0, 1) := by decide +kernel
theorem dM_limit_58 : decode cM_limit 58 = .ok (.getfield 29, 3) := by decide +kernel
theorem dM_limit_61 : decode cM_limit 61 = .ok (.iload_n 2, 1) := by decide +kernel
theorem dM_limit_62 : decode cM_limit 62 = .ok (.iconst 1, 1) := by decide +kernel
theorem dM_limit_63 : decode cM_limit 63 = .ok (.isub, 1) := by decide +kernel
theorem dM_limit_64 : decode cM_limit 64 = .ok (.iaload, 1) := by decide +kernel
theorem dM_limit_65 : decode cM_limit 65 = .ok (.istore 4, 2) := by decide +kernel
theorem dM_limit_67 : decode cM_limit 67 = .ok (.bipush 8, 2) := by decide +kernel
theorem dM_limit_69 : decode cM_limit 69 = .ok (.istore 5, 2) := by decide +kernel
theorem dM_limit_71 : decode cM_limit 71 = .ok (.iload 5, 2) := by decide +kernel
theorem dM_limit_73 : decode cM_limit 73 = .ok (.sipush 256, 3) := by decide +kernel
theorem dM_limit_76 : decode cM_limit 76 = .ok (.if_icmp .gt 43, 3) := by decide +kernel
theorem dM_limit_79 : decode cM_limit 79 = .ok (.iload_n 3, 1) := by decide +kernel
theorem dM_limit_80 : decode cM_limit 80 = .ok (.iload 5, 2) := by decide +kernel
theorem dM_limit_82 : decode cM_limit 82 = .ok (.invokestatic 42, 3) := by decide +kernel
theorem dM_limit_85 : decode cM_limit 85 = .ok (.ifCond .eq 21, 3) := by decide +kernel
theorem dM_limit_88 : decode cM_limit 88 = .ok (.iload 4, 2) := by decide +kernel
theorem dM_limit_90 : decode cM_limit 90 = .ok (.iload 5, 2) := by decide +kernel
theorem dM_limit_92 : decode cM_limit 92 = .ok (.invokestatic 42, 3) := by decide +kernel
theorem dM_limit_95 : decode cM_limit 95 = .ok (.ifCond .eq 11, 3) := by decide +kernel
theorem dM_limit_98 : decode cM_limit 98 = .ok (.iload 4, 2) := by decide +kernel
theorem dM_limit_100 : decode cM_limit 100 = .ok (.iload 5, 2) := by decide +kernel
theorem dM_limit_102 : decode cM_limit 102 = .ok (.isub, 1) := by decide +kernel
theorem dM_limit_103 : decode cM_limit 103 = .ok (.goto 5, 3) := by decide +kernel
theorem dM_limit_106 : decode cM_limit 106 = .ok (.iload 4, 2) := by decide +kernel
theorem dM_limit_108 : decode cM_limit 108 = .ok (.istore 4, 2) := by decide +kernel
theorem dM_limit_110 : decode cM_limit 110 = .ok (.iload 5, 2) := by decide +kernel
theorem dM_limit_112 : decode cM_limit 112 = .ok (.iconst 2, 1) := by decide +kernel
theorem dM_limit_113 : decode cM_limit 113 = .ok (.imul, 1) := by decide +kernel
theorem dM_limit_114 : decode cM_limit 114 = .ok (.istore 5, 2) := by decide +kernel
theorem dM_limit_116 : decode cM_limit 116 = .ok (.goto (-45), 3) := by decide +kernel
theorem dM_limit_119 : decode cM_limit 119 = .ok (.aload_n 0, 1) := by decide +kernel
theorem dM_limit_120 : decode cM_limit 120 = .ok (.getfield 29, 3) := by decide +kernel
theorem dM_limit_123 : decode cM_limit 123 = .ok (.iload_n 2, 1) := by decide +kernel
theorem dM_limit_124 : decode cM_limit 124 = .ok (.iconst 1, 1) := by decide +kernel
theorem dM_limit_125 : decode cM_limit 125 = .ok (.isub, 1) := by decide +kernel
theorem dM_limit_126 : decode cM_limit 126 = .ok (.iload_n 3, 1) := by decide +kernel
theorem dM_limit_127 : decode cM_limit 127 = .ok (.iconst 4, 1) := by decide +kernel
theorem dM_limit_128 : decode cM_limit 128 = .ok (.invokestatic 42, 3) := by decide +kernel
theorem dM_limit_131 : decode cM_limit 131 = .ok (.ifCond .eq 19, 3) := by decide +kernel
theorem dM_limit_134 : decode cM_limit 134 = .ok (.iload 4, 2) := by decide +kernel
theorem dM_limit_136 : decode cM_limit 136 = .ok (.iconst 4, 1) := by decide +kernel
theorem dM_limit_137 : decode cM_limit 137 = .ok (.invokestatic 42, 3) := by decide +kernel
theorem dM_limit_140 : decode cM_limit 140 = .ok (.ifCond .ne 10, 3) := by decide +kernel
theorem dM_limit_143 : decode cM_limit 143 = .ok (.iload 4, 2) := by decide +kernel
theorem dM_limit_145 : decode cM_limit 145 = .ok (.iconst 4, 1) := by decide +kernel
theorem dM_limit_146 : decode cM_limit 146 = .ok (.iadd, 1) := by decide +kernel
theorem dM_limit_147 : decode cM_limit 147 = .ok (.goto 5, 3) := by decide +kernel
theorem dM_limit_150 : decode cM_limit 150 = .ok (.iload 4, 2) := by decide +kernel
theorem dM_limit_152 : decode cM_limit 152 = .ok (.iastore, 1) := by decide +kernel
theorem dM_limit_153 : decode cM_limit 153 = .ok (.aload_n 0, 1) := by decide +kernel
theorem dM_limit_154 : decode cM_limit 154 = .ok (.getfield 29, 3) := by decide +kernel
theorem dM_limit_157 : decode cM_limit 157 = .ok (.iload_n 2, 1) := by decide +kernel
theorem dM_limit_158 : decode cM_limit 158 = .ok (.iconst 1, 1) := by decide +kernel
theorem dM_limit_159 : decode cM_limit 159 = .ok (.isub, 1) := by decide +kernel
theorem dM_limit_160 : decode cM_limit 160 = .ok (.iaload, 1) := by decide +kernel
theorem dM_limit_161 : decode cM_limit 161 = .ok (.ireturn, 1) := by decide +kernel
theorem dM_trust_0 : decode cM_trust 0 = .ok (.aload_n 0, 1) := by decide +kernel
theorem dM_trust_1 : decode cM_trust 1 = .ok (.iload_n 1, 1) := by decide +kernel
theorem dM_trust_2 : decode cM_trust 2 = .ok (.invokevirtual 67, 3) := by decide +kernel
theorem dM_trust_5 : decode cM_trust 5 = .ok (.ifCond .eq 5, 3) := by decide +kernel
theorem dM_trust_8 : decode cM_trust 8 = .ok (.iconst (-1), 1) := by decide +kernel
theorem dM_trust_9 : decode cM_trust 9 = .ok (.ireturn, 1) := by decide +kernel
theorem dM_trust_10 : decode cM_trust 10 = .ok (.aload_n 0, 1) := by decide +kernel
theorem dM_trust_11 : decode cM_trust 11 = .ok (.iload_n 2, 1) := by decide +kernel
theorem dM_trust_12 : decode cM_trust 12 = .ok (.invokevirtual 85, 3) := by decide +kernel
theorem dM_trust_15 : decode cM_trust 15 = .ok (.ifCond .eq 6, 3) := by decide +kernel
theorem dM_trust_18 : decode cM_trust 18 = .ok (.bipush (-2), 2) := by decide +kernel
theorem dM_trust_20 : decode cM_trust 20 = .ok (.ireturn, 1) := by decide +kernel
theorem dM_trust_21 : decode cM_trust 21 = .ok (.aload_n 0, 1) := by decide +kernel
theorem dM_trust_22 : decode cM_trust 22 = .ok (.getfield 46, 3) := by decide +kernel
theorem dM_trust_25 : decode cM_trust 25 = .ok (.iconst 2, 1) := by decide +kernel
theorem dM_trust_26 : decode cM_trust 26 = .ok (.if_icmp .eq 6, 3) := by decide +kernel
theorem dM_trust_29 : decode cM_trust 29 = .ok (.bipush (-3), 2) := by decide +kernel
theorem dM_trust_31 : decode cM_trust 31 = .ok (.ireturn, 1) := by decide +kernel
theorem dM_trust_32 : decode cM_trust 32 = .ok (.aload_n 0, 1) := by decide +kernel
theorem dM_trust_33 : decode cM_trust 33 = .ok (.iload_n 1, 1) := by decide +kernel
theorem dM_trust_34 : decode cM_trust 34 = .ok (.aload_n 0, 1) := by decide +kernel
theorem dM_trust_35 : decode cM_trust 35 = .ok (.getfield 29, 3) := by decide +kernel
theorem dM_trust_38 : decode cM_trust 38 = .ok (.iload_n 2, 1) := by decide +kernel
theorem dM_trust_39 : decode cM_trust 39 = .ok (.iconst 1, 1) := by decide +kernel
theorem dM_trust_40 : decode cM_trust 40 = .ok (.isub, 1) := by decide +kernel
theorem dM_trust_41 : decode cM_trust 41 = .ok (.iaload, 1) := by decide +kernel
theorem dM_trust_42 : decode cM_trust 42 = .ok (.invokevirtual 57, 3) := by decide +kernel
theorem dM_trust_45 : decode cM_trust 45 = .ok (.ifCond .eq 6, 3) := by decide +kernel
theorem dM_trust_48 : decode cM_trust 48 = .ok (.bipush (-4), 2) := by decide +kernel
theorem dM_trust_50 : decode cM_trust 50 = .ok (.ireturn, 1) := by decide +kernel
theorem dM_trust_51 : decode cM_trust 51 = .ok (.aload_n 0, 1) := by decide +kernel
theorem dM_trust_52 : decode cM_trust 52 = .ok (.getfield 29, 3) := by decide +kernel
theorem dM_trust_55 : decode cM_trust 55 = .ok (.iload_n 2, 1) := by decide +kernel
theorem dM_trust_56 : decode cM_trust 56 = .ok (.iconst 1, 1) := by decide +kernel
theorem dM_trust_57 : decode cM_trust 57 = .ok (.isub, 1) := by decide +kernel
theorem dM_trust_58 : decode cM_trust 58 = .ok (.iaload, 1) := by decide +kernel
theorem dM_trust_59 : decode cM_trust 59 = .ok (.iconst 1, 1) := by decide +kernel
theorem dM_trust_60 : decode cM_trust 60 = .ok (.invokestatic 42, 3) := by decide +kernel
theorem dM_trust_63 : decode cM_trust 63 = .ok (.ifCond .eq 20, 3) := by decide +kernel
theorem dM_trust_66 : decode cM_trust 66 = .ok (.aload_n 0, 1) := by decide +kernel
theorem dM_trust_67 : decode cM_trust 67 = .ok (.getfield 29, 3) := by decide +kernel
theorem dM_trust_70 : decode cM_trust 70 = .ok (.iload_n 2, 1) := by decide +kernel
theorem dM_trust_71 : decode cM_trust 71 = .ok (.iconst 1, 1) := by decide +kernel
theorem dM_trust_72 : decode cM_trust 72 = .ok (.isub, 1) := by decide +kernel
theorem dM_trust_73 : decode cM_trust 73 = .ok (.iaload, 1) := by decide +kernel
theorem dM_trust_74 : decode cM_trust 74 = .ok (.sipush 128, 3) := by decide +kernel
theorem dM_trust_77 : decode cM_trust 77 = .ok (.invokestatic 42, 3) := by decide +kernel
theorem dM_trust_80 : decode cM_trust 80 = .ok (.ifCond .ne 6, 3) := by decide +kernel
theorem dM_trust_83 : decode cM_trust 83 = .ok (.bipush (-5), 2) := by decide +kernel
theorem dM_trust_85 : decode cM_trust 85 = .ok (.ireturn, 1) := by decide +kernel
theorem dM_trust_86 : decode cM_trust 86 = .ok (.aload_n 0, 1) := by decide +kernel
theorem dM_trust_87 : decode cM_trust 87 = .ok (.getfield 29, 3) := by decide +kernel
theorem dM_trust_90 : decode cM_trust 90 = .ok (.iload_n 2, 1) := by decide +kernel
theorem dM_trust_91 : decode cM_trust 91 = .ok (.iconst 1, 1) := by decide +kernel
theorem dM_trust_92 : decode cM_trust 92 = .ok (.isub, 1) := by decide +kernel
theorem dM_trust_93 : decode cM_trust 93 = .ok (.aload_n 0, 1) := by decide +kernel
theorem dM_trust_94 : decode cM_trust 94 = .ok (.getfield 29, 3) := by decide +kernel
theorem dM_trust_97 : decode cM_trust 97 = .ok (.iload_n 2, 1) := by decide +kernel
theorem dM_trust_98 : decode cM_trust 98 = .ok (.iconst 1, 1) := by decide +kernel
theorem dM_trust_99 : decode cM_trust 99 = .ok (.isub, 1) := by decide +kernel
theorem dM_trust_100 : decode cM_trust 100 = .ok (.iaload, 1) := by decide +kernel
theorem dM_trust_101 : decode cM_trust 101 = .ok (.sipush 512, 3) := by decide +kernel
theorem dM_trust_104 : decode cM_trust 104 = .ok (.invokestatic 42, 3) := by decide +kernel
theorem dM_trust_107 : decode cM_trust 107 = .ok (.ifCond .eq 14, 3) := by decide +kernel
theorem dM_trust_110 : decode cM_trust 110 = .ok (.aload_n 0, 1) := by decide +kernel
theorem dM_trust_111 : decode cM_trust 111 = .ok (.getfield 29, 3) := by decide +kernel
theorem dM_trust_114 : decode cM_trust 114 = .ok (.iload_n 2, 1) := by decide +kernel
theorem dM_trust_115 : decode cM_trust 115 = .ok (.iconst 1, 1) := by decide +kernel
theorem dM_trust_116 : decode cM_trust 116 = .ok (.isub, 1) := by decide +kernel
theorem dM_trust_117 : decode cM_trust 117 = .ok (.iaload, 1) := by decide +kernel
theorem dM_trust_118 : decode cM_trust 118 = .ok (.goto 15, 3) := by decide +kernel
theorem dM_trust_121 : decode cM_trust 121 = .ok (.aload_n 0, 1) := by decide +kernel
theorem dM_trust_122 : decode cM_trust 122 = .ok (.getfield 29, 3) := by decide +kernel
theorem dM_trust_125 : decode cM_trust 125 = .ok (.iload_n 2, 1) := by decide +kernel
theorem dM_trust_126 : decode cM_trust 126 = .ok (.iconst 1, 1) := by decide +kernel
theorem dM_trust_127 : decode cM_trust 127 = .ok (.isub, 1) := by decide +kernel
theorem dM_trust_128 : decode cM_trust 128 = .ok (.iaload, 1) := by decide +kernel
theorem dM_trust_129 : decode cM_trust 129 = .ok (.sipush 512, 3) := by decide +kernel
theorem dM_trust_132 : decode cM_trust 132 = .ok (.iadd, 1) := by decide +kernel
theorem dM_trust_133 : decode cM_trust 133 = .ok (.iastore, 1) := by decide +kernel
theorem dM_trust_134 : decode cM_trust 134 = .ok (.iconst 0, 1) := by decide +kernel
theorem dM_trust_135 : decode cM_trust 135 = .ok (.ireturn, 1) := by decide +kernel
theorem dM_bar_0 : decode cM_bar 0 = .ok (.aload_n 0, 1) := by decide +kernel
theorem dM_bar_1 : decode cM_bar 1 = .ok (.iload_n 1, 1) := by decide +kernel
theorem dM_bar_2 : decode cM_bar 2 = .ok (.invokevirtual 67, 3) := by decide +kernel
theorem dM_bar_5 : decode cM_bar 5 = .ok (.ifCond .eq 5, 3) := by decide +kernel
theorem dM_bar_8 : decode cM_bar 8 = .ok (.iconst (-1), 1) := by decide +kernel
theorem dM_bar_9 : decode cM_bar 9 = .ok (.ireturn, 1) := by decide +kernel
theorem dM_bar_10 : decode cM_bar 10 = .ok (.aload_n 0, 1) := by decide +kernel
theorem dM_bar_11 : decode cM_bar 11 = .ok (.iload_n 2, 1) := by decide +kernel
theorem dM_bar_12 : decode cM_bar 12 = .ok (.invokevirtual 85, 3) := by decide +kernel
theorem dM_bar_15 : decode cM_bar 15 = .ok (.ifCond .eq 6, 3) := by decide +kernel
theorem dM_bar_18 : decode cM_bar 18 = .ok (.bipush (-2), 2) := by decide +kernel
theorem dM_bar_20 : decode cM_bar 20 = .ok (.ireturn, 1) := by decide +kernel
theorem dM_bar_21 : decode cM_bar 21 = .ok (.iload_n 3, 1) := by decide +kernel
theorem dM_bar_22 : decode cM_bar 22 = .ok (.ifCond .eq 18, 3) := by decide +kernel
theorem dM_bar_25 : decode cM_bar 25 = .ok (.aload_n 0, 1) := by decide +kernel
theorem dM_bar_26 : decode cM_bar 26 = .ok (.getfield 29, 3) := by decide +kernel
theorem dM_bar_29 : decode cM_bar 29 = .ok (.iload_n 2, 1) := by decide +kernel
theorem dM_bar_30 : decode cM_bar 30 = .ok (.iconst 1, 1) := by decide +kernel
theorem dM_bar_31 : decode cM_bar 31 = .ok (.isub, 1) := by decide +kernel
theorem dM_bar_32 : decode cM_bar 32 = .ok (.iaload, 1) := by decide +kernel
theorem dM_bar_33 : decode cM_bar 33 = .ok (.iload_n 3, 1) := by decide +kernel
theorem dM_bar_34 : decode cM_bar 34 = .ok (.invokestatic 42, 3) := by decide +kernel
theorem dM_bar_37 : decode cM_bar 37 = .ok (.ifCond .eq 28, 3) := by decide +kernel
theorem dM_bar_40 : decode cM_bar 40 = .ok (.iload 4, 2) := by decide +kernel
theorem dM_bar_42 : decode cM_bar 42 = .ok (.ifCond .eq 19, 3) := by decide +kernel
theorem dM_bar_45 : decode cM_bar 45 = .ok (.aload_n 0, 1) := by decide +kernel
theorem dM_bar_46 : decode cM_bar 46 = .ok (.getfield 29, 3) := by decide +kernel
theorem dM_bar_49 : decode cM_bar 49 = .ok (.iload_n 2, 1) := by decide +kernel
theorem dM_bar_50 : decode cM_bar 50 = .ok (.iconst 1, 1) := by decide +kernel
theorem dM_bar_51 : decode cM_bar 51 = .ok (.isub, 1) := by decide +kernel
theorem dM_bar_52 : decode cM_bar 52 = .ok (.iaload, 1) := by decide +kernel
theorem dM_bar_53 : decode cM_bar 53 = .ok (.iload 4, 2) := by decide +kernel
theorem dM_bar_55 : decode cM_bar 55 = .ok (.invokestatic 42, 3) := by decide +kernel
theorem dM_bar_58 : decode cM_bar 58 = .ok (.ifCond .ne 7, 3) := by decide +kernel
theorem dM_bar_61 : decode cM_bar 61 = .ok (.iconst 1, 1) := by decide +kernel
theorem dM_bar_62 : decode cM_bar 62 = .ok (.goto 4, 3) := by decide +kernel
theorem dM_bar_65 : decode cM_bar 65 = .ok (.iconst 0, 1) := by decide +kernel
theorem dM_bar_66 : decode cM_bar 66 = .ok (.istore 5, 2) := by decide +kernel
theorem dM_bar_68 : decode cM_bar 68 = .ok (.iload 5, 2) := by decide +kernel
theorem dM_bar_70 : decode cM_bar 70 = .ok (.ifCond .eq 7, 3) := by decide +kernel
theorem dM_bar_73 : decode cM_bar 73 = .ok (.iconst 0, 1) := by decide +kernel
theorem dM_bar_74 : decode cM_bar 74 = .ok (.goto 5, 3) := by decide +kernel
theorem dM_bar_77 : decode cM_bar 77 = .ok (.bipush (-5), 2) := by decide +kernel
theorem dM_bar_79 : decode cM_bar 79 = .ok (.ireturn, 1) := by decide +kernel
theorem dM_read_0 : decode cM_read 0 = .ok (.aload_n 0, 1) := by decide +kernel
theorem dM_read_1 : decode cM_read 1 = .ok (.iload_n 1, 1) := by decide +kernel
theorem dM_read_2 : decode cM_read 2 = .ok (.iload_n 2, 1) := by decide +kernel
theorem dM_read_3 : decode cM_read 3 = .ok (.iconst 0, 1) := by decide +kernel
theorem dM_read_4 : decode cM_read 4 = .ok (.iconst 4, 1) := by decide +kernel
theorem dM_read_5 : decode cM_read 5 = .ok (.invokevirtual 88, 3) := by decide +kernel
theorem dM_read_8 : decode cM_read 8 = .ok (.istore_n 3, 1) := by decide +kernel
theorem dM_read_9 : decode cM_read 9 = .ok (.iload_n 3, 1) := by decide +kernel
theorem dM_read_10 : decode cM_read 10 = .ok (.ifCond .ge 8, 3) := by decide +kernel
theorem dM_read_13 : decode cM_read 13 = .ok (.iload_n 3, 1) := by decide +kernel
theorem dM_read_14 : decode cM_read 14 = .ok (.i2l, 1) := by decide +kernel
theorem dM_read_15 : decode cM_read 15 = .ok (.goto 14, 3) := by decide +kernel
theorem dM_read_18 : decode cM_read 18 = .ok (.aload_n 0, 1) := by decide +kernel
theorem dM_read_19 : decode cM_read 19 = .ok (.getfield 23, 3) := by decide +kernel
theorem dM_read_22 : decode cM_read 22 = .ok (.iload_n 2, 1) := by decide +kernel
theorem dM_read_23 : decode cM_read 23 = .ok (.iconst 1, 1) := by decide +kernel
theorem dM_read_24 : decode cM_read 24 = .ok (.isub, 1) := by decide +kernel
theorem dM_read_25 : decode cM_read 25 = .ok (.iaload, 1) := by decide +kernel
theorem dM_read_26 : decode cM_read 26 = .ok (.invokestatic 92, 3) := by decide +kernel
theorem dM_read_29 : decode cM_read 29 = .ok (.lreturn, 1) := by decide +kernel
theorem dM_encrypt_0 : decode cM_encrypt 0 = .ok (.aload_n 0, 1) := by decide +kernel
theorem dM_encrypt_1 : decode cM_encrypt 1 = .ok (.iload_n 1, 1) := by decide +kernel
theorem dM_encrypt_2 : decode cM_encrypt 2 = .ok (.iload_n 2, 1) := by decide +kernel
theorem dM_encrypt_3 : decode cM_encrypt 3 = .ok (.bipush 16, 2) := by decide +kernel
theorem dM_encrypt_5 : decode cM_encrypt 5 = .ok (.iconst 0, 1) := by decide +kernel
theorem dM_encrypt_6 : decode cM_encrypt 6 = .ok (.invokevirtual 88, 3) := by decide +kernel
theorem dM_encrypt_9 : decode cM_encrypt 9 = .ok (.istore 4, 2) := by decide +kernel
theorem dM_encrypt_11 : decode cM_encrypt 11 = .ok (.iload 4, 2) := by decide +kernel
theorem dM_encrypt_13 : decode cM_encrypt 13 = .ok (.ifCond .ge 9, 3) := by decide +kernel
theorem dM_encrypt_16 : decode cM_encrypt 16 = .ok (.iload 4, 2) := by decide +kernel
theorem dM_encrypt_18 : decode cM_encrypt 18 = .ok (.i2l, 1) := by decide +kernel
theorem dM_encrypt_19 : decode cM_encrypt 19 = .ok (.goto 19, 3) := by decide +kernel
theorem dM_encrypt_22 : decode cM_encrypt 22 = .ok (.aload_n 0, 1) := by decide +kernel
theorem dM_encrypt_23 : decode cM_encrypt 23 = .ok (.getfield 23, 3) := by decide +kernel
theorem dM_encrypt_26 : decode cM_encrypt 26 = .ok (.iload_n 2, 1) := by decide +kernel
theorem dM_encrypt_27 : decode cM_encrypt 27 = .ok (.iconst 1, 1) := by decide +kernel
theorem dM_encrypt_28 : decode cM_encrypt 28 = .ok (.isub, 1) := by decide +kernel
theorem dM_encrypt_29 : decode cM_encrypt 29 = .ok (.iaload, 1) := by decide +kernel
theorem dM_encrypt_30 : decode cM_encrypt 30 = .ok (.iload_n 3, 1) := by decide +kernel
theorem dM_encrypt_31 : decode cM_encrypt 31 = .ok (.iconst 1, 1) := by decide +kernel
theorem dM_encrypt_32 : decode cM_encrypt 32 = .ok (.invokestatic 96, 3) := by decide +kernel
theorem dM_encrypt_35 : decode cM_encrypt 35 = .ok (.invokestatic 92, 3) := by decide +kernel
theorem dM_encrypt_38 : decode cM_encrypt 38 = .ok (.lreturn, 1) := by decide +kernel
theorem dM_decrypt_0 : decode cM_decrypt 0 = .ok (.aload_n 0, 1) := by decide +kernel
theorem dM_decrypt_1 : decode cM_decrypt 1 = .ok (.iload_n 1, 1) := by decide +kernel
theorem dM_decrypt_2 : decode cM_decrypt 2 = .ok (.iload_n 2, 1) := by decide +kernel
theorem dM_decrypt_3 : decode cM_decrypt 3 = .ok (.bipush 32, 2) := by decide +kernel
theorem dM_decrypt_5 : decode cM_decrypt 5 = .ok (.iconst 0, 1) := by decide +kernel
theorem dM_decrypt_6 : decode cM_decrypt 6 = .ok (.invokevirtual 88, 3) := by decide +kernel
theorem dM_decrypt_9 : decode cM_decrypt 9 = .ok (.istore 4, 2) := by decide +kernel
theorem dM_decrypt_11 : decode cM_decrypt 11 = .ok (.iload 4, 2) := by decide +kernel
theorem dM_decrypt_13 : decode cM_decrypt 13 = .ok (.ifCond .ge 9, 3) := by decide +kernel
theorem dM_decrypt_16 : decode cM_decrypt 16 = .ok (.iload 4, 2) := by decide +kernel
theorem dM_decrypt_18 : decode cM_decrypt 18 = .ok (.i2l, 1) := by decide +kernel
theorem dM_decrypt_19 : decode cM_decrypt 19 = .ok (.goto 19, 3) := by decide +kernel
theorem dM_decrypt_22 : decode cM_decrypt 22 = .ok (.aload_n 0, 1) := by decide +kernel
theorem dM_decrypt_23 : decode cM_decrypt 23 = .ok (.getfield 23, 3) := by decide +kernel
theorem dM_decrypt_26 : decode cM_decrypt 26 = .ok (.iload_n 2, 1) := by decide +kernel
theorem dM_decrypt_27 : decode cM_decrypt 27 = .ok (.iconst 1, 1) := by decide +kernel
theorem dM_decrypt_28 : decode cM_decrypt 28 = .ok (.isub, 1) := by decide +kernel
theorem dM_decrypt_29 : decode cM_decrypt 29 = .ok (.iaload, 1) := by decide +kernel
theorem dM_decrypt_30 : decode cM_decrypt 30 = .ok (.iload_n 3, 1) := by decide +kernel
theorem dM_decrypt_31 : decode cM_decrypt 31 = .ok (.iconst 0, 1) := by decide +kernel
theorem dM_decrypt_32 : decode cM_decrypt 32 = .ok (.invokestatic 96, 3) := by decide +kernel
theorem dM_decrypt_35 : decode cM_decrypt 35 = .ok (.invokestatic 92, 3) := by decide +kernel
theorem dM_decrypt_38 : decode cM_decrypt 38 = .ok (.lreturn, 1) := by decide +kernel
theorem dM_sign_0 : decode cM_sign 0 = .ok (.aload_n 0, 1) := by decide +kernel
theorem dM_sign_1 : decode cM_sign 1 = .ok (.iload_n 1, 1) := by decide +kernel
theorem dM_sign_2 : decode cM_sign 2 = .ok (.iload_n 2, 1) := by decide +kernel
theorem dM_sign_3 : decode cM_sign 3 = .ok (.bipush 64, 2) := by decide +kernel
theorem dM_sign_5 : decode cM_sign 5 = .ok (.iconst 0, 1) := by decide +kernel
theorem dM_sign_6 : decode cM_sign 6 = .ok (.invokevirtual 88, 3) := by decide +kernel
theorem dM_sign_9 : decode cM_sign 9 = .ok (.istore 4, 2) := by decide +kernel
theorem dM_sign_11 : decode cM_sign 11 = .ok (.iload 4, 2) := by decide +kernel
theorem dM_sign_13 : decode cM_sign 13 = .ok (.ifCond .ge 9, 3) := by decide +kernel
theorem dM_sign_16 : decode cM_sign 16 = .ok (.iload 4, 2) := by decide +kernel
theorem dM_sign_18 : decode cM_sign 18 = .ok (.i2l, 1) := by decide +kernel
theorem dM_sign_19 : decode cM_sign 19 = .ok (.goto 18, 3) := by decide +kernel
theorem dM_sign_22 : decode cM_sign 22 = .ok (.aload_n 0, 1) := by decide +kernel
theorem dM_sign_23 : decode cM_sign 23 = .ok (.getfield 23, 3) := by decide +kernel
theorem dM_sign_26 : decode cM_sign 26 = .ok (.iload_n 2, 1) := by decide +kernel
theorem dM_sign_27 : decode cM_sign 27 = .ok (.iconst 1, 1) := by decide +kernel
theorem dM_sign_28 : decode cM_sign 28 = .ok (.isub, 1) := by decide +kernel
theorem dM_sign_29 : decode cM_sign 29 = .ok (.iaload, 1) := by decide +kernel
theorem dM_sign_30 : decode cM_sign 30 = .ok (.iload_n 3, 1) := by decide +kernel
theorem dM_sign_31 : decode cM_sign 31 = .ok (.invokestatic 81, 3) := by decide +kernel
theorem dM_sign_34 : decode cM_sign 34 = .ok (.invokestatic 92, 3) := by decide +kernel
theorem dM_sign_37 : decode cM_sign 37 = .ok (.lreturn, 1) := by decide +kernel
theorem dM_wrap_0 : decode cM_wrap 0 = .ok (.aload_n 0, 1) := by decide +kernel
theorem dM_wrap_1 : decode cM_wrap 1 = .ok (.iload_n 1, 1) := by decide +kernel
theorem dM_wrap_2 : decode cM_wrap 2 = .ok (.invokevirtual 67, 3) := by decide +kernel
theorem dM_wrap_5 : decode cM_wrap 5 = .ok (.ifCond .eq 7, 3) := by decide +kernel
theorem dM_wrap_8 : decode cM_wrap 8 = .ok (.ldc2_w 99, 3) := by decide +kernel
theorem dM_wrap_11 : decode cM_wrap 11 = .ok (.lreturn, 1) := by decide +kernel
theorem dM_wrap_12 : decode cM_wrap 12 = .ok (.aload_n 0, 1) := by decide +kernel
theorem dM_wrap_13 : decode cM_wrap 13 = .ok (.iload_n 2, 1) := by decide +kernel
theorem dM_wrap_14 : decode cM_wrap 14 = .ok (.invokevirtual 85, 3) := by decide +kernel
theorem dM_wrap_17 : decode cM_wrap 17 = .ok (.ifCond .ne 11, 3) := by decide +kernel
theorem dM_wrap_20 : decode cM_wrap 20 = .ok (.aload_n 0, 1) := by decide +kernel
theorem dM_wrap_21 : decode cM_wrap 21 = .ok (.iload_n 3, 1) := by decide +kernel
theorem dM_wrap_22 : decode cM_wrap 22 = .ok (.invokevirtual 85, 3) := by decide +kernel
theorem dM_wrap_25 : decode cM_wrap 25 = .ok (.ifCond .eq 7, 3) := by decide +kernel
theorem dM_wrap_28 : decode cM_wrap 28 = .ok (.ldc2_w 101, 3) := by decide +kernel
theorem dM_wrap_31 : decode cM_wrap 31 = .ok (.lreturn, 1) := by decide +kernel
theorem dM_wrap_32 : decode cM_wrap 32 = .ok (.aload_n 0, 1) := by decide +kernel
theorem dM_wrap_33 : decode cM_wrap 33 = .ok (.getfield 29, 3) := by decide +kernel
theorem dM_wrap_36 : decode cM_wrap 36 = .ok (.iload_n 2, 1) := by decide +kernel
theorem dM_wrap_37 : decode cM_wrap 37 = .ok (.iconst 1, 1) := by decide +kernel
theorem dM_wrap_38 : decode cM_wrap 38 = .ok (.isub, 1) := by decide +kernel
theorem dM_wrap_39 : decode cM_wrap 39 = .ok (.iaload, 1) := by decide +kernel
theorem dM_wrap_40 : decode cM_wrap 40 = .ok (.sipush 128, 3) := by decide +kernel
theorem dM_wrap_43 : decode cM_wrap 43 = .ok (.invokestatic 42, 3) := by decide +kernel
theorem dM_wrap_46 : decode cM_wrap 46 = .ok (.ifCond .eq 36, 3) := by decide +kernel
theorem dM_wrap_49 : decode cM_wrap 49 = .ok (.aload_n 0, 1) := by decide +kernel
theorem dM_wrap_50 : decode cM_wrap 50 = .ok (.getfield 29, 3) := by decide +kernel
theorem dM_wrap_53 : decode cM_wrap 53 = .ok (.iload_n 2, 1) := by decide +kernel
theorem dM_wrap_54 : decode cM_wrap 54 = .ok (.iconst 1, 1) := by decide +kernel
theorem dM_wrap_55 : decode cM_wrap 55 = .ok (.isub, 1) := by decide +kernel
theorem dM_wrap_56 : decode cM_wrap 56 = .ok (.iaload, 1) := by decide +kernel
theorem dM_wrap_57 : decode cM_wrap 57 = .ok (.sipush 512, 3) := by decide +kernel
theorem dM_wrap_60 : decode cM_wrap 60 = .ok (.invokestatic 42, 3) := by decide +kernel
theorem dM_wrap_63 : decode cM_wrap 63 = .ok (.ifCond .eq 19, 3) := by decide +kernel
theorem dM_wrap_66 : decode cM_wrap 66 = .ok (.aload_n 0, 1) := by decide +kernel
theorem dM_wrap_67 : decode cM_wrap 67 = .ok (.getfield 29, 3) := by decide +kernel
theorem dM_wrap_70 : decode cM_wrap 70 = .ok (.iload_n 3, 1) := by decide +kernel
theorem dM_wrap_71 : decode cM_wrap 71 = .ok (.iconst 1, 1) := by decide +kernel
theorem dM_wrap_72 : decode cM_wrap 72 = .ok (.isub, 1) := by decide +kernel
theorem dM_wrap_73 : decode cM_wrap 73 = .ok (.iaload, 1) := by decide +kernel
theorem dM_wrap_74 : decode cM_wrap 74 = .ok (.bipush 8, 2) := by decide +kernel
theorem dM_wrap_76 : decode cM_wrap 76 = .ok (.invokestatic 42, 3) := by decide +kernel
theorem dM_wrap_79 : decode cM_wrap 79 = .ok (.ifCond .ne 7, 3) := by decide +kernel
theorem dM_wrap_82 : decode cM_wrap 82 = .ok (.ldc2_w 103, 3) := by decide +kernel
theorem dM_wrap_85 : decode cM_wrap 85 = .ok (.lreturn, 1) := by decide +kernel
theorem dM_wrap_86 : decode cM_wrap 86 = .ok (.aload_n 0, 1) := by decide +kernel
theorem dM_wrap_87 : decode cM_wrap 87 = .ok (.getfield 23, 3) := by decide +kernel
theorem dM_wrap_90 : decode cM_wrap 90 = .ok (.iload_n 2, 1) := by decide +kernel
theorem dM_wrap_91 : decode cM_wrap 91 = .ok (.iconst 1, 1) := by decide +kernel
theorem dM_wrap_92 : decode cM_wrap 92 = .ok (.isub, 1) := by decide +kernel
theorem dM_wrap_93 : decode cM_wrap 93 = .ok (.iaload, 1) := by decide +kernel
theorem dM_wrap_94 : decode cM_wrap 94 = .ok (.istore 4, 2) := by decide +kernel
theorem dM_wrap_96 : decode cM_wrap 96 = .ok (.aload_n 0, 1) := by decide +kernel
theorem dM_wrap_97 : decode cM_wrap 97 = .ok (.getfield 23, 3) := by decide +kernel
theorem dM_wrap_100 : decode cM_wrap 100 = .ok (.iload_n 3, 1) := by decide +kernel
theorem dM_wrap_101 : decode cM_wrap 101 = .ok (.iconst 1, 1) := by decide +kernel
theorem dM_wrap_102 : decode cM_wrap 102 = .ok (.isub, 1) := by decide +kernel
theorem dM_wrap_103 : decode cM_wrap 103 = .ok (.iaload, 1) := by decide +kernel
theorem dM_wrap_104 : decode cM_wrap 104 = .ok (.istore 5, 2) := by decide +kernel
theorem dM_wrap_106 : decode cM_wrap 106 = .ok (.iload 4, 2) := by decide +kernel
theorem dM_wrap_108 : decode cM_wrap 108 = .ok (.iload 5, 2) := by decide +kernel
theorem dM_wrap_110 : decode cM_wrap 110 = .ok (.invokestatic 81, 3) := by decide +kernel
theorem dM_wrap_113 : decode cM_wrap 113 = .ok (.ldc 105, 2) := by decide +kernel
theorem dM_wrap_115 : decode cM_wrap 115 = .ok (.iand, 1) := by decide +kernel
theorem dM_wrap_116 : decode cM_wrap 116 = .ok (.i2l, 1) := by decide +kernel
theorem dM_wrap_117 : decode cM_wrap 117 = .ok (.lstore 6, 2) := by decide +kernel
theorem dM_wrap_119 : decode cM_wrap 119 = .ok (.lload 6, 2) := by decide +kernel
theorem dM_wrap_121 : decode cM_wrap 121 = .ok (.ldc2_w 40, 3) := by decide +kernel
theorem dM_wrap_124 : decode cM_wrap 124 = .ok (.lmul, 1) := by decide +kernel
theorem dM_wrap_125 : decode cM_wrap 125 = .ok (.iload 4, 2) := by decide +kernel
theorem dM_wrap_127 : decode cM_wrap 127 = .ok (.iload 5, 2) := by decide +kernel
theorem dM_wrap_129 : decode cM_wrap 129 = .ok (.iconst 1, 1) := by decide +kernel
theorem dM_wrap_130 : decode cM_wrap 130 = .ok (.invokestatic 96, 3) := by decide +kernel
theorem dM_wrap_133 : decode cM_wrap 133 = .ok (.invokestatic 92, 3) := by decide +kernel
theorem dM_wrap_136 : decode cM_wrap 136 = .ok (.ladd, 1) := by decide +kernel
theorem dM_wrap_137 : decode cM_wrap 137 = .ok (.lreturn, 1) := by decide +kernel
theorem dM_unwrap_0 : decode cM_unwrap 0 = .ok (.aload_n 0, 1) := by decide +kernel
theorem dM_unwrap_1 : decode cM_unwrap 1 = .ok (.iload_n 1, 1) := by decide +kernel
theorem dM_unwrap_2 : decode cM_unwrap 2 = .ok (.invokevirtual 67, 3) := by decide +kernel
theorem dM_unwrap_5 : decode cM_unwrap 5 = .ok (.ifCond .eq 5, 3) := by decide +kernel
theorem dM_unwrap_8 : decode cM_unwrap 8 = .ok (.iconst (-1), 1) := by decide +kernel
theorem dM_unwrap_9 : decode cM_unwrap 9 = .ok (.ireturn, 1) := by decide +kernel
theorem dM_unwrap_10 : decode cM_unwrap 10 = .ok (.aload_n 0, 1) := by decide +kernel
theorem dM_unwrap_11 : decode cM_unwrap 11 = .ok (.iload_n 2, 1) := by decide +kernel
theorem dM_unwrap_12 : decode cM_unwrap 12 = .ok (.invokevirtual 85, 3) := by decide +kernel
theorem dM_unwrap_15 : decode cM_unwrap 15 = .ok (.ifCond .eq 6, 3) := by decide +kernel
theorem dM_unwrap_18 : decode cM_unwrap 18 = .ok (.bipush (-2), 2) := by decide +kernel
theorem dM_unwrap_20 : decode cM_unwrap 20 = .ok (.ireturn, 1) := by decide +kernel
theorem dM_unwrap_21 : decode cM_unwrap 21 = .ok (.aload_n 0, 1) := by decide +kernel
theorem dM_unwrap_22 : decode cM_unwrap 22 = .ok (.iload_n 1, 1) := by decide +kernel
theorem dM_unwrap_23 : decode cM_unwrap 23 = .ok (.iload 5, 2) := by decide +kernel
theorem dM_unwrap_25 : decode cM_unwrap 25 = .ok (.iload 5, 2) := by decide +kernel
theorem dM_unwrap_27 : decode cM_unwrap 27 = .ok (.sipush 128, 3) := by decide +kernel
theorem dM_unwrap_30 : decode cM_unwrap 30 = .ok (.invokestatic 42, 3) := by decide +kernel
theorem dM_unwrap_33 : decode cM_unwrap 33 = .ok (.ifCond .ne 20, 3) := by decide +kernel
theorem dM_unwrap_36 : decode cM_unwrap 36 = .ok (.aload_n 0, 1) := by decide +kernel
theorem dM_unwrap_37 : decode cM_unwrap 37 = .ok (.getfield 29, 3) := by decide +kernel
theorem dM_unwrap_40 : decode cM_unwrap 40 = .ok (.iload_n 2, 1) := by decide +kernel
theorem dM_unwrap_41 : decode cM_unwrap 41 = .ok (.iconst 1, 1) := by decide +kernel
theorem dM_unwrap_42 : decode cM_unwrap 42 = .ok (.isub, 1) := by decide +kernel
theorem dM_unwrap_43 : decode cM_unwrap 43 = .ok (.iaload, 1) := by decide +kernel
theorem dM_unwrap_44 : decode cM_unwrap 44 = .ok (.sipush 256, 3) := by decide +kernel
theorem dM_unwrap_47 : decode cM_unwrap 47 = .ok (.invokestatic 42, 3) := by decide +kernel
theorem dM_unwrap_50 : decode cM_unwrap 50 = .ok (.ifCond .ne 7, 3) := by decide +kernel
theorem dM_unwrap_53 : decode cM_unwrap 53 = .ok (.iconst 1, 1) := by decide +kernel
theorem dM_unwrap_54 : decode cM_unwrap 54 = .ok (.goto 4, 3) := by decide +kernel
theorem dM_unwrap_57 : decode cM_unwrap 57 = .ok (.iconst 0, 1) := by decide +kernel
theorem dM_unwrap_58 : decode cM_unwrap 58 = .ok (.invokevirtual 70, 3) := by decide +kernel
theorem dM_unwrap_61 : decode cM_unwrap 61 = .ok (.istore 6, 2) := by decide +kernel
theorem dM_unwrap_63 : decode cM_unwrap 63 = .ok (.iload 6, 2) := by decide +kernel
theorem dM_unwrap_65 : decode cM_unwrap 65 = .ok (.ifCond .ge 6, 3) := by decide +kernel
theorem dM_unwrap_68 : decode cM_unwrap 68 = .ok (.iload 6, 2) := by decide +kernel
theorem dM_unwrap_70 : decode cM_unwrap 70 = .ok (.ireturn, 1) := by decide +kernel
theorem dM_unwrap_71 : decode cM_unwrap 71 = .ok (.aload_n 0, 1) := by decide +kernel
theorem dM_unwrap_72 : decode cM_unwrap 72 = .ok (.getfield 23, 3) := by decide +kernel
theorem dM_unwrap_75 : decode cM_unwrap 75 = .ok (.iload_n 2, 1) := by decide +kernel
theorem dM_unwrap_76 : decode cM_unwrap 76 = .ok (.iconst 1, 1) := by decide +kernel
theorem dM_unwrap_77 : decode cM_unwrap 77 = .ok (.isub, 1) := by decide +kernel
theorem dM_unwrap_78 : decode cM_unwrap 78 = .ok (.iaload, 1) := by decide +kernel
theorem dM_unwrap_79 : decode cM_unwrap 79 = .ok (.istore 7, 2) := by decide +kernel
theorem dM_unwrap_81 : decode cM_unwrap 81 = .ok (.iload 7, 2) := by decide +kernel
theorem dM_unwrap_83 : decode cM_unwrap 83 = .ok (.lload_n 3, 1) := by decide +kernel
theorem dM_unwrap_84 : decode cM_unwrap 84 = .ok (.l2i, 1) := by decide +kernel
theorem dM_unwrap_85 : decode cM_unwrap 85 = .ok (.iconst 0, 1) := by decide +kernel
theorem dM_unwrap_86 : decode cM_unwrap 86 = .ok (.invokestatic 96, 3) := by decide +kernel
theorem dM_unwrap_89 : decode cM_unwrap 89 = .ok (.istore 8, 2) := by decide +kernel
theorem dM_unwrap_91 : decode cM_unwrap 91 = .ok (.iload 7, 2) := by decide +kernel
theorem dM_unwrap_93 : decode cM_unwrap 93 = .ok (.iload 8, 2) := by decide +kernel
theorem dM_unwrap_95 : decode cM_unwrap 95 = .ok (.invokestatic 81, 3) := by decide +kernel
theorem dM_unwrap_98 : decode cM_unwrap 98 = .ok (.ldc 105, 2) := by decide +kernel
theorem dM_unwrap_100 : decode cM_unwrap 100 = .ok (.iand, 1) := by decide +kernel
theorem dM_unwrap_101 : decode cM_unwrap 101 = .ok (.i2l, 1) := by decide +kernel
theorem dM_unwrap_102 : decode cM_unwrap 102 = .ok (.lstore 9, 2) := by decide +kernel
theorem dM_unwrap_104 : decode cM_unwrap 104 = .ok (.lload_n 3, 1) := by decide +kernel
theorem dM_unwrap_105 : decode cM_unwrap 105 = .ok (.bipush 32, 2) := by decide +kernel
theorem dM_unwrap_107 : decode cM_unwrap 107 = .ok (.lushr, 1) := by decide +kernel
theorem dM_unwrap_108 : decode cM_unwrap 108 = .ok (.lload 9, 2) := by decide +kernel
theorem dM_unwrap_110 : decode cM_unwrap 110 = .ok (.lcmp, 1) := by decide +kernel
theorem dM_unwrap_111 : decode cM_unwrap 111 = .ok (.ifCond .eq 8, 3) := by decide +kernel
theorem dM_unwrap_114 : decode cM_unwrap 114 = .ok (.bipush (-7), 2) := by decide +kernel
theorem dM_unwrap_116 : decode cM_unwrap 116 = .ok (.goto 12, 3) := by decide +kernel
theorem dM_unwrap_119 : decode cM_unwrap 119 = .ok (.aload_n 0, 1) := by decide +kernel
theorem dM_unwrap_120 : decode cM_unwrap 120 = .ok (.iload_n 1, 1) := by decide +kernel
theorem dM_unwrap_121 : decode cM_unwrap 121 = .ok (.iload 5, 2) := by decide +kernel
theorem dM_unwrap_123 : decode cM_unwrap 123 = .ok (.iload 8, 2) := by decide +kernel
theorem dM_unwrap_125 : decode cM_unwrap 125 = .ok (.invokevirtual 74, 3) := by decide +kernel
theorem dM_unwrap_128 : decode cM_unwrap 128 = .ok (.ireturn, 1) := by decide +kernel
theorem dM_find_0 : decode cM_find 0 = .ok (.aload_n 0, 1) := by decide +kernel
theorem dM_find_1 : decode cM_find 1 = .ok (.iload_n 1, 1) := by decide +kernel
theorem dM_find_2 : decode cM_find 2 = .ok (.invokevirtual 67, 3) := by decide +kernel
theorem dM_find_5 : decode cM_find 5 = .ok (.ifCond .eq 5, 3) := by decide +kernel
theorem dM_find_8 : decode cM_find 8 = .ok (.iconst (-1), 1) := by decide +kernel
theorem dM_find_9 : decode cM_find 9 = .ok (.ireturn, 1) := by decide +kernel
theorem dM_find_10 : decode cM_find 10 = .ok (.iconst 0, 1) := by decide +kernel
theorem dM_find_11 : decode cM_find 11 = .ok (.istore_n 3, 1) := by decide +kernel
theorem dM_find_12 : decode cM_find 12 = .ok (.iconst 0, 1) := by decide +kernel
theorem dM_find_13 : decode cM_find 13 = .ok (.istore 4, 2) := by decide +kernel
theorem dM_find_15 : decode cM_find 15 = .ok (.iload 4, 2) := by decide +kernel
theorem dM_find_17 : decode cM_find 17 = .ok (.aload_n 0, 1) := by decide +kernel
theorem dM_find_18 : decode cM_find 18 = .ok (.getfield 50, 3) := by decide +kernel
theorem dM_find_21 : decode cM_find 21 = .ok (.if_icmp .ge 31, 3) := by decide +kernel
theorem dM_find_24 : decode cM_find 24 = .ok (.aload_n 0, 1) := by decide +kernel
theorem dM_find_25 : decode cM_find 25 = .ok (.iload 4, 2) := by decide +kernel
theorem dM_find_27 : decode cM_find 27 = .ok (.invokevirtual 53, 3) := by decide +kernel
theorem dM_find_30 : decode cM_find 30 = .ok (.ifCond .eq 16, 3) := by decide +kernel
end
section
theorem dM_find_33 : decode cM_find 33 = .ok (.iload_n 3, 1) := by decide +kernel
theorem dM_find_34 : decode cM_find 34 = .ok (.iload_n 2, 1) := by decide +kernel
theorem dM_find_35 : decode cM_find 35 = .ok (.if_icmp .ne 8, 3) := by decide +kernel
theorem dM_find_38 : decode cM_find 38 = .ok (.iload 4, 2) := by decide +kernel
theorem dM_find_40 : decode cM_find 40 = .ok (.iconst 1, 1) := by decide +kernel
theorem dM_find_41 : decode cM_find 41 = .ok (.iadd, 1) := by decide +kernel
theorem dM_find_42 : decode cM_find 42 = .ok (.ireturn, 1) := by decide +kernel
theorem dM_find_43 : decode cM_find 43 = .ok (.iinc 3 1, 3) := by decide +kernel
theorem dM_find_46 : decode cM_find 46 = .ok (.iinc 4 1, 3) := by decide +kernel
theorem dM_find_49 : decode cM_find 49 = .ok (.goto (-34), 3) := by decide +kernel
theorem dM_find_52 : decode cM_find 52 = .ok (.iconst 0, 1) := by decide +kernel
theorem dM_find_53 : decode cM_find 53 = .ok (.ireturn, 1) := by decide +kernel
theorem dM_status_0 : decode cM_status 0 = .ok (.iload_n 1, 1) := by decide +kernel
theorem dM_status_1 : decode cM_status 1 = .ok (.tableswitch 118 0 5 #[39, 44, 99, 99, 108, 113], 39) := by decide +kernel
theorem dM_status_40 : decode cM_status 40 = .ok (.aload_n 0, 1) := by decide +kernel
theorem dM_status_41 : decode cM_status 41 = .ok (.getfield 46, 3) := by decide +kernel
theorem dM_status_44 : decode cM_status 44 = .ok (.ireturn, 1) := by decide +kernel
theorem dM_status_45 : decode cM_status 45 = .ok (.iconst 0, 1) := by decide +kernel
theorem dM_status_46 : decode cM_status 46 = .ok (.istore_n 2, 1) := by decide +kernel
theorem dM_status_47 : decode cM_status 47 = .ok (.iconst 0, 1) := by decide +kernel
theorem dM_status_48 : decode cM_status 48 = .ok (.istore_n 3, 1) := by decide +kernel
theorem dM_status_49 : decode cM_status 49 = .ok (.iload_n 3, 1) := by decide +kernel
theorem dM_status_50 : decode cM_status 50 = .ok (.iconst 3, 1) := by decide +kernel
theorem dM_status_51 : decode cM_status 51 = .ok (.if_icmp .ge 47, 3) := by decide +kernel
theorem dM_status_54 : decode cM_status 54 = .ok (.iload_n 2, 1) := by decide +kernel
theorem dM_status_55 : decode cM_status 55 = .ok (.aload_n 0, 1) := by decide +kernel
theorem dM_status_56 : decode cM_status 56 = .ok (.getfield 7, 3) := by decide +kernel
theorem dM_status_59 : decode cM_status 59 = .ok (.iload_n 3, 1) := by decide +kernel
theorem dM_status_60 : decode cM_status 60 = .ok (.iaload, 1) := by decide +kernel
theorem dM_status_61 : decode cM_status 61 = .ok (.ifCond .le 9, 3) := by decide +kernel
theorem dM_status_64 : decode cM_status 64 = .ok (.iconst 1, 1) := by decide +kernel
theorem dM_status_65 : decode cM_status 65 = .ok (.iload_n 3, 1) := by decide +kernel
theorem dM_status_66 : decode cM_status 66 = .ok (.ishl, 1) := by decide +kernel
theorem dM_status_67 : decode cM_status 67 = .ok (.goto 4, 3) := by decide +kernel
theorem dM_status_70 : decode cM_status 70 = .ok (.iconst 0, 1) := by decide +kernel
theorem dM_status_71 : decode cM_status 71 = .ok (.iadd, 1) := by decide +kernel
theorem dM_status_72 : decode cM_status 72 = .ok (.aload_n 0, 1) := by decide +kernel
theorem dM_status_73 : decode cM_status 73 = .ok (.getfield 7, 3) := by decide +kernel
theorem dM_status_76 : decode cM_status 76 = .ok (.iload_n 3, 1) := by decide +kernel
theorem dM_status_77 : decode cM_status 77 = .ok (.iaload, 1) := by decide +kernel
theorem dM_status_78 : decode cM_status 78 = .ok (.iconst 2, 1) := by decide +kernel
theorem dM_status_79 : decode cM_status 79 = .ok (.if_icmp .ne 10, 3) := by decide +kernel
theorem dM_status_82 : decode cM_status 82 = .ok (.bipush 8, 2) := by decide +kernel
theorem dM_status_84 : decode cM_status 84 = .ok (.iload_n 3, 1) := by decide +kernel
theorem dM_status_85 : decode cM_status 85 = .ok (.ishl, 1) := by decide +kernel
theorem dM_status_86 : decode cM_status 86 = .ok (.goto 4, 3) := by decide +kernel
theorem dM_status_89 : decode cM_status 89 = .ok (.iconst 0, 1) := by decide +kernel
theorem dM_status_90 : decode cM_status 90 = .ok (.iadd, 1) := by decide +kernel
theorem dM_status_91 : decode cM_status 91 = .ok (.istore_n 2, 1) := by decide +kernel
theorem dM_status_92 : decode cM_status 92 = .ok (.iinc 3 1, 3) := by decide +kernel
theorem dM_status_95 : decode cM_status 95 = .ok (.goto (-46), 3) := by decide +kernel
theorem dM_status_98 : decode cM_status 98 = .ok (.iload_n 2, 1) := by decide +kernel
theorem dM_status_99 : decode cM_status 99 = .ok (.ireturn, 1) := by decide +kernel
theorem dM_status_100 : decode cM_status 100 = .ok (.aload_n 0, 1) := by decide +kernel
theorem dM_status_101 : decode cM_status 101 = .ok (.getfield 16, 3) := by decide +kernel
theorem dM_status_104 : decode cM_status 104 = .ok (.iload_n 1, 1) := by decide +kernel
theorem dM_status_105 : decode cM_status 105 = .ok (.iconst 1, 1) := by decide +kernel
theorem dM_status_106 : decode cM_status 106 = .ok (.isub, 1) := by decide +kernel
theorem dM_status_107 : decode cM_status 107 = .ok (.iaload, 1) := by decide +kernel
theorem dM_status_108 : decode cM_status 108 = .ok (.ireturn, 1) := by decide +kernel
theorem dM_status_109 : decode cM_status 109 = .ok (.aload_n 0, 1) := by decide +kernel
theorem dM_status_110 : decode cM_status 110 = .ok (.invokevirtual 63, 3) := by decide +kernel
theorem dM_status_113 : decode cM_status 113 = .ok (.ireturn, 1) := by decide +kernel
theorem dM_status_114 : decode cM_status 114 = .ok (.aload_n 0, 1) := by decide +kernel
theorem dM_status_115 : decode cM_status 115 = .ok (.getfield 50, 3) := by decide +kernel
theorem dM_status_118 : decode cM_status 118 = .ok (.ireturn, 1) := by decide +kernel
theorem dM_status_119 : decode cM_status 119 = .ok (.iconst (-1), 1) := by decide +kernel
theorem dM_status_120 : decode cM_status 120 = .ok (.ireturn, 1) := by decide +kernel
theorem dL_cell_0 : decode cL_cell 0 = .ok (.iload_n 1, 1) := by decide +kernel
theorem dL_cell_1 : decode cL_cell 1 = .ok (.aload_n 0, 1) := by decide +kernel
theorem dL_cell_2 : decode cL_cell 2 = .ok (.arraylength, 1) := by decide +kernel
theorem dL_cell_3 : decode cL_cell 3 = .ok (.if_icmp .ge 9, 3) := by decide +kernel
theorem dL_cell_6 : decode cL_cell 6 = .ok (.aload_n 0, 1) := by decide +kernel
theorem dL_cell_7 : decode cL_cell 7 = .ok (.iload_n 1, 1) := by decide +kernel
theorem dL_cell_8 : decode cL_cell 8 = .ok (.iaload, 1) := by decide +kernel
theorem dL_cell_9 : decode cL_cell 9 = .ok (.goto 4, 3) := by decide +kernel
theorem dL_cell_12 : decode cL_cell 12 = .ok (.iconst 0, 1) := by decide +kernel
theorem dL_cell_13 : decode cL_cell 13 = .ok (.ireturn, 1) := by decide +kernel
theorem dL_law_0 : decode code 0 = .ok (.new 7, 3) := by decide +kernel
theorem dL_law_3 : decode code 3 = .ok (.dup, 1) := by decide +kernel
theorem dL_law_4 : decode code 4 = .ok (.aload_n 0, 1) := by decide +kernel
theorem dL_law_5 : decode code 5 = .ok (.iconst 0, 1) := by decide +kernel
theorem dL_law_6 : decode code 6 = .ok (.invokestatic 9, 3) := by decide +kernel
theorem dL_law_9 : decode code 9 = .ok (.aload_n 0, 1) := by decide +kernel
theorem dL_law_10 : decode code 10 = .ok (.iconst 1, 1) := by decide +kernel
theorem dL_law_11 : decode code 11 = .ok (.invokestatic 9, 3) := by decide +kernel
theorem dL_law_14 : decode code 14 = .ok (.invokespecial 15, 3) := by decide +kernel
theorem dL_law_17 : decode code 17 = .ok (.astore_n 1, 1) := by decide +kernel
theorem dL_law_18 : decode code 18 = .ok (.new 18, 3) := by decide +kernel
theorem dL_law_21 : decode code 21 = .ok (.dup, 1) := by decide +kernel
theorem dL_law_22 : decode code 22 = .ok (.aload_n 0, 1) := by decide +kernel
theorem dL_law_23 : decode code 23 = .ok (.iconst 0, 1) := by decide +kernel
theorem dL_law_24 : decode code 24 = .ok (.invokestatic 9, 3) := by decide +kernel
theorem dL_law_27 : decode code 27 = .ok (.aload_n 0, 1) := by decide +kernel
theorem dL_law_28 : decode code 28 = .ok (.iconst 1, 1) := by decide +kernel
theorem dL_law_29 : decode code 29 = .ok (.invokestatic 9, 3) := by decide +kernel
theorem dL_law_32 : decode code 32 = .ok (.invokespecial 20, 3) := by decide +kernel
theorem dL_law_35 : decode code 35 = .ok (.astore_n 2, 1) := by decide +kernel
theorem dL_law_36 : decode code 36 = .ok (.iconst 2, 1) := by decide +kernel
theorem dL_law_37 : decode code 37 = .ok (.istore_n 3, 1) := by decide +kernel
theorem dL_law_38 : decode code 38 = .ok (.iload_n 3, 1) := by decide +kernel
theorem dL_law_39 : decode code 39 = .ok (.aload_n 0, 1) := by decide +kernel
theorem dL_law_40 : decode code 40 = .ok (.arraylength, 1) := by decide +kernel
theorem dL_law_41 : decode code 41 = .ok (.bipush 6, 2) := by decide +kernel
theorem dL_law_43 : decode code 43 = .ok (.isub, 1) := by decide +kernel
theorem dL_law_44 : decode code 44 = .ok (.if_icmp .gt 850, 3) := by decide +kernel
theorem dL_law_47 : decode code 47 = .ok (.aload_n 0, 1) := by decide +kernel
theorem dL_law_48 : decode code 48 = .ok (.iload_n 3, 1) := by decide +kernel
theorem dL_law_49 : decode code 49 = .ok (.iaload, 1) := by decide +kernel
theorem dL_law_50 : decode code 50 = .ok (.bipush 31, 2) := by decide +kernel
theorem dL_law_52 : decode code 52 = .ok (.iand, 1) := by decide +kernel
theorem dL_law_53 : decode code 53 = .ok (.tableswitch 835 0 18 #[91, 130, 153, 212, 235, 268, 311, 344, 377, 410, 453, 486, 520, 564, 608, 652, 696, 779, 812], 91) := by decide +kernel
theorem dL_law_144 : decode code 144 = .ok (.aload_n 1, 1) := by decide +kernel
theorem dL_law_145 : decode code 145 = .ok (.aload_n 0, 1) := by decide +kernel
theorem dL_law_146 : decode code 146 = .ok (.iload_n 3, 1) := by decide +kernel
theorem dL_law_147 : decode code 147 = .ok (.iconst 1, 1) := by decide +kernel
theorem dL_law_148 : decode code 148 = .ok (.iadd, 1) := by decide +kernel
theorem dL_law_149 : decode code 149 = .ok (.iaload, 1) := by decide +kernel
theorem dL_law_150 : decode code 150 = .ok (.ifCond .eq 7, 3) := by decide +kernel
theorem dL_law_153 : decode code 153 = .ok (.iconst 1, 1) := by decide +kernel
theorem dL_law_154 : decode code 154 = .ok (.goto 4, 3) := by decide +kernel
theorem dL_law_157 : decode code 157 = .ok (.iconst 0, 1) := by decide +kernel
theorem dL_law_158 : decode code 158 = .ok (.invokevirtual 21, 3) := by decide +kernel
theorem dL_law_161 : decode code 161 = .ok (.aload_n 2, 1) := by decide +kernel
theorem dL_law_162 : decode code 162 = .ok (.aload_n 0, 1) := by decide +kernel
theorem dL_law_163 : decode code 163 = .ok (.iload_n 3, 1) := by decide +kernel
theorem dL_law_164 : decode code 164 = .ok (.iconst 1, 1) := by decide +kernel
theorem dL_law_165 : decode code 165 = .ok (.iadd, 1) := by decide +kernel
theorem dL_law_166 : decode code 166 = .ok (.iaload, 1) := by decide +kernel
theorem dL_law_167 : decode code 167 = .ok (.ifCond .eq 7, 3) := by decide +kernel
theorem dL_law_170 : decode code 170 = .ok (.iconst 1, 1) := by decide +kernel
theorem dL_law_171 : decode code 171 = .ok (.goto 4, 3) := by decide +kernel
theorem dL_law_174 : decode code 174 = .ok (.iconst 0, 1) := by decide +kernel
theorem dL_law_175 : decode code 175 = .ok (.invokevirtual 25, 3) := by decide +kernel
theorem dL_law_178 : decode code 178 = .ok (.if_icmp .eq 710, 3) := by decide +kernel
theorem dL_law_181 : decode code 181 = .ok (.iconst 0, 1) := by decide +kernel
theorem dL_law_182 : decode code 182 = .ok (.ireturn, 1) := by decide +kernel
theorem dL_law_183 : decode code 183 = .ok (.aload_n 1, 1) := by decide +kernel
theorem dL_law_184 : decode code 184 = .ok (.aload_n 0, 1) := by decide +kernel
theorem dL_law_185 : decode code 185 = .ok (.iload_n 3, 1) := by decide +kernel
theorem dL_law_186 : decode code 186 = .ok (.iconst 1, 1) := by decide +kernel
theorem dL_law_187 : decode code 187 = .ok (.iadd, 1) := by decide +kernel
theorem dL_law_188 : decode code 188 = .ok (.iaload, 1) := by decide +kernel
theorem dL_law_189 : decode code 189 = .ok (.invokevirtual 26, 3) := by decide +kernel
theorem dL_law_192 : decode code 192 = .ok (.aload_n 2, 1) := by decide +kernel
theorem dL_law_193 : decode code 193 = .ok (.aload_n 0, 1) := by decide +kernel
theorem dL_law_194 : decode code 194 = .ok (.iload_n 3, 1) := by decide +kernel
theorem dL_law_195 : decode code 195 = .ok (.iconst 1, 1) := by decide +kernel
theorem dL_law_196 : decode code 196 = .ok (.iadd, 1) := by decide +kernel
theorem dL_law_197 : decode code 197 = .ok (.iaload, 1) := by decide +kernel
theorem dL_law_198 : decode code 198 = .ok (.invokevirtual 30, 3) := by decide +kernel
theorem dL_law_201 : decode code 201 = .ok (.if_icmp .eq 687, 3) := by decide +kernel
theorem dL_law_204 : decode code 204 = .ok (.iconst 0, 1) := by decide +kernel
theorem dL_law_205 : decode code 205 = .ok (.ireturn, 1) := by decide +kernel
theorem dL_law_206 : decode code 206 = .ok (.aload_n 1, 1) := by decide +kernel
theorem dL_law_207 : decode code 207 = .ok (.aload_n 0, 1) := by decide +kernel
theorem dL_law_208 : decode code 208 = .ok (.iload_n 3, 1) := by decide +kernel
theorem dL_law_209 : decode code 209 = .ok (.iconst 1, 1) := by decide +kernel
theorem dL_law_210 : decode code 210 = .ok (.iadd, 1) := by decide +kernel
theorem dL_law_211 : decode code 211 = .ok (.iaload, 1) := by decide +kernel
theorem dL_law_212 : decode code 212 = .ok (.aload_n 0, 1) := by decide +kernel
theorem dL_law_213 : decode code 213 = .ok (.iload_n 3, 1) := by decide +kernel
theorem dL_law_214 : decode code 214 = .ok (.iconst 2, 1) := by decide +kernel
theorem dL_law_215 : decode code 215 = .ok (.iadd, 1) := by decide +kernel
theorem dL_law_216 : decode code 216 = .ok (.iaload, 1) := by decide +kernel
theorem dL_law_217 : decode code 217 = .ok (.ifCond .eq 7, 3) := by decide +kernel
theorem dL_law_220 : decode code 220 = .ok (.iconst 1, 1) := by decide +kernel
theorem dL_law_221 : decode code 221 = .ok (.goto 4, 3) := by decide +kernel
theorem dL_law_224 : decode code 224 = .ok (.iconst 0, 1) := by decide +kernel
theorem dL_law_225 : decode code 225 = .ok (.aload_n 0, 1) := by decide +kernel
theorem dL_law_226 : decode code 226 = .ok (.iload_n 3, 1) := by decide +kernel
theorem dL_law_227 : decode code 227 = .ok (.iconst 3, 1) := by decide +kernel
theorem dL_law_228 : decode code 228 = .ok (.iadd, 1) := by decide +kernel
theorem dL_law_229 : decode code 229 = .ok (.iaload, 1) := by decide +kernel
theorem dL_law_230 : decode code 230 = .ok (.invokevirtual 31, 3) := by decide +kernel
theorem dL_law_233 : decode code 233 = .ok (.aload_n 2, 1) := by decide +kernel
theorem dL_law_234 : decode code 234 = .ok (.aload_n 0, 1) := by decide +kernel
theorem dL_law_235 : decode code 235 = .ok (.iload_n 3, 1) := by decide +kernel
theorem dL_law_236 : decode code 236 = .ok (.iconst 1, 1) := by decide +kernel
theorem dL_law_237 : decode code 237 = .ok (.iadd, 1) := by decide +kernel
theorem dL_law_238 : decode code 238 = .ok (.iaload, 1) := by decide +kernel
theorem dL_law_239 : decode code 239 = .ok (.aload_n 0, 1) := by decide +kernel
theorem dL_law_240 : decode code 240 = .ok (.iload_n 3, 1) := by decide +kernel
theorem dL_law_241 : decode code 241 = .ok (.iconst 2, 1) := by decide +kernel
theorem dL_law_242 : decode code 242 = .ok (.iadd, 1) := by decide +kernel
theorem dL_law_243 : decode code 243 = .ok (.iaload, 1) := by decide +kernel
theorem dL_law_244 : decode code 244 = .ok (.ifCond .eq 7, 3) := by decide +kernel
theorem dL_law_247 : decode code 247 = .ok (.iconst 1, 1) := by decide +kernel
theorem dL_law_248 : decode code 248 = .ok (.goto 4, 3) := by decide +kernel
theorem dL_law_251 : decode code 251 = .ok (.iconst 0, 1) := by decide +kernel
theorem dL_law_252 : decode code 252 = .ok (.aload_n 0, 1) := by decide +kernel
theorem dL_law_253 : decode code 253 = .ok (.iload_n 3, 1) := by decide +kernel
theorem dL_law_254 : decode code 254 = .ok (.iconst 3, 1) := by decide +kernel
theorem dL_law_255 : decode code 255 = .ok (.iadd, 1) := by decide +kernel
theorem dL_law_256 : decode code 256 = .ok (.iaload, 1) := by decide +kernel
theorem dL_law_257 : decode code 257 = .ok (.invokevirtual 35, 3) := by decide +kernel
theorem dL_law_260 : decode code 260 = .ok (.if_icmp .eq 628, 3) := by decide +kernel
theorem dL_law_263 : decode code 263 = .ok (.iconst 0, 1) := by decide +kernel
theorem dL_law_264 : decode code 264 = .ok (.ireturn, 1) := by decide +kernel
theorem dL_law_265 : decode code 265 = .ok (.aload_n 1, 1) := by decide +kernel
theorem dL_law_266 : decode code 266 = .ok (.aload_n 0, 1) := by decide +kernel
theorem dL_law_267 : decode code 267 = .ok (.iload_n 3, 1) := by decide +kernel
theorem dL_law_268 : decode code 268 = .ok (.iconst 1, 1) := by decide +kernel
theorem dL_law_269 : decode code 269 = .ok (.iadd, 1) := by decide +kernel
theorem dL_law_270 : decode code 270 = .ok (.iaload, 1) := by decide +kernel
theorem dL_law_271 : decode code 271 = .ok (.invokevirtual 36, 3) := by decide +kernel
theorem dL_law_274 : decode code 274 = .ok (.aload_n 2, 1) := by decide +kernel
theorem dL_law_275 : decode code 275 = .ok (.aload_n 0, 1) := by decide +kernel
theorem dL_law_276 : decode code 276 = .ok (.iload_n 3, 1) := by decide +kernel
theorem dL_law_277 : decode code 277 = .ok (.iconst 1, 1) := by decide +kernel
theorem dL_law_278 : decode code 278 = .ok (.iadd, 1) := by decide +kernel
theorem dL_law_279 : decode code 279 = .ok (.iaload, 1) := by decide +kernel
theorem dL_law_280 : decode code 280 = .ok (.invokevirtual 39, 3) := by decide +kernel
theorem dL_law_283 : decode code 283 = .ok (.if_icmp .eq 605, 3) := by decide +kernel
theorem dL_law_286 : decode code 286 = .ok (.iconst 0, 1) := by decide +kernel
theorem dL_law_287 : decode code 287 = .ok (.ireturn, 1) := by decide +kernel
theorem dL_law_288 : decode code 288 = .ok (.aload_n 1, 1) := by decide +kernel
theorem dL_law_289 : decode code 289 = .ok (.aload_n 0, 1) := by decide +kernel
theorem dL_law_290 : decode code 290 = .ok (.iload_n 3, 1) := by decide +kernel
theorem dL_law_291 : decode code 291 = .ok (.iconst 1, 1) := by decide +kernel
theorem dL_law_292 : decode code 292 = .ok (.iadd, 1) := by decide +kernel
theorem dL_law_293 : decode code 293 = .ok (.iaload, 1) := by decide +kernel
theorem dL_law_294 : decode code 294 = .ok (.aload_n 0, 1) := by decide +kernel
theorem dL_law_295 : decode code 295 = .ok (.iload_n 3, 1) := by decide +kernel
theorem dL_law_296 : decode code 296 = .ok (.iconst 2, 1) := by decide +kernel
theorem dL_law_297 : decode code 297 = .ok (.iadd, 1) := by decide +kernel
theorem dL_law_298 : decode code 298 = .ok (.iaload, 1) := by decide +kernel
theorem dL_law_299 : decode code 299 = .ok (.invokevirtual 40, 3) := by decide +kernel
theorem dL_law_302 : decode code 302 = .ok (.aload_n 2, 1) := by decide +kernel
theorem dL_law_303 : decode code 303 = .ok (.aload_n 0, 1) := by decide +kernel
theorem dL_law_304 : decode code 304 = .ok (.iload_n 3, 1) := by decide +kernel
theorem dL_law_305 : decode code 305 = .ok (.iconst 1, 1) := by decide +kernel
theorem dL_law_306 : decode code 306 = .ok (.iadd, 1) := by decide +kernel
theorem dL_law_307 : decode code 307 = .ok (.iaload, 1) := by decide +kernel
theorem dL_law_308 : decode code 308 = .ok (.aload_n 0, 1) := by decide +kernel
theorem dL_law_309 : decode code 309 = .ok (.iload_n 3, 1) := by decide +kernel
theorem dL_law_310 : decode code 310 = .ok (.iconst 2, 1) := by decide +kernel
theorem dL_law_311 : decode code 311 = .ok (.iadd, 1) := by decide +kernel
theorem dL_law_312 : decode code 312 = .ok (.iaload, 1) := by decide +kernel
theorem dL_law_313 : decode code 313 = .ok (.invokevirtual 44, 3) := by decide +kernel
theorem dL_law_316 : decode code 316 = .ok (.if_icmp .eq 572, 3) := by decide +kernel
theorem dL_law_319 : decode code 319 = .ok (.iconst 0, 1) := by decide +kernel
theorem dL_law_320 : decode code 320 = .ok (.ireturn, 1) := by decide +kernel
theorem dL_law_321 : decode code 321 = .ok (.aload_n 1, 1) := by decide +kernel
theorem dL_law_322 : decode code 322 = .ok (.aload_n 0, 1) := by decide +kernel
theorem dL_law_323 : decode code 323 = .ok (.iload_n 3, 1) := by decide +kernel
theorem dL_law_324 : decode code 324 = .ok (.iconst 1, 1) := by decide +kernel
theorem dL_law_325 : decode code 325 = .ok (.iadd, 1) := by decide +kernel
theorem dL_law_326 : decode code 326 = .ok (.iaload, 1) := by decide +kernel
theorem dL_law_327 : decode code 327 = .ok (.aload_n 0, 1) := by decide +kernel
theorem dL_law_328 : decode code 328 = .ok (.iload_n 3, 1) := by decide +kernel
theorem dL_law_329 : decode code 329 = .ok (.iconst 2, 1) := by decide +kernel
theorem dL_law_330 : decode code 330 = .ok (.iadd, 1) := by decide +kernel
theorem dL_law_331 : decode code 331 = .ok (.iaload, 1) := by decide +kernel
theorem dL_law_332 : decode code 332 = .ok (.aload_n 0, 1) := by decide +kernel
theorem dL_law_333 : decode code 333 = .ok (.iload_n 3, 1) := by decide +kernel
theorem dL_law_334 : decode code 334 = .ok (.iconst 3, 1) := by decide +kernel
theorem dL_law_335 : decode code 335 = .ok (.iadd, 1) := by decide +kernel
theorem dL_law_336 : decode code 336 = .ok (.iaload, 1) := by decide +kernel
theorem dL_law_337 : decode code 337 = .ok (.invokevirtual 45, 3) := by decide +kernel
theorem dL_law_340 : decode code 340 = .ok (.aload_n 2, 1) := by decide +kernel
theorem dL_law_341 : decode code 341 = .ok (.aload_n 0, 1) := by decide +kernel
theorem dL_law_342 : decode code 342 = .ok (.iload_n 3, 1) := by decide +kernel
theorem dL_law_343 : decode code 343 = .ok (.iconst 1, 1) := by decide +kernel
theorem dL_law_344 : decode code 344 = .ok (.iadd, 1) := by decide +kernel
theorem dL_law_345 : decode code 345 = .ok (.iaload, 1) := by decide +kernel
theorem dL_law_346 : decode code 346 = .ok (.aload_n 0, 1) := by decide +kernel
theorem dL_law_347 : decode code 347 = .ok (.iload_n 3, 1) := by decide +kernel
theorem dL_law_348 : decode code 348 = .ok (.iconst 2, 1) := by decide +kernel
theorem dL_law_349 : decode code 349 = .ok (.iadd, 1) := by decide +kernel
theorem dL_law_350 : decode code 350 = .ok (.iaload, 1) := by decide +kernel
theorem dL_law_351 : decode code 351 = .ok (.aload_n 0, 1) := by decide +kernel
theorem dL_law_352 : decode code 352 = .ok (.iload_n 3, 1) := by decide +kernel
theorem dL_law_353 : decode code 353 = .ok (.iconst 3, 1) := by decide +kernel
theorem dL_law_354 : decode code 354 = .ok (.iadd, 1) := by decide +kernel
theorem dL_law_355 : decode code 355 = .ok (.iaload, 1) := by decide +kernel
theorem dL_law_356 : decode code 356 = .ok (.invokevirtual 49, 3) := by decide +kernel
theorem dL_law_359 : decode code 359 = .ok (.if_icmp .eq 529, 3) := by decide +kernel
theorem dL_law_362 : decode code 362 = .ok (.iconst 0, 1) := by decide +kernel
theorem dL_law_363 : decode code 363 = .ok (.ireturn, 1) := by decide +kernel
theorem dL_law_364 : decode code 364 = .ok (.aload_n 1, 1) := by decide +kernel
theorem dL_law_365 : decode code 365 = .ok (.aload_n 0, 1) := by decide +kernel
theorem dL_law_366 : decode code 366 = .ok (.iload_n 3, 1) := by decide +kernel
theorem dL_law_367 : decode code 367 = .ok (.iconst 1, 1) := by decide +kernel
theorem dL_law_368 : decode code 368 = .ok (.iadd, 1) := by decide +kernel
theorem dL_law_369 : decode code 369 = .ok (.iaload, 1) := by decide +kernel
theorem dL_law_370 : decode code 370 = .ok (.aload_n 0, 1) := by decide +kernel
theorem dL_law_371 : decode code 371 = .ok (.iload_n 3, 1) := by decide +kernel
theorem dL_law_372 : decode code 372 = .ok (.iconst 2, 1) := by decide +kernel
theorem dL_law_373 : decode code 373 = .ok (.iadd, 1) := by decide +kernel
theorem dL_law_374 : decode code 374 = .ok (.iaload, 1) := by decide +kernel
theorem dL_law_375 : decode code 375 = .ok (.invokevirtual 50, 3) := by decide +kernel
theorem dL_law_378 : decode code 378 = .ok (.aload_n 2, 1) := by decide +kernel
theorem dL_law_379 : decode code 379 = .ok (.aload_n 0, 1) := by decide +kernel
theorem dL_law_380 : decode code 380 = .ok (.iload_n 3, 1) := by decide +kernel
theorem dL_law_381 : decode code 381 = .ok (.iconst 1, 1) := by decide +kernel
theorem dL_law_382 : decode code 382 = .ok (.iadd, 1) := by decide +kernel
theorem dL_law_383 : decode code 383 = .ok (.iaload, 1) := by decide +kernel
theorem dL_law_384 : decode code 384 = .ok (.aload_n 0, 1) := by decide +kernel
theorem dL_law_385 : decode code 385 = .ok (.iload_n 3, 1) := by decide +kernel
theorem dL_law_386 : decode code 386 = .ok (.iconst 2, 1) := by decide +kernel
theorem dL_law_387 : decode code 387 = .ok (.iadd, 1) := by decide +kernel
theorem dL_law_388 : decode code 388 = .ok (.iaload, 1) := by decide +kernel
theorem dL_law_389 : decode code 389 = .ok (.invokevirtual 53, 3) := by decide +kernel
theorem dL_law_392 : decode code 392 = .ok (.if_icmp .eq 496, 3) := by decide +kernel
theorem dL_law_395 : decode code 395 = .ok (.iconst 0, 1) := by decide +kernel
theorem dL_law_396 : decode code 396 = .ok (.ireturn, 1) := by decide +kernel
theorem dL_law_397 : decode code 397 = .ok (.aload_n 1, 1) := by decide +kernel
theorem dL_law_398 : decode code 398 = .ok (.aload_n 0, 1) := by decide +kernel
theorem dL_law_399 : decode code 399 = .ok (.iload_n 3, 1) := by decide +kernel
theorem dL_law_400 : decode code 400 = .ok (.iconst 1, 1) := by decide +kernel
theorem dL_law_401 : decode code 401 = .ok (.iadd, 1) := by decide +kernel
theorem dL_law_402 : decode code 402 = .ok (.iaload, 1) := by decide +kernel
theorem dL_law_403 : decode code 403 = .ok (.aload_n 0, 1) := by decide +kernel
theorem dL_law_404 : decode code 404 = .ok (.iload_n 3, 1) := by decide +kernel
theorem dL_law_405 : decode code 405 = .ok (.iconst 2, 1) := by decide +kernel
theorem dL_law_406 : decode code 406 = .ok (.iadd, 1) := by decide +kernel
theorem dL_law_407 : decode code 407 = .ok (.iaload, 1) := by decide +kernel
theorem dL_law_408 : decode code 408 = .ok (.invokevirtual 54, 3) := by decide +kernel
theorem dL_law_411 : decode code 411 = .ok (.aload_n 2, 1) := by decide +kernel
theorem dL_law_412 : decode code 412 = .ok (.aload_n 0, 1) := by decide +kernel
theorem dL_law_413 : decode code 413 = .ok (.iload_n 3, 1) := by decide +kernel
theorem dL_law_414 : decode code 414 = .ok (.iconst 1, 1) := by decide +kernel
theorem dL_law_415 : decode code 415 = .ok (.iadd, 1) := by decide +kernel
theorem dL_law_416 : decode code 416 = .ok (.iaload, 1) := by decide +kernel
theorem dL_law_417 : decode code 417 = .ok (.aload_n 0, 1) := by decide +kernel
theorem dL_law_418 : decode code 418 = .ok (.iload_n 3, 1) := by decide +kernel
theorem dL_law_419 : decode code 419 = .ok (.iconst 2, 1) := by decide +kernel
theorem dL_law_420 : decode code 420 = .ok (.iadd, 1) := by decide +kernel
theorem dL_law_421 : decode code 421 = .ok (.iaload, 1) := by decide +kernel
theorem dL_law_422 : decode code 422 = .ok (.invokevirtual 57, 3) := by decide +kernel
theorem dL_law_425 : decode code 425 = .ok (.if_icmp .eq 463, 3) := by decide +kernel
theorem dL_law_428 : decode code 428 = .ok (.iconst 0, 1) := by decide +kernel
theorem dL_law_429 : decode code 429 = .ok (.ireturn, 1) := by decide +kernel
theorem dL_law_430 : decode code 430 = .ok (.aload_n 1, 1) := by decide +kernel
theorem dL_law_431 : decode code 431 = .ok (.aload_n 0, 1) := by decide +kernel
theorem dL_law_432 : decode code 432 = .ok (.iload_n 3, 1) := by decide +kernel
theorem dL_law_433 : decode code 433 = .ok (.iconst 1, 1) := by decide +kernel
theorem dL_law_434 : decode code 434 = .ok (.iadd, 1) := by decide +kernel
theorem dL_law_435 : decode code 435 = .ok (.iaload, 1) := by decide +kernel
theorem dL_law_436 : decode code 436 = .ok (.aload_n 0, 1) := by decide +kernel
theorem dL_law_437 : decode code 437 = .ok (.iload_n 3, 1) := by decide +kernel
theorem dL_law_438 : decode code 438 = .ok (.iconst 2, 1) := by decide +kernel
theorem dL_law_439 : decode code 439 = .ok (.iadd, 1) := by decide +kernel
theorem dL_law_440 : decode code 440 = .ok (.iaload, 1) := by decide +kernel
theorem dL_law_441 : decode code 441 = .ok (.invokevirtual 58, 3) := by decide +kernel
theorem dL_law_444 : decode code 444 = .ok (.aload_n 2, 1) := by decide +kernel
theorem dL_law_445 : decode code 445 = .ok (.aload_n 0, 1) := by decide +kernel
theorem dL_law_446 : decode code 446 = .ok (.iload_n 3, 1) := by decide +kernel
theorem dL_law_447 : decode code 447 = .ok (.iconst 1, 1) := by decide +kernel
theorem dL_law_448 : decode code 448 = .ok (.iadd, 1) := by decide +kernel
theorem dL_law_449 : decode code 449 = .ok (.iaload, 1) := by decide +kernel
theorem dL_law_450 : decode code 450 = .ok (.aload_n 0, 1) := by decide +kernel
theorem dL_law_451 : decode code 451 = .ok (.iload_n 3, 1) := by decide +kernel
theorem dL_law_452 : decode code 452 = .ok (.iconst 2, 1) := by decide +kernel
theorem dL_law_453 : decode code 453 = .ok (.iadd, 1) := by decide +kernel
theorem dL_law_454 : decode code 454 = .ok (.iaload, 1) := by decide +kernel
theorem dL_law_455 : decode code 455 = .ok (.invokevirtual 61, 3) := by decide +kernel
theorem dL_law_458 : decode code 458 = .ok (.if_icmp .eq 430, 3) := by decide +kernel
theorem dL_law_461 : decode code 461 = .ok (.iconst 0, 1) := by decide +kernel
theorem dL_law_462 : decode code 462 = .ok (.ireturn, 1) := by decide +kernel
theorem dL_law_463 : decode code 463 = .ok (.aload_n 1, 1) := by decide +kernel
theorem dL_law_464 : decode code 464 = .ok (.aload_n 0, 1) := by decide +kernel
theorem dL_law_465 : decode code 465 = .ok (.iload_n 3, 1) := by decide +kernel
theorem dL_law_466 : decode code 466 = .ok (.iconst 1, 1) := by decide +kernel
theorem dL_law_467 : decode code 467 = .ok (.iadd, 1) := by decide +kernel
theorem dL_law_468 : decode code 468 = .ok (.iaload, 1) := by decide +kernel
theorem dL_law_469 : decode code 469 = .ok (.aload_n 0, 1) := by decide +kernel
theorem dL_law_470 : decode code 470 = .ok (.iload_n 3, 1) := by decide +kernel
theorem dL_law_471 : decode code 471 = .ok (.iconst 2, 1) := by decide +kernel
theorem dL_law_472 : decode code 472 = .ok (.iadd, 1) := by decide +kernel
theorem dL_law_473 : decode code 473 = .ok (.iaload, 1) := by decide +kernel
theorem dL_law_474 : decode code 474 = .ok (.aload_n 0, 1) := by decide +kernel
theorem dL_law_475 : decode code 475 = .ok (.iload_n 3, 1) := by decide +kernel
theorem dL_law_476 : decode code 476 = .ok (.iconst 3, 1) := by decide +kernel
theorem dL_law_477 : decode code 477 = .ok (.iadd, 1) := by decide +kernel
theorem dL_law_478 : decode code 478 = .ok (.iaload, 1) := by decide +kernel
theorem dL_law_479 : decode code 479 = .ok (.invokevirtual 62, 3) := by decide +kernel
theorem dL_law_482 : decode code 482 = .ok (.aload_n 2, 1) := by decide +kernel
theorem dL_law_483 : decode code 483 = .ok (.aload_n 0, 1) := by decide +kernel
theorem dL_law_484 : decode code 484 = .ok (.iload_n 3, 1) := by decide +kernel
theorem dL_law_485 : decode code 485 = .ok (.iconst 1, 1) := by decide +kernel
theorem dL_law_486 : decode code 486 = .ok (.iadd, 1) := by decide +kernel
theorem dL_law_487 : decode code 487 = .ok (.iaload, 1) := by decide +kernel
theorem dL_law_488 : decode code 488 = .ok (.aload_n 0, 1) := by decide +kernel
theorem dL_law_489 : decode code 489 = .ok (.iload_n 3, 1) := by decide +kernel
theorem dL_law_490 : decode code 490 = .ok (.iconst 2, 1) := by decide +kernel
theorem dL_law_491 : decode code 491 = .ok (.iadd, 1) := by decide +kernel
theorem dL_law_492 : decode code 492 = .ok (.iaload, 1) := by decide +kernel
theorem dL_law_493 : decode code 493 = .ok (.aload_n 0, 1) := by decide +kernel
theorem dL_law_494 : decode code 494 = .ok (.iload_n 3, 1) := by decide +kernel
theorem dL_law_495 : decode code 495 = .ok (.iconst 3, 1) := by decide +kernel
theorem dL_law_496 : decode code 496 = .ok (.iadd, 1) := by decide +kernel
theorem dL_law_497 : decode code 497 = .ok (.iaload, 1) := by decide +kernel
theorem dL_law_498 : decode code 498 = .ok (.invokevirtual 65, 3) := by decide +kernel
theorem dL_law_501 : decode code 501 = .ok (.if_icmp .eq 387, 3) := by decide +kernel
theorem dL_law_504 : decode code 504 = .ok (.iconst 0, 1) := by decide +kernel
theorem dL_law_505 : decode code 505 = .ok (.ireturn, 1) := by decide +kernel
theorem dL_law_506 : decode code 506 = .ok (.aload_n 1, 1) := by decide +kernel
theorem dL_law_507 : decode code 507 = .ok (.aload_n 0, 1) := by decide +kernel
theorem dL_law_508 : decode code 508 = .ok (.iload_n 3, 1) := by decide +kernel
theorem dL_law_509 : decode code 509 = .ok (.iconst 1, 1) := by decide +kernel
theorem dL_law_510 : decode code 510 = .ok (.iadd, 1) := by decide +kernel
theorem dL_law_511 : decode code 511 = .ok (.iaload, 1) := by decide +kernel
theorem dL_law_512 : decode code 512 = .ok (.aload_n 0, 1) := by decide +kernel
theorem dL_law_513 : decode code 513 = .ok (.iload_n 3, 1) := by decide +kernel
theorem dL_law_514 : decode code 514 = .ok (.iconst 2, 1) := by decide +kernel
theorem dL_law_515 : decode code 515 = .ok (.iadd, 1) := by decide +kernel
theorem dL_law_516 : decode code 516 = .ok (.iaload, 1) := by decide +kernel
theorem dL_law_517 : decode code 517 = .ok (.invokevirtual 66, 3) := by decide +kernel
theorem dL_law_520 : decode code 520 = .ok (.aload_n 2, 1) := by decide +kernel
theorem dL_law_521 : decode code 521 = .ok (.aload_n 0, 1) := by decide +kernel
theorem dL_law_522 : decode code 522 = .ok (.iload_n 3, 1) := by decide +kernel
theorem dL_law_523 : decode code 523 = .ok (.iconst 1, 1) := by decide +kernel
theorem dL_law_524 : decode code 524 = .ok (.iadd, 1) := by decide +kernel
theorem dL_law_525 : decode code 525 = .ok (.iaload, 1) := by decide +kernel
theorem dL_law_526 : decode code 526 = .ok (.aload_n 0, 1) := by decide +kernel
theorem dL_law_527 : decode code 527 = .ok (.iload_n 3, 1) := by decide +kernel
theorem dL_law_528 : decode code 528 = .ok (.iconst 2, 1) := by decide +kernel
theorem dL_law_529 : decode code 529 = .ok (.iadd, 1) := by decide +kernel
theorem dL_law_530 : decode code 530 = .ok (.iaload, 1) := by decide +kernel
theorem dL_law_531 : decode code 531 = .ok (.invokevirtual 69, 3) := by decide +kernel
theorem dL_law_534 : decode code 534 = .ok (.if_icmp .eq 354, 3) := by decide +kernel
theorem dL_law_537 : decode code 537 = .ok (.iconst 0, 1) := by decide +kernel
theorem dL_law_538 : decode code 538 = .ok (.ireturn, 1) := by decide +kernel
theorem dL_law_539 : decode code 539 = .ok (.aload_n 1, 1) := by decide +kernel
theorem dL_law_540 : decode code 540 = .ok (.aload_n 0, 1) := by decide +kernel
theorem dL_law_541 : decode code 541 = .ok (.iload_n 3, 1) := by decide +kernel
theorem dL_law_542 : decode code 542 = .ok (.iconst 1, 1) := by decide +kernel
theorem dL_law_543 : decode code 543 = .ok (.iadd, 1) := by decide +kernel
theorem dL_law_544 : decode code 544 = .ok (.iaload, 1) := by decide +kernel
theorem dL_law_545 : decode code 545 = .ok (.aload_n 0, 1) := by decide +kernel
theorem dL_law_546 : decode code 546 = .ok (.iload_n 3, 1) := by decide +kernel
theorem dL_law_547 : decode code 547 = .ok (.iconst 2, 1) := by decide +kernel
theorem dL_law_548 : decode code 548 = .ok (.iadd, 1) := by decide +kernel
theorem dL_law_549 : decode code 549 = .ok (.iaload, 1) := by decide +kernel
theorem dL_law_550 : decode code 550 = .ok (.invokevirtual 70, 3) := by decide +kernel
theorem dL_law_553 : decode code 553 = .ok (.aload_n 2, 1) := by decide +kernel
theorem dL_law_554 : decode code 554 = .ok (.aload_n 0, 1) := by decide +kernel
theorem dL_law_555 : decode code 555 = .ok (.iload_n 3, 1) := by decide +kernel
theorem dL_law_556 : decode code 556 = .ok (.iconst 1, 1) := by decide +kernel
theorem dL_law_557 : decode code 557 = .ok (.iadd, 1) := by decide +kernel
theorem dL_law_558 : decode code 558 = .ok (.iaload, 1) := by decide +kernel
theorem dL_law_559 : decode code 559 = .ok (.aload_n 0, 1) := by decide +kernel
theorem dL_law_560 : decode code 560 = .ok (.iload_n 3, 1) := by decide +kernel
theorem dL_law_561 : decode code 561 = .ok (.iconst 2, 1) := by decide +kernel
theorem dL_law_562 : decode code 562 = .ok (.iadd, 1) := by decide +kernel
theorem dL_law_563 : decode code 563 = .ok (.iaload, 1) := by decide +kernel
theorem dL_law_564 : decode code 564 = .ok (.invokevirtual 74, 3) := by decide +kernel
theorem dL_law_567 : decode code 567 = .ok (.lcmp, 1) := by decide +kernel
theorem dL_law_568 : decode code 568 = .ok (.ifCond .eq 320, 3) := by decide +kernel
theorem dL_law_571 : decode code 571 = .ok (.iconst 0, 1) := by decide +kernel
theorem dL_law_572 : decode code 572 = .ok (.ireturn, 1) := by decide +kernel
theorem dL_law_573 : decode code 573 = .ok (.aload_n 1, 1) := by decide +kernel
theorem dL_law_574 : decode code 574 = .ok (.aload_n 0, 1) := by decide +kernel
theorem dL_law_575 : decode code 575 = .ok (.iload_n 3, 1) := by decide +kernel
theorem dL_law_576 : decode code 576 = .ok (.iconst 1, 1) := by decide +kernel
theorem dL_law_577 : decode code 577 = .ok (.iadd, 1) := by decide +kernel
theorem dL_law_578 : decode code 578 = .ok (.iaload, 1) := by decide +kernel
theorem dL_law_579 : decode code 579 = .ok (.aload_n 0, 1) := by decide +kernel
theorem dL_law_580 : decode code 580 = .ok (.iload_n 3, 1) := by decide +kernel
theorem dL_law_581 : decode code 581 = .ok (.iconst 2, 1) := by decide +kernel
theorem dL_law_582 : decode code 582 = .ok (.iadd, 1) := by decide +kernel
theorem dL_law_583 : decode code 583 = .ok (.iaload, 1) := by decide +kernel
theorem dL_law_584 : decode code 584 = .ok (.aload_n 0, 1) := by decide +kernel
theorem dL_law_585 : decode code 585 = .ok (.iload_n 3, 1) := by decide +kernel
theorem dL_law_586 : decode code 586 = .ok (.iconst 3, 1) := by decide +kernel
theorem dL_law_587 : decode code 587 = .ok (.iadd, 1) := by decide +kernel
theorem dL_law_588 : decode code 588 = .ok (.iaload, 1) := by decide +kernel
theorem dL_law_589 : decode code 589 = .ok (.invokevirtual 75, 3) := by decide +kernel
theorem dL_law_592 : decode code 592 = .ok (.aload_n 2, 1) := by decide +kernel
theorem dL_law_593 : decode code 593 = .ok (.aload_n 0, 1) := by decide +kernel
theorem dL_law_594 : decode code 594 = .ok (.iload_n 3, 1) := by decide +kernel
theorem dL_law_595 : decode code 595 = .ok (.iconst 1, 1) := by decide +kernel
theorem dL_law_596 : decode code 596 = .ok (.iadd, 1) := by decide +kernel
theorem dL_law_597 : decode code 597 = .ok (.iaload, 1) := by decide +kernel
theorem dL_law_598 : decode code 598 = .ok (.aload_n 0, 1) := by decide +kernel
theorem dL_law_599 : decode code 599 = .ok (.iload_n 3, 1) := by decide +kernel
theorem dL_law_600 : decode code 600 = .ok (.iconst 2, 1) := by decide +kernel
theorem dL_law_601 : decode code 601 = .ok (.iadd, 1) := by decide +kernel
theorem dL_law_602 : decode code 602 = .ok (.iaload, 1) := by decide +kernel
theorem dL_law_603 : decode code 603 = .ok (.aload_n 0, 1) := by decide +kernel
theorem dL_law_604 : decode code 604 = .ok (.iload_n 3, 1) := by decide +kernel
theorem dL_law_605 : decode code 605 = .ok (.iconst 3, 1) := by decide +kernel
theorem dL_law_606 : decode code 606 = .ok (.iadd, 1) := by decide +kernel
theorem dL_law_607 : decode code 607 = .ok (.iaload, 1) := by decide +kernel
theorem dL_law_608 : decode code 608 = .ok (.invokevirtual 79, 3) := by decide +kernel
theorem dL_law_611 : decode code 611 = .ok (.lcmp, 1) := by decide +kernel
theorem dL_law_612 : decode code 612 = .ok (.ifCond .eq 276, 3) := by decide +kernel
theorem dL_law_615 : decode code 615 = .ok (.iconst 0, 1) := by decide +kernel
theorem dL_law_616 : decode code 616 = .ok (.ireturn, 1) := by decide +kernel
theorem dL_law_617 : decode code 617 = .ok (.aload_n 1, 1) := by decide +kernel
theorem dL_law_618 : decode code 618 = .ok (.aload_n 0, 1) := by decide +kernel
theorem dL_law_619 : decode code 619 = .ok (.iload_n 3, 1) := by decide +kernel
theorem dL_law_620 : decode code 620 = .ok (.iconst 1, 1) := by decide +kernel
theorem dL_law_621 : decode code 621 = .ok (.iadd, 1) := by decide +kernel
theorem dL_law_622 : decode code 622 = .ok (.iaload, 1) := by decide +kernel
theorem dL_law_623 : decode code 623 = .ok (.aload_n 0, 1) := by decide +kernel
theorem dL_law_624 : decode code 624 = .ok (.iload_n 3, 1) := by decide +kernel
theorem dL_law_625 : decode code 625 = .ok (.iconst 2, 1) := by decide +kernel
theorem dL_law_626 : decode code 626 = .ok (.iadd, 1) := by decide +kernel
theorem dL_law_627 : decode code 627 = .ok (.iaload, 1) := by decide +kernel
theorem dL_law_628 : decode code 628 = .ok (.aload_n 0, 1) := by decide +kernel
theorem dL_law_629 : decode code 629 = .ok (.iload_n 3, 1) := by decide +kernel
theorem dL_law_630 : decode code 630 = .ok (.iconst 3, 1) := by decide +kernel
theorem dL_law_631 : decode code 631 = .ok (.iadd, 1) := by decide +kernel
theorem dL_law_632 : decode code 632 = .ok (.iaload, 1) := by decide +kernel
theorem dL_law_633 : decode code 633 = .ok (.invokevirtual 80, 3) := by decide +kernel
theorem dL_law_636 : decode code 636 = .ok (.aload_n 2, 1) := by decide +kernel
theorem dL_law_637 : decode code 637 = .ok (.aload_n 0, 1) := by decide +kernel
theorem dL_law_638 : decode code 638 = .ok (.iload_n 3, 1) := by decide +kernel
theorem dL_law_639 : decode code 639 = .ok (.iconst 1, 1) := by decide +kernel
theorem dL_law_640 : decode code 640 = .ok (.iadd, 1) := by decide +kernel
theorem dL_law_641 : decode code 641 = .ok (.iaload, 1) := by decide +kernel
theorem dL_law_642 : decode code 642 = .ok (.aload_n 0, 1) := by decide +kernel
theorem dL_law_643 : decode code 643 = .ok (.iload_n 3, 1) := by decide +kernel
theorem dL_law_644 : decode code 644 = .ok (.iconst 2, 1) := by decide +kernel
theorem dL_law_645 : decode code 645 = .ok (.iadd, 1) := by decide +kernel
theorem dL_law_646 : decode code 646 = .ok (.iaload, 1) := by decide +kernel
theorem dL_law_647 : decode code 647 = .ok (.aload_n 0, 1) := by decide +kernel
theorem dL_law_648 : decode code 648 = .ok (.iload_n 3, 1) := by decide +kernel
theorem dL_law_649 : decode code 649 = .ok (.iconst 3, 1) := by decide +kernel
theorem dL_law_650 : decode code 650 = .ok (.iadd, 1) := by decide +kernel
theorem dL_law_651 : decode code 651 = .ok (.iaload, 1) := by decide +kernel
theorem dL_law_652 : decode code 652 = .ok (.invokevirtual 83, 3) := by decide +kernel
theorem dL_law_655 : decode code 655 = .ok (.lcmp, 1) := by decide +kernel
theorem dL_law_656 : decode code 656 = .ok (.ifCond .eq 232, 3) := by decide +kernel
theorem dL_law_659 : decode code 659 = .ok (.iconst 0, 1) := by decide +kernel
theorem dL_law_660 : decode code 660 = .ok (.ireturn, 1) := by decide +kernel
theorem dL_law_661 : decode code 661 = .ok (.aload_n 1, 1) := by decide +kernel
theorem dL_law_662 : decode code 662 = .ok (.aload_n 0, 1) := by decide +kernel
theorem dL_law_663 : decode code 663 = .ok (.iload_n 3, 1) := by decide +kernel
theorem dL_law_664 : decode code 664 = .ok (.iconst 1, 1) := by decide +kernel
theorem dL_law_665 : decode code 665 = .ok (.iadd, 1) := by decide +kernel
theorem dL_law_666 : decode code 666 = .ok (.iaload, 1) := by decide +kernel
theorem dL_law_667 : decode code 667 = .ok (.aload_n 0, 1) := by decide +kernel
theorem dL_law_668 : decode code 668 = .ok (.iload_n 3, 1) := by decide +kernel
theorem dL_law_669 : decode code 669 = .ok (.iconst 2, 1) := by decide +kernel
theorem dL_law_670 : decode code 670 = .ok (.iadd, 1) := by decide +kernel
theorem dL_law_671 : decode code 671 = .ok (.iaload, 1) := by decide +kernel
theorem dL_law_672 : decode code 672 = .ok (.aload_n 0, 1) := by decide +kernel
theorem dL_law_673 : decode code 673 = .ok (.iload_n 3, 1) := by decide +kernel
theorem dL_law_674 : decode code 674 = .ok (.iconst 3, 1) := by decide +kernel
theorem dL_law_675 : decode code 675 = .ok (.iadd, 1) := by decide +kernel
theorem dL_law_676 : decode code 676 = .ok (.iaload, 1) := by decide +kernel
theorem dL_law_677 : decode code 677 = .ok (.invokevirtual 84, 3) := by decide +kernel
theorem dL_law_680 : decode code 680 = .ok (.aload_n 2, 1) := by decide +kernel
theorem dL_law_681 : decode code 681 = .ok (.aload_n 0, 1) := by decide +kernel
theorem dL_law_682 : decode code 682 = .ok (.iload_n 3, 1) := by decide +kernel
theorem dL_law_683 : decode code 683 = .ok (.iconst 1, 1) := by decide +kernel
theorem dL_law_684 : decode code 684 = .ok (.iadd, 1) := by decide +kernel
theorem dL_law_685 : decode code 685 = .ok (.iaload, 1) := by decide +kernel
theorem dL_law_686 : decode code 686 = .ok (.aload_n 0, 1) := by decide +kernel
theorem dL_law_687 : decode code 687 = .ok (.iload_n 3, 1) := by decide +kernel
theorem dL_law_688 : decode code 688 = .ok (.iconst 2, 1) := by decide +kernel
theorem dL_law_689 : decode code 689 = .ok (.iadd, 1) := by decide +kernel
theorem dL_law_690 : decode code 690 = .ok (.iaload, 1) := by decide +kernel
theorem dL_law_691 : decode code 691 = .ok (.aload_n 0, 1) := by decide +kernel
theorem dL_law_692 : decode code 692 = .ok (.iload_n 3, 1) := by decide +kernel
theorem dL_law_693 : decode code 693 = .ok (.iconst 3, 1) := by decide +kernel
theorem dL_law_694 : decode code 694 = .ok (.iadd, 1) := by decide +kernel
theorem dL_law_695 : decode code 695 = .ok (.iaload, 1) := by decide +kernel
theorem dL_law_696 : decode code 696 = .ok (.invokevirtual 87, 3) := by decide +kernel
theorem dL_law_699 : decode code 699 = .ok (.lcmp, 1) := by decide +kernel
theorem dL_law_700 : decode code 700 = .ok (.ifCond .eq 188, 3) := by decide +kernel
theorem dL_law_703 : decode code 703 = .ok (.iconst 0, 1) := by decide +kernel
theorem dL_law_704 : decode code 704 = .ok (.ireturn, 1) := by decide +kernel
theorem dL_law_705 : decode code 705 = .ok (.aload_n 1, 1) := by decide +kernel
theorem dL_law_706 : decode code 706 = .ok (.aload_n 0, 1) := by decide +kernel
theorem dL_law_707 : decode code 707 = .ok (.iload_n 3, 1) := by decide +kernel
theorem dL_law_708 : decode code 708 = .ok (.iconst 1, 1) := by decide +kernel
theorem dL_law_709 : decode code 709 = .ok (.iadd, 1) := by decide +kernel
theorem dL_law_710 : decode code 710 = .ok (.iaload, 1) := by decide +kernel
theorem dL_law_711 : decode code 711 = .ok (.aload_n 0, 1) := by decide +kernel
theorem dL_law_712 : decode code 712 = .ok (.iload_n 3, 1) := by decide +kernel
theorem dL_law_713 : decode code 713 = .ok (.iconst 2, 1) := by decide +kernel
theorem dL_law_714 : decode code 714 = .ok (.iadd, 1) := by decide +kernel
theorem dL_law_715 : decode code 715 = .ok (.iaload, 1) := by decide +kernel
theorem dL_law_716 : decode code 716 = .ok (.aload_n 0, 1) := by decide +kernel
theorem dL_law_717 : decode code 717 = .ok (.iload_n 3, 1) := by decide +kernel
theorem dL_law_718 : decode code 718 = .ok (.iconst 3, 1) := by decide +kernel
theorem dL_law_719 : decode code 719 = .ok (.iadd, 1) := by decide +kernel
theorem dL_law_720 : decode code 720 = .ok (.iaload, 1) := by decide +kernel
theorem dL_law_721 : decode code 721 = .ok (.invokevirtual 88, 3) := by decide +kernel
theorem dL_law_724 : decode code 724 = .ok (.aload_n 2, 1) := by decide +kernel
theorem dL_law_725 : decode code 725 = .ok (.aload_n 0, 1) := by decide +kernel
theorem dL_law_726 : decode code 726 = .ok (.iload_n 3, 1) := by decide +kernel
theorem dL_law_727 : decode code 727 = .ok (.iconst 1, 1) := by decide +kernel
theorem dL_law_728 : decode code 728 = .ok (.iadd, 1) := by decide +kernel
theorem dL_law_729 : decode code 729 = .ok (.iaload, 1) := by decide +kernel
theorem dL_law_730 : decode code 730 = .ok (.aload_n 0, 1) := by decide +kernel
theorem dL_law_731 : decode code 731 = .ok (.iload_n 3, 1) := by decide +kernel
theorem dL_law_732 : decode code 732 = .ok (.iconst 2, 1) := by decide +kernel
theorem dL_law_733 : decode code 733 = .ok (.iadd, 1) := by decide +kernel
theorem dL_law_734 : decode code 734 = .ok (.iaload, 1) := by decide +kernel
theorem dL_law_735 : decode code 735 = .ok (.aload_n 0, 1) := by decide +kernel
theorem dL_law_736 : decode code 736 = .ok (.iload_n 3, 1) := by decide +kernel
theorem dL_law_737 : decode code 737 = .ok (.iconst 3, 1) := by decide +kernel
theorem dL_law_738 : decode code 738 = .ok (.iadd, 1) := by decide +kernel
theorem dL_law_739 : decode code 739 = .ok (.iaload, 1) := by decide +kernel
theorem dL_law_740 : decode code 740 = .ok (.invokevirtual 91, 3) := by decide +kernel
theorem dL_law_743 : decode code 743 = .ok (.lcmp, 1) := by decide +kernel
theorem dL_law_744 : decode code 744 = .ok (.ifCond .eq 144, 3) := by decide +kernel
theorem dL_law_747 : decode code 747 = .ok (.iconst 0, 1) := by decide +kernel
theorem dL_law_748 : decode code 748 = .ok (.ireturn, 1) := by decide +kernel
theorem dL_law_749 : decode code 749 = .ok (.aload_n 1, 1) := by decide +kernel
theorem dL_law_750 : decode code 750 = .ok (.aload_n 0, 1) := by decide +kernel
theorem dL_law_751 : decode code 751 = .ok (.iload_n 3, 1) := by decide +kernel
theorem dL_law_752 : decode code 752 = .ok (.iconst 1, 1) := by decide +kernel
theorem dL_law_753 : decode code 753 = .ok (.iadd, 1) := by decide +kernel
theorem dL_law_754 : decode code 754 = .ok (.iaload, 1) := by decide +kernel
theorem dL_law_755 : decode code 755 = .ok (.aload_n 0, 1) := by decide +kernel
theorem dL_law_756 : decode code 756 = .ok (.iload_n 3, 1) := by decide +kernel
theorem dL_law_757 : decode code 757 = .ok (.iconst 2, 1) := by decide +kernel
theorem dL_law_758 : decode code 758 = .ok (.iadd, 1) := by decide +kernel
theorem dL_law_759 : decode code 759 = .ok (.iaload, 1) := by decide +kernel
theorem dL_law_760 : decode code 760 = .ok (.aload_n 0, 1) := by decide +kernel
theorem dL_law_761 : decode code 761 = .ok (.iload_n 3, 1) := by decide +kernel
theorem dL_law_762 : decode code 762 = .ok (.iconst 3, 1) := by decide +kernel
theorem dL_law_763 : decode code 763 = .ok (.iadd, 1) := by decide +kernel
theorem dL_law_764 : decode code 764 = .ok (.iaload, 1) := by decide +kernel
theorem dL_law_765 : decode code 765 = .ok (.i2l, 1) := by decide +kernel
theorem dL_law_766 : decode code 766 = .ok (.bipush 32, 2) := by decide +kernel
theorem dL_law_768 : decode code 768 = .ok (.lshl, 1) := by decide +kernel
theorem dL_law_769 : decode code 769 = .ok (.aload_n 0, 1) := by decide +kernel
theorem dL_law_770 : decode code 770 = .ok (.iload_n 3, 1) := by decide +kernel
theorem dL_law_771 : decode code 771 = .ok (.iconst 4, 1) := by decide +kernel
theorem dL_law_772 : decode code 772 = .ok (.iadd, 1) := by decide +kernel
theorem dL_law_773 : decode code 773 = .ok (.iaload, 1) := by decide +kernel
theorem dL_law_774 : decode code 774 = .ok (.i2l, 1) := by decide +kernel
theorem dL_law_775 : decode code 775 = .ok (.ldc2_w 92, 3) := by decide +kernel
theorem dL_law_778 : decode code 778 = .ok (.land, 1) := by decide +kernel
theorem dL_law_779 : decode code 779 = .ok (.lor, 1) := by decide +kernel
theorem dL_law_780 : decode code 780 = .ok (.aload_n 0, 1) := by decide +kernel
theorem dL_law_781 : decode code 781 = .ok (.iload_n 3, 1) := by decide +kernel
theorem dL_law_782 : decode code 782 = .ok (.iconst 5, 1) := by decide +kernel
theorem dL_law_783 : decode code 783 = .ok (.iadd, 1) := by decide +kernel
theorem dL_law_784 : decode code 784 = .ok (.iaload, 1) := by decide +kernel
theorem dL_law_785 : decode code 785 = .ok (.invokevirtual 94, 3) := by decide +kernel
theorem dL_law_788 : decode code 788 = .ok (.aload_n 2, 1) := by decide +kernel
theorem dL_law_789 : decode code 789 = .ok (.aload_n 0, 1) := by decide +kernel
theorem dL_law_790 : decode code 790 = .ok (.iload_n 3, 1) := by decide +kernel
theorem dL_law_791 : decode code 791 = .ok (.iconst 1, 1) := by decide +kernel
theorem dL_law_792 : decode code 792 = .ok (.iadd, 1) := by decide +kernel
theorem dL_law_793 : decode code 793 = .ok (.iaload, 1) := by decide +kernel
theorem dL_law_794 : decode code 794 = .ok (.aload_n 0, 1) := by decide +kernel
theorem dL_law_795 : decode code 795 = .ok (.iload_n 3, 1) := by decide +kernel
theorem dL_law_796 : decode code 796 = .ok (.iconst 2, 1) := by decide +kernel
theorem dL_law_797 : decode code 797 = .ok (.iadd, 1) := by decide +kernel
theorem dL_law_798 : decode code 798 = .ok (.iaload, 1) := by decide +kernel
theorem dL_law_799 : decode code 799 = .ok (.aload_n 0, 1) := by decide +kernel
theorem dL_law_800 : decode code 800 = .ok (.iload_n 3, 1) := by decide +kernel
theorem dL_law_801 : decode code 801 = .ok (.iconst 3, 1) := by decide +kernel
theorem dL_law_802 : decode code 802 = .ok (.iadd, 1) := by decide +kernel
theorem dL_law_803 : decode code 803 = .ok (.iaload, 1) := by decide +kernel
theorem dL_law_804 : decode code 804 = .ok (.i2l, 1) := by decide +kernel
theorem dL_law_805 : decode code 805 = .ok (.bipush 32, 2) := by decide +kernel
theorem dL_law_807 : decode code 807 = .ok (.lshl, 1) := by decide +kernel
theorem dL_law_808 : decode code 808 = .ok (.aload_n 0, 1) := by decide +kernel
theorem dL_law_809 : decode code 809 = .ok (.iload_n 3, 1) := by decide +kernel
theorem dL_law_810 : decode code 810 = .ok (.iconst 4, 1) := by decide +kernel
theorem dL_law_811 : decode code 811 = .ok (.iadd, 1) := by decide +kernel
theorem dL_law_812 : decode code 812 = .ok (.iaload, 1) := by decide +kernel
theorem dL_law_813 : decode code 813 = .ok (.i2l, 1) := by decide +kernel
theorem dL_law_814 : decode code 814 = .ok (.ldc2_w 92, 3) := by decide +kernel
theorem dL_law_817 : decode code 817 = .ok (.land, 1) := by decide +kernel
theorem dL_law_818 : decode code 818 = .ok (.lor, 1) := by decide +kernel
theorem dL_law_819 : decode code 819 = .ok (.aload_n 0, 1) := by decide +kernel
theorem dL_law_820 : decode code 820 = .ok (.iload_n 3, 1) := by decide +kernel
theorem dL_law_821 : decode code 821 = .ok (.iconst 5, 1) := by decide +kernel
theorem dL_law_822 : decode code 822 = .ok (.iadd, 1) := by decide +kernel
theorem dL_law_823 : decode code 823 = .ok (.iaload, 1) := by decide +kernel
theorem dL_law_824 : decode code 824 = .ok (.invokevirtual 98, 3) := by decide +kernel
theorem dL_law_827 : decode code 827 = .ok (.if_icmp .eq 61, 3) := by decide +kernel
theorem dL_law_830 : decode code 830 = .ok (.iconst 0, 1) := by decide +kernel
theorem dL_law_831 : decode code 831 = .ok (.ireturn, 1) := by decide +kernel
theorem dL_law_832 : decode code 832 = .ok (.aload_n 1, 1) := by decide +kernel
theorem dL_law_833 : decode code 833 = .ok (.aload_n 0, 1) := by decide +kernel
theorem dL_law_834 : decode code 834 = .ok (.iload_n 3, 1) := by decide +kernel
theorem dL_law_835 : decode code 835 = .ok (.iconst 1, 1) := by decide +kernel
theorem dL_law_836 : decode code 836 = .ok (.iadd, 1) := by decide +kernel
theorem dL_law_837 : decode code 837 = .ok (.iaload, 1) := by decide +kernel
theorem dL_law_838 : decode code 838 = .ok (.aload_n 0, 1) := by decide +kernel
theorem dL_law_839 : decode code 839 = .ok (.iload_n 3, 1) := by decide +kernel
theorem dL_law_840 : decode code 840 = .ok (.iconst 2, 1) := by decide +kernel
theorem dL_law_841 : decode code 841 = .ok (.iadd, 1) := by decide +kernel
theorem dL_law_842 : decode code 842 = .ok (.iaload, 1) := by decide +kernel
theorem dL_law_843 : decode code 843 = .ok (.invokevirtual 99, 3) := by decide +kernel
theorem dL_law_846 : decode code 846 = .ok (.aload_n 2, 1) := by decide +kernel
theorem dL_law_847 : decode code 847 = .ok (.aload_n 0, 1) := by decide +kernel
theorem dL_law_848 : decode code 848 = .ok (.iload_n 3, 1) := by decide +kernel
theorem dL_law_849 : decode code 849 = .ok (.iconst 1, 1) := by decide +kernel
theorem dL_law_850 : decode code 850 = .ok (.iadd, 1) := by decide +kernel
theorem dL_law_851 : decode code 851 = .ok (.iaload, 1) := by decide +kernel
theorem dL_law_852 : decode code 852 = .ok (.aload_n 0, 1) := by decide +kernel
theorem dL_law_853 : decode code 853 = .ok (.iload_n 3, 1) := by decide +kernel
theorem dL_law_854 : decode code 854 = .ok (.iconst 2, 1) := by decide +kernel
theorem dL_law_855 : decode code 855 = .ok (.iadd, 1) := by decide +kernel
theorem dL_law_856 : decode code 856 = .ok (.iaload, 1) := by decide +kernel
theorem dL_law_857 : decode code 857 = .ok (.invokevirtual 102, 3) := by decide +kernel
theorem dL_law_860 : decode code 860 = .ok (.if_icmp .eq 28, 3) := by decide +kernel
theorem dL_law_863 : decode code 863 = .ok (.iconst 0, 1) := by decide +kernel
theorem dL_law_864 : decode code 864 = .ok (.ireturn, 1) := by decide +kernel
theorem dL_law_865 : decode code 865 = .ok (.aload_n 1, 1) := by decide +kernel
theorem dL_law_866 : decode code 866 = .ok (.aload_n 0, 1) := by decide +kernel
theorem dL_law_867 : decode code 867 = .ok (.iload_n 3, 1) := by decide +kernel
theorem dL_law_868 : decode code 868 = .ok (.iconst 1, 1) := by decide +kernel
theorem dL_law_869 : decode code 869 = .ok (.iadd, 1) := by decide +kernel
theorem dL_law_870 : decode code 870 = .ok (.iaload, 1) := by decide +kernel
theorem dL_law_871 : decode code 871 = .ok (.invokevirtual 103, 3) := by decide +kernel
theorem dL_law_874 : decode code 874 = .ok (.aload_n 2, 1) := by decide +kernel
theorem dL_law_875 : decode code 875 = .ok (.aload_n 0, 1) := by decide +kernel
theorem dL_law_876 : decode code 876 = .ok (.iload_n 3, 1) := by decide +kernel
theorem dL_law_877 : decode code 877 = .ok (.iconst 1, 1) := by decide +kernel
theorem dL_law_878 : decode code 878 = .ok (.iadd, 1) := by decide +kernel
theorem dL_law_879 : decode code 879 = .ok (.iaload, 1) := by decide +kernel
theorem dL_law_880 : decode code 880 = .ok (.invokevirtual 106, 3) := by decide +kernel
theorem dL_law_883 : decode code 883 = .ok (.if_icmp .eq 5, 3) := by decide +kernel
theorem dL_law_886 : decode code 886 = .ok (.iconst 0, 1) := by decide +kernel
theorem dL_law_887 : decode code 887 = .ok (.ireturn, 1) := by decide +kernel
theorem dL_law_888 : decode code 888 = .ok (.iinc 3 6, 3) := by decide +kernel
theorem dL_law_891 : decode code 891 = .ok (.goto (-853), 3) := by decide +kernel
theorem dL_law_894 : decode code 894 = .ok (.iconst 1, 1) := by decide +kernel
theorem dL_law_895 : decode code 895 = .ok (.ireturn, 1) := by decide +kernel
end
section
/-! My own rows over the kit: contracts that name the answer and the world behind (kI, kL, kV), their entry, their return, a call in one row, a join of values. -/
def zush (x y : Int32) : Int32 := (x.toUInt32 >>> (y.toUInt32 &&& Int32.toUInt32 31)).toInt32
def zlush (x : Int64) (y : Int32) : Int64 := (x.toUInt64 >>> (y.toInt64.toUInt64 &&& Int64.toUInt64 63)).toInt64
def zlshl (x : Int64) (y : Int32) : Int64 := x <<< (y.toInt64 &&& 63)
theorem kinc1 (x : Int32) : x + Int32.ofInt 1 = x + 1 := by rw [show Int32.ofInt 1 = (1 : Int32) by decide]
theorem kincm1 (x : Int32) : x + Int32.ofInt (-1) = x - 1 := by
  rw [show Int32.ofInt (-1) = (-1 : Int32) by decide]; exact (Int32.sub_eq_add_neg ..).symm
theorem kinc6 (x : Int32) : x + Int32.ofInt 6 = x + 6 := by rw [show Int32.ofInt 6 = (6 : Int32) by decide]
theorem kinc8 (x : Int32) : x + Int32.ofInt 8 = x + 8 := by rw [show Int32.ofInt 8 = (8 : Int32) by decide]
theorem kincN1 (n : Nat) : nI n + Int32.ofInt 1 = nI (n + 1) := by rw [kinc1]; exact nI_1 n
theorem kincNm1 (n : Nat) : nI (n + 1) + Int32.ofInt (-1) = nI n := by rw [kincm1]; exact nI_pred n
abbrev kT (cI cZ : ClassId) : List (ClassId × FieldType) := [(cI, .int), (cZ, .boolean)]
def kNw (U : State) : Prop := ∀ w ∈ lw_n, va_Nw w U
def kIsN : Cond → Bool
  | .fieldLinkNest _ _ _ _ _ _ => true
  | .methodLinkNest _ _ _ _ => true
  | _ => false
theorem lw_n_nest : ∀ w ∈ lw_n, kIsN w = true := by decide +kernel
theorem lw_n_tab : ∀ w ∈ lw_n, w.onTables = true := by decide +kernel
theorem kNw.moved {s U : State} (hW : s.WarmedH U.vm) (h : kNw s) : kNw U := fun w hw => by
  have h1 := lw_n_nest w hw
  have h2 := h w hw
  cases w <;> first | exact va_Nw.warmF hW h2 | exact va_Nw.warmM hW h2 | cases h1
theorem kNw.calling {U : State} {g : JFrame} {mk : MethodId} {a : Array Value} (h : kNw U) : kNw (U.calling g mk a) := fun w hw => va_tabs (u := U) (U := U.calling g mk a) (lw_n_tab w hw) rfl (h w hw)
def kB (D : va_G) (tys : List (ClassId × FieldType)) (ws : va_W) (sz : Nat) (U : State) : Prop := U.heap.size = sz ∧ va_P D vwCl ws U.heap ∧ va_K D vwCl tys U ∧ va_D (fun _ => True) ws ∧ kNw U
def kE (D : va_G) (tys : List (ClassId × FieldType)) (A : Nat → Prop) (w1 : va_W) (_ : Unit) (t : State) : Prop := va_P D vwCl w1 t.heap ∧ va_K D vwCl tys t ∧ va_D A w1
abbrev kQi (D : va_G) (tys : List (ClassId × FieldType)) (A : Nat → Prop) (ans : Int32) (w1 : va_W) : Array Value → State → Outcome → State → Prop := va_Qi (fun r (_ : Unit) => r = ans) (kE D tys A w1) A
abbrev kQl (D : va_G) (tys : List (ClassId × FieldType)) (A : Nat → Prop) (ans : Int64) (w1 : va_W) : Array Value → State → Outcome → State → Prop := va_Ql (fun r (_ : Unit) => r = ans) (kE D tys A w1) A
abbrev kQv (D : va_G) (tys : List (ClassId × FieldType)) (A : Nat → Prop) (w1 : va_W) : Array Value → State → Outcome → State → Prop := va_Qv (fun (_ : Unit) => True) (kE D tys A w1) A
/-- method y, called with vals in the world ws, answers ans, and the world is w1 -/
def kI (l : Launch) (y : MethodName) (w : List Cond) (rm : Room) (D : va_G) (tys : List (ClassId × FieldType)) (vals : List Value) (ws : va_W) (ans : Int32) (w1 : va_W) : Prop := ∀ sz, Met l y w rm (va_Pc vals (kB D tys ws sz)) (kQi D tys (va_A ws sz) ans w1) 0 0 (va_A ws sz)
def kL (l : Launch) (y : MethodName) (w : List Cond) (rm : Room) (D : va_G) (tys : List (ClassId × FieldType)) (vals : List Value) (ws : va_W) (ans : Int64) (w1 : va_W) : Prop := ∀ sz, Met l y w rm (va_Pc vals (kB D tys ws sz)) (kQl D tys (va_A ws sz) ans w1) 0 0 (va_A ws sz)
def kV (l : Launch) (y : MethodName) (w : List Cond) (rm : Room) (D : va_G) (tys : List (ClassId × FieldType)) (vals : List Value) (ws : va_W) (w1 : va_W) : Prop := ∀ sz, Met l y w rm (va_Pc vals (kB D tys ws sz)) (kQv D tys (va_A ws sz) w1) 0 0 (va_A ws sz)
abbrev rmOf (f n : Nat) : Room := { frames := f, cells := 0, slots := 0, locals := n }
section KR
variable {p : Program} {l : Launch} {e : Env} {R : Room} {s : State} {m : MethodId} {args : Array Value} {below : List Frame} {meth : Method} {c : Code} {H : Heap} {locs : List Loc} {cells slots : Nat} {Q : State → Prop}
variable {cc : ByteArray} {pc nL : Nat} {ls : Array Slot} {rest st0 : List Value} {D : va_G} {A : Nat → Prop} {tys : List (ClassId × FieldType)} {ws w1 w2 wr wc : va_W} {H0 : Heap} {Ts w w' : List Cond} {own : String} {rm : Room} {y : MethodName} {vals : List Value}
theorem kTop {x y : Int32} (h : x = y) (k : W p l e R s m args below meth c H locs cells slots Q (F0 m pc ls (.int y :: rest))) : W p l e R s m args below meth c H locs cells slots Q (F0 m pc ls (.int x :: rest)) := h ▸ k
theorem kTopL {x y : Int64} (h : x = y) (k : W p l e R s m args below meth c H locs cells slots Q (F0 m pc ls (.long y :: rest))) : W p l e R s m args below meth c H locs cells slots Q (F0 m pc ls (.long x :: rest)) := h ▸ k
theorem kJoin {pcJ : Nat} {z : Int32} {st : List Value} (k : (∀ (H : Heap) (locs : List Loc), va_P D vwCl ws H → va_D A ws → va_S A H0 H locs → ∀ v, v = z → W p l e R s m args below meth c H locs cells slots Q (F0 m pcJ ls (.int v :: rest))) → W p l e R s m args below meth c H locs cells slots Q (F0 m pc ls st)) (J : ∀ (H : Heap) (locs : List Loc), va_P D vwCl ws H → va_D A ws → va_S A H0 H locs → W p l e R s m args below meth c H locs cells slots Q (F0 m pcJ ls (.int z :: rest))) : W p l e R s m args below meth c H locs cells slots Q (F0 m pc ls st) :=
  k (fun H locs h1 h2 h3 v hv => hv ▸ J H locs h1 h2 h3)
theorem kBlind {sz : Nat} : FrameBlind (va_Pc vals (kB D tys ws sz)) := fun a U g mk q => by
  obtain ⟨q0, q1, qP, qK, qD, qN⟩ := q
  exact ⟨q0, q1, qP, va_K.moved (u := U) (U := U.calling g mk a) (Vm.Alike.refl U.vm) qK, qD, qN.calling⟩
theorem kAt {is : List Nat} {w : va_W} (hs : is.map (fun i => ws[i]?) = w.map some) (k : Nat) (q : Nat × va_E) (hq : w[k]? = some q) : ∃ i, is[k]? = some i ∧ ws[i]? = some q := by
  have h1 : (is.map (fun i => ws[i]?))[k]? = some (some q) := by rw [hs, List.getElem?_map, hq]; rfl
  rw [List.getElem?_map] at h1
  cases hi : is[k]? with
  | none => rw [hi] at h1; cases h1
  | some i => rw [hi] at h1; exact ⟨i, rfl, Option.some.inj h1⟩
theorem kSubP (hP : va_P D vwCl ws H) (is : List Nat) (hs : is.map (fun i => ws[i]?) = w2.map some) : va_P D vwCl w2 H := fun k q hq => by
  obtain ⟨i, -, hi⟩ := kAt hs k q hq
  exact hP i q hi
theorem kpreS (hNw : kNw s) (hP : va_P D vwCl ws H) (hD : va_D A ws) (hK : va_K D vwCl tys s) (isC : List Nat) (hC : isC.map (fun i => ws[i]?) = wc.map some) (hn : va_nd isC = true) : PreS s H (va_Pc vals (kB D tys wc H.size)) vals :=
  ⟨kBlind, fun U hU hW => ⟨rfl, by rw [hU], by rw [hU]; exact kSubP hP isC hC, va_K.moved hW.alike hK, (hD.sub isC hn hC).weaken (fun _ _ _ _ => trivial), hNw.moved hW⟩⟩
theorem kpreV {b ci : Nat} {As : List Value} {C : String} {T : u_T} {N : Nat} {fs : List Value} (hNw : kNw s) (hP : va_P D vwCl ws H) (hD : va_D A ws) (hK : va_K D vwCl tys s) (isC : List Nat) (hC : isC.map (fun i => ws[i]?) = wc.map some) (hn : va_nd isC = true) (q0 : Nat) (he : ws[q0]? = some (b, .inr (ci, fs))) (hc : vwCl[ci]? = some (C, T, N)) : PreV s H C b (va_Pc (.ref b :: As) (kB D tys wc H.size)) As :=
  ⟨kBlind, va_recv hK hP hc he, fun U hU hW => ⟨rfl, by rw [hU], by rw [hU]; exact kSubP hP isC hC, va_K.moved hW.alike hK, (hD.sub isC hn hC).weaken (fun _ _ _ _ => trivial), hNw.moved hW⟩⟩
theorem kcI {ans : Int32} {a : Array Value} {isC isR : List Nat} (hr : va_Run p l e R s m args below meth c H locs cells slots 0 0 (F0 m pc ls st0) rest (kQi D tys (va_A wc H.size) ans w1 a) (va_A wc H.size)) (hP : va_P D vwCl ws H) (hD : va_D A ws) (hS : va_S A H0 H locs) (hA : ∀ q, H0.size ≤ q → A q) (is2 : List Nat) (hC : isC.map (fun i => ws[i]?) = wc.map some) (hR : isR.map (fun i => ws[i]?) = wr.map some) (hn : va_nd isR = true) (hdis : ∀ i ∈ isR, i ∉ isC) (hn2 : va_nd is2 = true) (h2 : is2.map (fun i => (wr ++ w1)[i]?) = w2.map some)
    (kk : ∀ (H1 : Heap) (locs1 : List Loc), va_P D vwCl w2 H1 → va_D A w2 → va_S A H0 H1 locs1 → W p l e R s m args below meth c H1 locs1 cells slots Q (F0 m (pc + 3) ls (.int ans :: rest))) : W p l e R s m args below meth c H locs cells slots Q (F0 m pc ls st0) := by
  have hFc := va_free hD hS hA isC hC
  refine va_calli hr hS (fun q _ h => hFc q h) hFc (fun r u t H1 locs1 ht hvm hw hB hz1 hk1 hS1 => ?_)
  subst hw
  obtain ⟨hP1, -, hD1⟩ := hB
  rw [ht] at hP1
  obtain ⟨hP2, hD2⟩ := va_join hP hD isC isR hC hR hn hdis hk1 hFc hP1 hD1
  exact kk H1 locs1 (kSubP hP2 is2 h2) (hD2.sub is2 hn2 h2) hS1
theorem kcL {ans : Int64} {a : Array Value} {isC isR : List Nat} (hr : va_Run p l e R s m args below meth c H locs cells slots 0 0 (F0 m pc ls st0) rest (kQl D tys (va_A wc H.size) ans w1 a) (va_A wc H.size)) (hP : va_P D vwCl ws H) (hD : va_D A ws) (hS : va_S A H0 H locs) (hA : ∀ q, H0.size ≤ q → A q) (is2 : List Nat) (hC : isC.map (fun i => ws[i]?) = wc.map some) (hR : isR.map (fun i => ws[i]?) = wr.map some) (hn : va_nd isR = true) (hdis : ∀ i ∈ isR, i ∉ isC) (hn2 : va_nd is2 = true) (h2 : is2.map (fun i => (wr ++ w1)[i]?) = w2.map some)
    (kk : ∀ (H1 : Heap) (locs1 : List Loc), va_P D vwCl w2 H1 → va_D A w2 → va_S A H0 H1 locs1 → W p l e R s m args below meth c H1 locs1 cells slots Q (F0 m (pc + 3) ls (.long ans :: rest))) : W p l e R s m args below meth c H locs cells slots Q (F0 m pc ls st0) := by
  have hFc := va_free hD hS hA isC hC
  refine va_calll hr hS (fun q _ h => hFc q h) hFc (fun r u t H1 locs1 ht hvm hw hB hz1 hk1 hS1 => ?_)
  subst hw
  obtain ⟨hP1, -, hD1⟩ := hB
  rw [ht] at hP1
  obtain ⟨hP2, hD2⟩ := va_join hP hD isC isR hC hR hn hdis hk1 hFc hP1 hD1
  exact kk H1 locs1 (kSubP hP2 is2 h2) (hD2.sub is2 hn2 h2) hS1
theorem kcV {a : Array Value} {isC isR : List Nat} (hr : va_Run p l e R s m args below meth c H locs cells slots 0 0 (F0 m pc ls st0) rest (kQv D tys (va_A wc H.size) w1 a) (va_A wc H.size)) (hP : va_P D vwCl ws H) (hD : va_D A ws) (hS : va_S A H0 H locs) (hA : ∀ q, H0.size ≤ q → A q) (is2 : List Nat) (hC : isC.map (fun i => ws[i]?) = wc.map some) (hR : isR.map (fun i => ws[i]?) = wr.map some) (hn : va_nd isR = true) (hdis : ∀ i ∈ isR, i ∉ isC) (hn2 : va_nd is2 = true) (h2 : is2.map (fun i => (wr ++ w1)[i]?) = w2.map some)
    (kk : ∀ (H1 : Heap) (locs1 : List Loc), va_P D vwCl w2 H1 → va_D A w2 → va_S A H0 H1 locs1 → W p l e R s m args below meth c H1 locs1 cells slots Q (F0 m (pc + 3) ls rest)) : W p l e R s m args below meth c H locs cells slots Q (F0 m pc ls st0) := by
  have hFc := va_free hD hS hA isC hC
  refine va_callv hr hS (fun q _ h => hFc q h) hFc (fun u t H1 locs1 ht hvm hw hB hz1 hk1 hS1 => ?_)
  obtain ⟨hP1, -, hD1⟩ := hB
  rw [ht] at hP1
  obtain ⟨hP2, hD2⟩ := va_join hP hD isC isR hC hR hn hdis hk1 hFc hP1 hD1
  exact kk H1 locs1 (kSubP hP2 is2 h2) (hD2.sub is2 hn2 h2) hS1
theorem kretI {v : Int32} {σ : Type} {f : Int32 × σ} {wf : σ → va_W} {st : σ} (e1 : f = (v, st)) (hx : p.tables.exec = Jvm.exec) (hb : c.code = cc) (hr : meth.sig.returnType = some .int) (hlk : meth.locks = false) (hS : va_S A s.heap H locs) (hP : va_P D vwCl (wf st) H) (hD : va_D A (wf st)) (hK : va_K D vwCl tys s) (hdg : decode cc pc = .ok (.ireturn, 1)) : W p l e R s m args below meth c H locs 0 0 (MQ below (kQi D tys A f.1 (wf f.2)) args s 0 0 A) (F0 m pc ls [.int v]) := by
  subst e1
  exact W.iret hx hb hr (fun t ht hW => ⟨⟨v, (), rfl, rfl, by rw [ht]; exact hP, va_K.moved hW.alike hK, hD⟩, hS.F ht⟩) hS.2.2 hdg hlk
theorem kretP {v ans : Int32} (e1 : ans = v) (hx : p.tables.exec = Jvm.exec) (hb : c.code = cc) (hr : meth.sig.returnType = some .int) (hlk : meth.locks = false) (hS : va_S A s.heap H locs) (hP : va_P D vwCl w1 H) (hD : va_D A w1) (hK : va_K D vwCl tys s) (hdg : decode cc pc = .ok (.ireturn, 1)) : W p l e R s m args below meth c H locs 0 0 (MQ below (kQi D tys A ans w1) args s 0 0 A) (F0 m pc ls [.int v]) := by
  subst e1
  exact W.iret hx hb hr (fun t ht hW => ⟨⟨_, (), rfl, rfl, by rw [ht]; exact hP, va_K.moved hW.alike hK, hD⟩, hS.F ht⟩) hS.2.2 hdg hlk
theorem kretZ {v ans : Int32} (e1 : ans = v) (hv : v = 0 ∨ v = 1) (hx : p.tables.exec = Jvm.exec) (hb : c.code = cc) (hr : meth.sig.returnType = some .boolean) (hlk : meth.locks = false) (hS : va_S A s.heap H locs) (hP : va_P D vwCl w1 H) (hD : va_D A w1) (hK : va_K D vwCl tys s) (hdg : decode cc pc = .ok (.ireturn, 1)) : W p l e R s m args below meth c H locs 0 0 (MQ below (kQi D tys A ans w1) args s 0 0 A) (F0 m pc ls [.int v]) := by
  subst e1
  refine W.zret hx hb hr (by rcases hv with h | h <;> rw [h] <;> rfl) (fun t ht hW => ⟨⟨_, (), rfl, rfl, by rw [ht]; exact hP, va_K.moved hW.alike hK, hD⟩, hS.F ht⟩) hS.2.2 hdg hlk
theorem kretL {v ans : Int64} (e1 : ans = v) (hx : p.tables.exec = Jvm.exec) (hb : c.code = cc) (hr : meth.sig.returnType = some .long) (hlk : meth.locks = false) (hS : va_S A s.heap H locs) (hP : va_P D vwCl w1 H) (hD : va_D A w1) (hK : va_K D vwCl tys s) (hdg : decode cc pc = .ok (.lreturn, 1)) : W p l e R s m args below meth c H locs 0 0 (MQ below (kQl D tys A ans w1) args s 0 0 A) (F0 m pc ls [.long v]) := by
  subst e1
  exact W.lret hx hb hr (fun t ht hW => ⟨⟨_, (), rfl, rfl, by rw [ht]; exact hP, va_K.moved hW.alike hK, hD⟩, hS.F ht⟩) hS.2.2 hdg hlk
theorem kretV {σ : Type} {f : σ} {wf : σ → va_W} {st : σ} (e1 : f = st) (hx : p.tables.exec = Jvm.exec) (hb : c.code = cc) (hr : meth.sig.returnType = none) (hlk : meth.locks = false) (hS : va_S A s.heap H locs) (hP : va_P D vwCl (wf st) H) (hD : va_D A (wf st)) (hK : va_K D vwCl tys s) (hdg : decode cc pc = .ok (.return_, 1)) : W p l e R s m args below meth c H locs 0 0 (MQ below (kQv D tys A (wf f)) args s 0 0 A) (F0 m pc ls []) := by
  subst e1
  exact W.vret hx hb hr (fun t ht hW => ⟨⟨(), rfl, trivial, by rw [ht]; exact hP, va_K.moved hW.alike hK, hD⟩, hS.F ht⟩) hS.2.2 hdg hlk
end KR
section KN
variable {p : Program} {l : Launch} {e : Env} {R : Room} {s : State} {m : MethodId} {args : Array Value} {below : List Frame} {meth : Method} {c : Code} {H : Heap} {locs : List Loc} {cells slots : Nat} {Q : State → Prop}
variable {cc : ByteArray} {pc nL : Nat} {ls : Array Slot} {rest st0 : List Value} {D : va_G} {A : Nat → Prop} {tys : List (ClassId × FieldType)} {ws wr wc : va_W} {H0 : Heap} {cI cZ : ClassId}
abbrev kQn (D : va_G) (tys : List (ClassId × FieldType)) (A : Nat → Prop) {S : Type} (wf : S → va_W) : Array Value → State → Outcome → State → Prop := va_Qv (fun (_ : S) => True) (fun u t => va_P D vwCl (wf u) t.heap ∧ va_K D vwCl tys t ∧ va_D A (wf u)) A
theorem kcN {S : Type} {wf : S → va_W} {mc ms : Nat} {a : Array Value} {isC isR : List Nat} (hr : va_Run p l e R s m args below meth c H locs cells slots mc ms (F0 m pc ls st0) rest (kQn D tys (va_A wc H.size) wf a) (va_A wc H.size)) (hP : va_P D vwCl ws H) (hD : va_D A ws) (hS : va_S A H0 H locs) (hA : ∀ q, H0.size ≤ q → A q) (hC : isC.map (fun i => ws[i]?) = wc.map some) (hR : isR.map (fun i => ws[i]?) = wr.map some) (hn : va_nd isR = true) (hdis : ∀ i ∈ isR, i ∉ isC)
    (kk : ∀ (u : S) (H1 : Heap) (locs1 : List Loc), va_P D vwCl (wr ++ wf u) H1 → va_D A (wr ++ wf u) → va_S A H0 H1 locs1 → W p l e R s m args below meth c H1 locs1 (cells + mc) (slots + ms) Q (F0 m (pc + 3) ls rest)) : W p l e R s m args below meth c H locs cells slots Q (F0 m pc ls st0) := by
  have hFc := va_free hD hS hA isC hC
  refine va_callv hr hS (fun q _ h => hFc q h) hFc (fun u t H1 locs1 ht hvm hw hB hz1 hk1 hS1 => ?_)
  obtain ⟨hP1, -, hD1⟩ := hB
  rw [ht] at hP1
  obtain ⟨hP2, hD2⟩ := va_join hP hD isC isR hC hR hn hdis hk1 hFc hP1 hD1
  exact kk u H1 locs1 hP2 hD2 hS1
theorem kretN {S : Type} {wf : S → va_W} (u : S) (hx : p.tables.exec = Jvm.exec) (hb : c.code = cc) (hr : meth.sig.returnType = none) (hlk : meth.locks = false) (hS : va_S A s.heap H locs) (hP : va_P D vwCl (wf u) H) (hD : va_D A (wf u)) (hK : va_K D vwCl tys s) (hdg : decode cc pc = .ok (.return_, 1)) : W p l e R s m args below meth c H locs cells slots (MQ below (kQn D tys A wf) args s cells slots A) (F0 m pc ls []) :=
  W.vret hx hb hr (fun t ht hW => ⟨⟨u, rfl, trivial, by rw [ht]; exact hP, va_K.moved hW.alike hK, hD⟩, hS.F ht⟩) hS.2.2 hdg hlk
theorem kArrI {cA : ClassId} (h : va_K D vwCl (kT cI cZ ++ [(cA, .int)]) s) : cA = cI := by
  have h1 : s.vm.findClass ("[" ++ (FieldType.int).toString) = some cI := (h.2 0 (cI, .int) rfl).2
  have h2 : s.vm.findClass ("[" ++ (FieldType.int).toString) = some cA := (h.2 2 (cA, .int) rfl).2
  exact Option.some.inj (h2.symm.trans h1)
theorem kArrZ {cA : ClassId} (h : va_K D vwCl (kT cI cZ ++ [(cA, .boolean)]) s) : cA = cZ := by
  have h1 : s.vm.findClass ("[" ++ (FieldType.boolean).toString) = some cZ := (h.2 1 (cZ, .boolean) rfl).2
  have h2 : s.vm.findClass ("[" ++ (FieldType.boolean).toString) = some cA := (h.2 2 (cA, .boolean) rfl).2
  exact Option.some.inj (h2.symm.trans h1)
theorem knewI {n : Int32} {N' : Nat} (hx : p.tables.exec = Jvm.exec) (hb : c.code = cc) (harr : (Cond.arrayClass .int).before args s = true) (hK : va_K D vwCl (kT cI cZ) s) (hP : va_P D vwCl ws H) (hD : va_D A ws) (hS : va_S A H0 H locs) (hA : ∀ q, H0.size ≤ q → A q) (hn : ¬ n < 0) (hN : n.toNatClampNeg = N') (hbytes : N' * componentBytes .int ≤ 536870912) (hcells : cells + 1 ≤ R.cells) (hslots : slots + N' ≤ R.slots) (hdg : decode cc pc = .ok (.newarray .int, 2))
    (kk : ∀ (q : Nat) (H1 : Heap), va_P D vwCl (ws ++ [(q, .inl (cI, N', .inl (fun _ => 0)))]) H1 → va_D A (ws ++ [(q, .inl (cI, N', .inl (fun _ => 0)))]) → va_S A H0 H1 locs → W p l e R s m args below meth c H1 locs (cells + 1) (slots + N') Q (F0 m (pc + 2) ls (.ref q :: rest))) : W p l e R s m args below meth c H locs cells slots Q (F0 m pc ls (.int n :: rest)) := by
  refine va_newa (atype := .int) (a0 := (N', .inl (fun _ => 0))) hx hb harr rfl hK hP hD hS hA (fun _ => rfl) hn hN hbytes hcells hslots hdg (fun q cA H1 hK1 hP1 hD1 hS1 => ?_)
  have e := kArrI hK1
  subst e
  exact kk q H1 hP1 hD1 hS1
theorem knewZ {n : Int32} {N' : Nat} (hx : p.tables.exec = Jvm.exec) (hb : c.code = cc) (harr : (Cond.arrayClass .boolean).before args s = true) (hK : va_K D vwCl (kT cI cZ) s) (hP : va_P D vwCl ws H) (hD : va_D A ws) (hS : va_S A H0 H locs) (hA : ∀ q, H0.size ≤ q → A q) (hn : ¬ n < 0) (hN : n.toNatClampNeg = N') (hbytes : N' * componentBytes .boolean ≤ 536870912) (hcells : cells + 1 ≤ R.cells) (hslots : slots + N' ≤ R.slots) (hdg : decode cc pc = .ok (.newarray .boolean, 2))
    (kk : ∀ (q : Nat) (H1 : Heap), va_P D vwCl (ws ++ [(q, .inl (cZ, N', .inl (fun _ => 0)))]) H1 → va_D A (ws ++ [(q, .inl (cZ, N', .inl (fun _ => 0)))]) → va_S A H0 H1 locs → W p l e R s m args below meth c H1 locs (cells + 1) (slots + N') Q (F0 m (pc + 2) ls (.ref q :: rest))) : W p l e R s m args below meth c H locs cells slots Q (F0 m pc ls (.int n :: rest)) := by
  refine va_newa (atype := .boolean) (a0 := (N', .inl (fun _ => 0))) hx hb harr rfl hK hP hD hS hA (fun _ => rfl) hn hN hbytes hcells hslots hdg (fun q cA H1 hK1 hP1 hD1 hS1 => ?_)
  have e := kArrZ hK1
  subst e
  exact kk q H1 hP1 hD1 hS1
end KN
section KO
variable {l : Launch} {y : MethodName} {w w' : List Cond} {rm : Room} {D : va_G} {tys : List (ClassId × FieldType)} {vals : List Value} {ws w1 : va_W} {cc : ByteArray} {maxL : Nat} {ret : Option FieldType}
/-- the entry of a method, as every walk begins -/
abbrev kBody (l : Launch) (y : MethodName) (w : List Cond) (rm : Room) (D : va_G) (tys : List (ClassId × FieldType)) (vals : List Value) (ws : va_W) (cc : ByteArray) (maxL : Nat) (ret : Option FieldType) (mc ms : Nat) (Qc : (Nat → Prop) → Array Value → State → Outcome → State → Prop) : Prop :=
  ∀ (p : Program) (e : Env) (s : State) (m : MethodId) (args : Array Value) (below : List Frame) (meth : Method) (c : Code) (A : Nat → Prop) (ls : Array Slot), p.tables.exec = Jvm.exec → c.code = cc → c.maxLocals = maxL → s.vm.findClass y.cls = some m.cls → (∀ q ∈ w, q.before args s = true) → kNw s → meth.sig.returnType = ret → meth.locks = false → (y.name = "<init>" → meth.name = "<init>") → (∀ q, s.heap.size ≤ q → A q) → va_S A s.heap s.heap [] → va_P D vwCl ws s.heap → va_D A ws → va_K D vwCl tys s → lv_has ls maxL (lv_args 0 vals) → W p l e rm s m args below meth c s.heap [] 0 0 (MQ below (Qc A) args s mc ms A) (F0 m 0 ls [])
theorem kOf {mc ms : Nat} {Qc : (Nat → Prop) → Array Value → State → Outcome → State → Prop} (hy : plainName y.cls = true) (hw : w = Cond.code y cc maxL ret :: w') (hlen : (lg_sl vals).length ≤ maxL) (body : kBody l y w rm D tys vals ws cc maxL ret mc ms Qc) (sz : Nat) : Met l y w rm (va_Pc vals (kB D tys ws sz)) (Qc (va_A ws sz)) mc ms (va_A ws sz) := by
  refine Met.ofW (cc := cc) (maxL := maxL) (ret := ret) hy hw ?_
  intro p e s m args below meth c s₁ B hml hv
  obtain ⟨rfl, hsz, hP, hK, hD0, hNw⟩ := hv
  subst hsz
  rw [lg_entry_eq]
  exact body p e s m _ below meth c (va_A ws s.heap.size) _ B.exec B.bytes hml (findClass_of_methodNamed B.named) (atoms_spec (ws := w) B.pre) hNw B.returns B.notSynchronized (fun h => (name_of_methodNamed B.named B.method).1.trans h) (fun q h => Or.inr h) va_S.rf hP hD0.self hK (lv_entry vals hlen)
end KO
end
section
abbrev RS : Type := Int32 × Int32
/-- size, made, handles, attributes, values, owners -/
abbrev KS : Type := Nat × Int32 × (Nat → Int32) × (Nat → Int32) × (Nat → Int32) × (Nat → Int32)
/-- user role, officer role, logged in, generated, open sessions, read-write sessions, keys -/
abbrev XS : Type := RS × RS × Int32 × Int32 × Int32 × Int32 × KS
/-- sessions, inside, pins, failures, made, generated, there, value, owner, marks -/
abbrev YS : Type := (Nat → Int32) × Int32 × (Nat → Int32) × (Nat → Int32) × Nat × Int32 × (Nat → Int32) × (Nat → Int32) × (Nat → Int32) × (Nat → Int32)
abbrev wR (ra : Nat) (r : RS) : va_W := [(ra, .inr (1, [.int r.1, .int r.2]))]
abbrev wK (cI : ClassId) (ak a1 a2 a3 a4 : Nat) (K : KS) : va_W := [(ak, .inr (2, [.ref a1, .ref a2, .ref a3, .ref a4, .int (nI K.1), .int K.2.1])), (a1, .inl (cI, 10, .inl K.2.2.1)), (a2, .inl (cI, 10, .inl K.2.2.2.1)), (a3, .inl (cI, 10, .inl K.2.2.2.2.1)), (a4, .inl (cI, 10, .inl K.2.2.2.2.2))]
abbrev wX (cI : ClassId) (ao au af ak a1 a2 a3 a4 : Nat) (x : XS) : va_W := [(ao, .inr (0, [.ref au, .ref af, .ref ak, .int x.2.2.1, .int x.2.2.2.1, .int x.2.2.2.2.1, .int x.2.2.2.2.2.1])), (au, .inr (1, [.int x.1.1, .int x.1.2])), (af, .inr (1, [.int x.2.1.1, .int x.2.1.2])), (ak, .inr (2, [.ref a1, .ref a2, .ref a3, .ref a4, .int (nI x.2.2.2.2.2.2.1), .int x.2.2.2.2.2.2.2.1])), (a1, .inl (cI, 10, .inl x.2.2.2.2.2.2.2.2.1)), (a2, .inl (cI, 10, .inl x.2.2.2.2.2.2.2.2.2.1)), (a3, .inl (cI, 10, .inl x.2.2.2.2.2.2.2.2.2.2.1)), (a4, .inl (cI, 10, .inl x.2.2.2.2.2.2.2.2.2.2.2))]
abbrev wY (cI : ClassId) (cZ : ClassId) (bo b1 b2 b3 b4 b5 b6 b7 : Nat) (y : YS) : va_W := [(bo, .inr (3, [.ref b1, .int y.2.1, .ref b2, .ref b3, .int (nI y.2.2.2.2.1), .int y.2.2.2.2.2.1, .ref b4, .ref b5, .ref b6, .ref b7])), (b1, .inl (cI, 3, .inl y.1)), (b2, .inl (cI, 3, .inl y.2.2.1)), (b3, .inl (cI, 3, .inl y.2.2.2.1)), (b4, .inl (cZ, 512, .inl y.2.2.2.2.2.2.1)), (b5, .inl (cI, 512, .inl y.2.2.2.2.2.2.2.1)), (b6, .inl (cI, 512, .inl y.2.2.2.2.2.2.2.2.1)), (b7, .inl (cI, 512, .inl y.2.2.2.2.2.2.2.2.2))]

theorem kz0 : (0 : Int32) = 0 ∨ (0 : Int32) = 1 := Or.inl rfl
theorem kz1 : (1 : Int32) = 0 ∨ (1 : Int32) = 1 := Or.inr rfl
theorem kz_ite {c : Prop} [Decidable c] {a b : Int32} (ha : a = 0 ∨ a = 1) (hb : b = 0 ∨ b = 1) : (if c then a else b) = 0 ∨ (if c then a else b) = 1 := by
  split
  · exact ha
  · exact hb
theorem knar01 {z : Int32} (h : z = 0 ∨ z = 1) : vp_nar .boolean z = z := by
  rcases h with h | h <;> rw [h] <;> decide
theorem kin {n N : Nat} {i : Int32} (hn : n ≤ N) (hN : N < 2 ^ 31) (h1 : ¬ i < 0) (h2 : ¬ nI n ≤ i) : vp_in i N := by
  obtain ⟨j, hj, rfl⟩ := nI_of h1
  rw [nI_leI (by omega) hj] at h2
  exact vp_in_nI (by omega) hN
theorem kin3 {i : Int32} (h1 : ¬ i < 0) (h2 : ¬ 2 < i) : vp_in i 3 := by
  obtain ⟨j, hj, rfl⟩ := nI_of h1
  have h3 : ¬ nI 2 < nI j := h2
  rw [nI_ltI (by decide) hj] at h3
  exact vp_in_nI (by omega) (by decide)
theorem kin1 {n : Nat} {i : Int32} (hn : n ≤ 512) (h1 : ¬ i < 1) (h2 : ¬ nI n < i) : vp_in (i - 1) 512 := by
  have h0 : ¬ i < 0 := fun h => h1 (Int32.lt_trans h (by decide))
  obtain ⟨j, hj, rfl⟩ := nI_of h0
  have h3 : ¬ nI j < nI 1 := h1
  rw [nI_ltI hj (by decide)] at h3
  rw [nI_ltI (by omega) hj] at h2
  obtain ⟨k, rfl⟩ : ∃ k, j = k + 1 := ⟨j - 1, by omega⟩
  rw [nI_pred]
  exact vp_in_nI (by omega) (by decide)
theorem kwho {c : Prop} [Decidable c] : vp_in (if c then (1 : Int32) else 2) 3 := by
  split
  · exact vp_in_nI (n := 1) (by decide) (by decide)
  · exact vp_in_nI (n := 2) (by decide) (by decide)
end
section
def zw_byteOf (g1 : Int32) (g2 : Int32) : Int32 := ((zush g1 (8 * g2)) &&& 255)

set_option maxHeartbeats 4000000 in
set_option maxRecDepth 100000 in
theorem kw_byteOf (l : Launch) (D : va_G) (cI cZ : ClassId) (g1 : Int32) (g2 : Int32) : kI l yW_byteOf wsW_byteOf (rmOf 0 0) D (kT cI cZ) [.int g1, .int g2] [] (zw_byteOf g1 g2) [] := by
  intro sz
  refine kOf (Qc := fun A => kQi D (kT cI cZ) A (zw_byteOf g1 g2) []) (cc := cW_byteOf) (maxL := 2) (ret := some .int) (by decide) rfl (Nat.le_of_ble_eq_true rfl) ?_ sz
  intro p e s m args below meth c A ls hx hb hml hown hts hNw hr hlk hin hA hS hP hD hK hl
  show W p l e (rmOf 0 0) s m args below meth c s.heap [] 0 0 (MQ below (kQi D (kT cI cZ) A (zw_byteOf g1 g2) []) args s 0 0 A) (F0 m 0 ls [])
  have hts : ∀ q ∈ lw_g, q.before args s = true := fun q h => hts q (List.mem_cons_of_mem _ h)
  have hown : s.vm.findClass cnW = some m.cls := hown
  have hl : lv_has ls 2 [(0, .int g1), (1, .int g2)] := hl
  have hP : va_P D vwCl [] s.heap := hP
  have hD : va_D A [] := hD
  refine lv_iload_n hx hb dW_byteOf_0 rfl (lv_at hl 0 rfl) ?_
  refine lv_bipush (v := 8) hx hb dW_byteOf_1 (by decide) ?_
  refine lv_iload_n hx hb dW_byteOf_3 rfl (lv_at hl 1 rfl) ?_
  refine lv_imul hx hb dW_byteOf_4 ?_
  refine lv_iushr (v := (zush g1 (8 * g2))) hx hb dW_byteOf_5 rfl ?_
  refine lv_sipush (v := 255) hx hb dW_byteOf_6 (by decide) ?_
  refine lv_iand hx hb dW_byteOf_9 ?_
  exact kretP (rfl) hx hb hr hlk hS hP hD hK dW_byteOf_10

def zw_half (g1 : Int32) (g2 : Int32) (g3 : Int32) : Int32 := (((((g3 * 40503) + ((zw_byteOf g1 g2) * 257)) + (g2 * 4099)) ^^^ (zush (((g3 * 40503) + ((zw_byteOf g1 g2) * 257)) + (g2 * 4099)) 7)) &&& 65535)

set_option maxHeartbeats 4000000 in
set_option maxRecDepth 100000 in
theorem kw_half (l : Launch) (D : va_G) (cI cZ : ClassId) (g1 : Int32) (g2 : Int32) (g3 : Int32) : kI l yW_half wsW_half (rmOf 1 21) D (kT cI cZ) [.int g1, .int g2, .int g3] [] (zw_half g1 g2 g3) [] := by
  intro sz
  refine kOf (Qc := fun A => kQi D (kT cI cZ) A (zw_half g1 g2 g3) []) (cc := cW_half) (maxL := 4) (ret := some .int) (by decide) rfl (Nat.le_of_ble_eq_true rfl) ?_ sz
  intro p e s m args below meth c A ls hx hb hml hown hts hNw hr hlk hin hA hS hP hD hK hl
  show W p l e (rmOf 1 21) s m args below meth c s.heap [] 0 0 (MQ below (kQi D (kT cI cZ) A (zw_half g1 g2 g3) []) args s 0 0 A) (F0 m 0 ls [])
  have hts : ∀ q ∈ lw_g, q.before args s = true := fun q h => hts q (List.mem_cons_of_mem _ h)
  have hown : s.vm.findClass cnW = some m.cls := hown
  have hl : lv_has ls 4 [(0, .int g1), (1, .int g2), (2, .int g3)] := hl
  have hP : va_P D vwCl [] s.heap := hP
  have hD : va_D A [] := hD
  refine lv_iload_n hx hb dW_half_0 rfl (lv_at hl 2 rfl) ?_
  refine lv_ldc (v := 40503) hx hb hown (hts _ mw247) dW_half_1 ?_
  refine lv_imul hx hb dW_half_3 ?_
  refine lv_iload_n hx hb dW_half_4 rfl (lv_at hl 0 rfl) ?_
  refine lv_iload_n hx hb dW_half_5 rfl (lv_at hl 1 rfl) ?_
  refine kcI (isR := []) (isC := []) (wr := []) (w2 := []) (va_runS (As := [.int g1, .int g2]) (rest := [.int (g3 * 40503)]) ⟨hx, hb, hml, hown, hts⟩ (kw_byteOf l D cI cZ g1 g2 _) ⟨(callB_of 2 hts gd_yW_byteOf rfl rfl rfl (hts _ mw28) (hts _ mw182) (by decide +kernel) ⟨Nat.le_of_ble_eq_true rfl, Nat.le_of_ble_eq_true rfl⟩), hts _ mw183⟩ (kpreS hNw hP hD hK [] rfl (by decide)) rfl rfl hl.1 rfl (lv_room (Nat.le_of_ble_eq_true rfl)) dW_half_6 ⟨Nat.le_of_ble_eq_true rfl, Nat.le_of_ble_eq_true rfl⟩) hP hD hS hA [] rfl rfl (by decide) (by decide) (by decide) rfl (fun H locs hP hD hS => ?_)
  refine lv_sipush (v := 257) hx hb dW_half_9 (by decide) ?_
  refine lv_imul hx hb dW_half_12 ?_
  refine lv_iadd hx hb dW_half_13 ?_
  refine lv_iload_n hx hb dW_half_14 rfl (lv_at hl 1 rfl) ?_
  refine lv_sipush (v := 4099) hx hb dW_half_15 (by decide) ?_
  refine lv_imul hx hb dW_half_18 ?_
  refine lv_iadd hx hb dW_half_19 ?_
  refine lv_istore_n hx hb dW_half_20 rfl hl (by decide) rfl (fun ls hl => ?_)
  have hl : lv_has ls 4 [(3, .int (((g3 * 40503) + ((zw_byteOf g1 g2) * 257)) + (g2 * 4099))), (0, .int g1), (1, .int g2), (2, .int g3)] := hl
  refine lv_iload_n hx hb dW_half_21 rfl (lv_at hl 0 rfl) ?_
  refine lv_iload_n hx hb dW_half_22 rfl (lv_at hl 0 rfl) ?_
  refine lv_bipush (v := 7) hx hb dW_half_23 (by decide) ?_
  refine lv_iushr (v := (zush (((g3 * 40503) + ((zw_byteOf g1 g2) * 257)) + (g2 * 4099)) 7)) hx hb dW_half_25 rfl ?_
  refine lv_ixor hx hb dW_half_26 ?_
  refine lv_ldc (v := 65535) hx hb hown (hts _ mw243) dW_half_27 ?_
  refine lv_iand hx hb dW_half_29 ?_
  exact kretP (rfl) hx hb hr hlk hS hP hD hK dW_half_30

def zw_enc (g1 : Int32) (g2 : Int32) : Int32 := (((((zush g2 16) ^^^ (zw_half g1 0 (g2 &&& 65535))) ^^^ (zw_half g1 2 ((g2 &&& 65535) ^^^ (zw_half g1 1 ((zush g2 16) ^^^ (zw_half g1 0 (g2 &&& 65535))))))) * 65536) + (((g2 &&& 65535) ^^^ (zw_half g1 1 ((zush g2 16) ^^^ (zw_half g1 0 (g2 &&& 65535))))) ^^^ (zw_half g1 3 (((zush g2 16) ^^^ (zw_half g1 0 (g2 &&& 65535))) ^^^ (zw_half g1 2 ((g2 &&& 65535) ^^^ (zw_half g1 1 ((zush g2 16) ^^^ (zw_half g1 0 (g2 &&& 65535))))))))))

set_option maxHeartbeats 4000000 in
set_option maxRecDepth 100000 in
theorem kw_enc (l : Launch) (D : va_G) (cI cZ : ClassId) (g1 : Int32) (g2 : Int32) : kI l yW_enc wsW_enc (rmOf 2 44) D (kT cI cZ) [.int g1, .int g2] [] (zw_enc g1 g2) [] := by
  intro sz
  refine kOf (Qc := fun A => kQi D (kT cI cZ) A (zw_enc g1 g2) []) (cc := cW_enc) (maxL := 6) (ret := some .int) (by decide) rfl (Nat.le_of_ble_eq_true rfl) ?_ sz
  intro p e s m args below meth c A ls hx hb hml hown hts hNw hr hlk hin hA hS hP hD hK hl
  show W p l e (rmOf 2 44) s m args below meth c s.heap [] 0 0 (MQ below (kQi D (kT cI cZ) A (zw_enc g1 g2) []) args s 0 0 A) (F0 m 0 ls [])
  have hts : ∀ q ∈ lw_g, q.before args s = true := fun q h => hts q (List.mem_cons_of_mem _ h)
  have hown : s.vm.findClass cnW = some m.cls := hown
  have hl : lv_has ls 6 [(0, .int g1), (1, .int g2)] := hl
  have hP : va_P D vwCl [] s.heap := hP
  have hD : va_D A [] := hD
  refine lv_iload_n hx hb dW_enc_0 rfl (lv_at hl 1 rfl) ?_
  refine lv_bipush (v := 16) hx hb dW_enc_1 (by decide) ?_
  refine lv_iushr (v := (zush g2 16)) hx hb dW_enc_3 rfl ?_
  refine lv_istore_n hx hb dW_enc_4 rfl hl (by decide) rfl (fun ls hl => ?_)
  have hl : lv_has ls 6 [(2, .int (zush g2 16)), (0, .int g1), (1, .int g2)] := hl
  refine lv_iload_n hx hb dW_enc_5 rfl (lv_at hl 2 rfl) ?_
  refine lv_ldc (v := 65535) hx hb hown (hts _ mw243) dW_enc_6 ?_
  refine lv_iand hx hb dW_enc_8 ?_
  refine lv_istore_n hx hb dW_enc_9 rfl hl (by decide) rfl (fun ls hl => ?_)
  have hl : lv_has ls 6 [(3, .int (g2 &&& 65535)), (2, .int (zush g2 16)), (0, .int g1), (1, .int g2)] := hl
  refine lv_iconst (v := 0) hx hb dW_enc_10 (by decide) ?_
  refine lv_istore hx hb dW_enc_11 hl (by decide) rfl (fun ls hl => ?_)
  have hl : lv_has ls 6 [(4, .int 0), (3, .int (g2 &&& 65535)), (2, .int (zush g2 16)), (0, .int g1), (1, .int g2)] := hl
  refine lv_iload hx hb dW_enc_13 (lv_at hl 0 rfl) ?_
  refine lv_iconst (v := 4) hx hb dW_enc_15 (by decide) ?_
  refine lv_icmp_ge (tgt := 41) hx hb dW_enc_16 (by decide) (fun h => absurd h (by decide)) (fun _ => ?_)
  refine lv_iload_n hx hb dW_enc_19 rfl (lv_at hl 2 rfl) ?_
  refine lv_iload_n hx hb dW_enc_20 rfl (lv_at hl 3 rfl) ?_
  refine lv_iload hx hb dW_enc_21 (lv_at hl 0 rfl) ?_
  refine lv_iload_n hx hb dW_enc_23 rfl (lv_at hl 1 rfl) ?_
  refine kcI (isR := []) (isC := []) (wr := []) (w2 := []) (va_runS (As := [.int g1, .int 0, .int (g2 &&& 65535)]) (rest := [.int (zush g2 16)]) ⟨hx, hb, hml, hown, hts⟩ (kw_half l D cI cZ g1 0 (g2 &&& 65535) _) ⟨(callB_of 3 hts gd_yW_half rfl rfl rfl (hts _ mw28) (hts _ mw244) (by decide +kernel) ⟨Nat.le_of_ble_eq_true rfl, Nat.le_of_ble_eq_true rfl⟩), hts _ mw245⟩ (kpreS hNw hP hD hK [] rfl (by decide)) rfl rfl hl.1 rfl (lv_room (Nat.le_of_ble_eq_true rfl)) dW_enc_24 ⟨Nat.le_of_ble_eq_true rfl, Nat.le_of_ble_eq_true rfl⟩) hP hD hS hA [] rfl rfl (by decide) (by decide) (by decide) rfl (fun H locs hP hD hS => ?_)
  refine lv_ixor hx hb dW_enc_27 ?_
  refine lv_istore hx hb dW_enc_28 hl (by decide) rfl (fun ls hl => ?_)
  have hl : lv_has ls 6 [(5, .int ((zush g2 16) ^^^ (zw_half g1 0 (g2 &&& 65535)))), (4, .int 0), (3, .int (g2 &&& 65535)), (2, .int (zush g2 16)), (0, .int g1), (1, .int g2)] := hl
  refine lv_iload_n hx hb dW_enc_30 rfl (lv_at hl 2 rfl) ?_
  refine lv_istore_n hx hb dW_enc_31 rfl hl (by decide) rfl (fun ls hl => ?_)
  have hl : lv_has ls 6 [(2, .int (g2 &&& 65535)), (5, .int ((zush g2 16) ^^^ (zw_half g1 0 (g2 &&& 65535)))), (4, .int 0), (3, .int (g2 &&& 65535)), (0, .int g1), (1, .int g2)] := hl
  refine lv_iload hx hb dW_enc_32 (lv_at hl 1 rfl) ?_
  refine lv_istore_n hx hb dW_enc_34 rfl hl (by decide) rfl (fun ls hl => ?_)
  have hl : lv_has ls 6 [(3, .int ((zush g2 16) ^^^ (zw_half g1 0 (g2 &&& 65535)))), (2, .int (g2 &&& 65535)), (5, .int ((zush g2 16) ^^^ (zw_half g1 0 (g2 &&& 65535)))), (4, .int 0), (0, .int g1), (1, .int g2)] := hl
  refine lv_iinc (k := 3) (v := 1) hx hb dW_enc_35 hl rfl (by decide) (by decide) rfl (fun ls hl => ?_)
  have hl : lv_has ls 6 [(4, .int 1), (3, .int ((zush g2 16) ^^^ (zw_half g1 0 (g2 &&& 65535)))), (2, .int (g2 &&& 65535)), (5, .int ((zush g2 16) ^^^ (zw_half g1 0 (g2 &&& 65535)))), (0, .int g1), (1, .int g2)] := hl
  refine lv_goto hx hb dW_enc_38 (tgt := 13) (by decide) ?_
  refine lv_iload hx hb dW_enc_13 (lv_at hl 0 rfl) ?_
  refine lv_iconst (v := 4) hx hb dW_enc_15 (by decide) ?_
  refine lv_icmp_ge (tgt := 41) hx hb dW_enc_16 (by decide) (fun h => absurd h (by decide)) (fun _ => ?_)
  refine lv_iload_n hx hb dW_enc_19 rfl (lv_at hl 2 rfl) ?_
  refine lv_iload_n hx hb dW_enc_20 rfl (lv_at hl 4 rfl) ?_
  refine lv_iload hx hb dW_enc_21 (lv_at hl 0 rfl) ?_
  refine lv_iload_n hx hb dW_enc_23 rfl (lv_at hl 1 rfl) ?_
  refine kcI (isR := []) (isC := []) (wr := []) (w2 := []) (va_runS (As := [.int g1, .int 1, .int ((zush g2 16) ^^^ (zw_half g1 0 (g2 &&& 65535)))]) (rest := [.int (g2 &&& 65535)]) ⟨hx, hb, hml, hown, hts⟩ (kw_half l D cI cZ g1 1 ((zush g2 16) ^^^ (zw_half g1 0 (g2 &&& 65535))) _) ⟨(callB_of 3 hts gd_yW_half rfl rfl rfl (hts _ mw28) (hts _ mw244) (by decide +kernel) ⟨Nat.le_of_ble_eq_true rfl, Nat.le_of_ble_eq_true rfl⟩), hts _ mw245⟩ (kpreS hNw hP hD hK [] rfl (by decide)) rfl rfl hl.1 rfl (lv_room (Nat.le_of_ble_eq_true rfl)) dW_enc_24 ⟨Nat.le_of_ble_eq_true rfl, Nat.le_of_ble_eq_true rfl⟩) hP hD hS hA [] rfl rfl (by decide) (by decide) (by decide) rfl (fun H locs hP hD hS => ?_)
  refine lv_ixor hx hb dW_enc_27 ?_
  refine lv_istore hx hb dW_enc_28 hl (by decide) rfl (fun ls hl => ?_)
  have hl : lv_has ls 6 [(5, .int ((g2 &&& 65535) ^^^ (zw_half g1 1 ((zush g2 16) ^^^ (zw_half g1 0 (g2 &&& 65535)))))), (4, .int 1), (3, .int ((zush g2 16) ^^^ (zw_half g1 0 (g2 &&& 65535)))), (2, .int (g2 &&& 65535)), (0, .int g1), (1, .int g2)] := hl
  refine lv_iload_n hx hb dW_enc_30 rfl (lv_at hl 2 rfl) ?_
  refine lv_istore_n hx hb dW_enc_31 rfl hl (by decide) rfl (fun ls hl => ?_)
  have hl : lv_has ls 6 [(2, .int ((zush g2 16) ^^^ (zw_half g1 0 (g2 &&& 65535)))), (5, .int ((g2 &&& 65535) ^^^ (zw_half g1 1 ((zush g2 16) ^^^ (zw_half g1 0 (g2 &&& 65535)))))), (4, .int 1), (3, .int ((zush g2 16) ^^^ (zw_half g1 0 (g2 &&& 65535)))), (0, .int g1), (1, .int g2)] := hl
  refine lv_iload hx hb dW_enc_32 (lv_at hl 1 rfl) ?_
  refine lv_istore_n hx hb dW_enc_34 rfl hl (by decide) rfl (fun ls hl => ?_)
  have hl : lv_has ls 6 [(3, .int ((g2 &&& 65535) ^^^ (zw_half g1 1 ((zush g2 16) ^^^ (zw_half g1 0 (g2 &&& 65535)))))), (2, .int ((zush g2 16) ^^^ (zw_half g1 0 (g2 &&& 65535)))), (5, .int ((g2 &&& 65535) ^^^ (zw_half g1 1 ((zush g2 16) ^^^ (zw_half g1 0 (g2 &&& 65535)))))), (4, .int 1), (0, .int g1), (1, .int g2)] := hl
  refine lv_iinc (k := 3) (v := 2) hx hb dW_enc_35 hl rfl (by decide) (by decide) rfl (fun ls hl => ?_)
  have hl : lv_has ls 6 [(4, .int 2), (3, .int ((g2 &&& 65535) ^^^ (zw_half g1 1 ((zush g2 16) ^^^ (zw_half g1 0 (g2 &&& 65535)))))), (2, .int ((zush g2 16) ^^^ (zw_half g1 0 (g2 &&& 65535)))), (5, .int ((g2 &&& 65535) ^^^ (zw_half g1 1 ((zush g2 16) ^^^ (zw_half g1 0 (g2 &&& 65535)))))), (0, .int g1), (1, .int g2)] := hl
  refine lv_goto hx hb dW_enc_38 (tgt := 13) (by decide) ?_
  refine lv_iload hx hb dW_enc_13 (lv_at hl 0 rfl) ?_
  refine lv_iconst (v := 4) hx hb dW_enc_15 (by decide) ?_
  refine lv_icmp_ge (tgt := 41) hx hb dW_enc_16 (by decide) (fun h => absurd h (by decide)) (fun _ => ?_)
  refine lv_iload_n hx hb dW_enc_19 rfl (lv_at hl 2 rfl) ?_
  refine lv_iload_n hx hb dW_enc_20 rfl (lv_at hl 4 rfl) ?_
  refine lv_iload hx hb dW_enc_21 (lv_at hl 0 rfl) ?_
  refine lv_iload_n hx hb dW_enc_23 rfl (lv_at hl 1 rfl) ?_
  refine kcI (isR := []) (isC := []) (wr := []) (w2 := []) (va_runS (As := [.int g1, .int 2, .int ((g2 &&& 65535) ^^^ (zw_half g1 1 ((zush g2 16) ^^^ (zw_half g1 0 (g2 &&& 65535)))))]) (rest := [.int ((zush g2 16) ^^^ (zw_half g1 0 (g2 &&& 65535)))]) ⟨hx, hb, hml, hown, hts⟩ (kw_half l D cI cZ g1 2 ((g2 &&& 65535) ^^^ (zw_half g1 1 ((zush g2 16) ^^^ (zw_half g1 0 (g2 &&& 65535))))) _) ⟨(callB_of 3 hts gd_yW_half rfl rfl rfl (hts _ mw28) (hts _ mw244) (by decide +kernel) ⟨Nat.le_of_ble_eq_true rfl, Nat.le_of_ble_eq_true rfl⟩), hts _ mw245⟩ (kpreS hNw hP hD hK [] rfl (by decide)) rfl rfl hl.1 rfl (lv_room (Nat.le_of_ble_eq_true rfl)) dW_enc_24 ⟨Nat.le_of_ble_eq_true rfl, Nat.le_of_ble_eq_true rfl⟩) hP hD hS hA [] rfl rfl (by decide) (by decide) (by decide) rfl (fun H locs hP hD hS => ?_)
  refine lv_ixor hx hb dW_enc_27 ?_
  refine lv_istore hx hb dW_enc_28 hl (by decide) rfl (fun ls hl => ?_)
  have hl : lv_has ls 6 [(5, .int (((zush g2 16) ^^^ (zw_half g1 0 (g2 &&& 65535))) ^^^ (zw_half g1 2 ((g2 &&& 65535) ^^^ (zw_half g1 1 ((zush g2 16) ^^^ (zw_half g1 0 (g2 &&& 65535)))))))), (4, .int 2), (3, .int ((g2 &&& 65535) ^^^ (zw_half g1 1 ((zush g2 16) ^^^ (zw_half g1 0 (g2 &&& 65535)))))), (2, .int ((zush g2 16) ^^^ (zw_half g1 0 (g2 &&& 65535)))), (0, .int g1), (1, .int g2)] := hl
  refine lv_iload_n hx hb dW_enc_30 rfl (lv_at hl 2 rfl) ?_
  refine lv_istore_n hx hb dW_enc_31 rfl hl (by decide) rfl (fun ls hl => ?_)
  have hl : lv_has ls 6 [(2, .int ((g2 &&& 65535) ^^^ (zw_half g1 1 ((zush g2 16) ^^^ (zw_half g1 0 (g2 &&& 65535)))))), (5, .int (((zush g2 16) ^^^ (zw_half g1 0 (g2 &&& 65535))) ^^^ (zw_half g1 2 ((g2 &&& 65535) ^^^ (zw_half g1 1 ((zush g2 16) ^^^ (zw_half g1 0 (g2 &&& 65535)))))))), (4, .int 2), (3, .int ((g2 &&& 65535) ^^^ (zw_half g1 1 ((zush g2 16) ^^^ (zw_half g1 0 (g2 &&& 65535)))))), (0, .int g1), (1, .int g2)] := hl
  refine lv_iload hx hb dW_enc_32 (lv_at hl 1 rfl) ?_
  refine lv_istore_n hx hb dW_enc_34 rfl hl (by decide) rfl (fun ls hl => ?_)
  have hl : lv_has ls 6 [(3, .int (((zush g2 16) ^^^ (zw_half g1 0 (g2 &&& 65535))) ^^^ (zw_half g1 2 ((g2 &&& 65535) ^^^ (zw_half g1 1 ((zush g2 16) ^^^ (zw_half g1 0 (g2 &&& 65535)))))))), (2, .int ((g2 &&& 65535) ^^^ (zw_half g1 1 ((zush g2 16) ^^^ (zw_half g1 0 (g2 &&& 65535)))))), (5, .int (((zush g2 16) ^^^ (zw_half g1 0 (g2 &&& 65535))) ^^^ (zw_half g1 2 ((g2 &&& 65535) ^^^ (zw_half g1 1 ((zush g2 16) ^^^ (zw_half g1 0 (g2 &&& 65535)))))))), (4, .int 2), (0, .int g1), (1, .int g2)] := hl
  refine lv_iinc (k := 3) (v := 3) hx hb dW_enc_35 hl rfl (by decide) (by decide) rfl (fun ls hl => ?_)
  have hl : lv_has ls 6 [(4, .int 3), (3, .int (((zush g2 16) ^^^ (zw_half g1 0 (g2 &&& 65535))) ^^^ (zw_half g1 2 ((g2 &&& 65535) ^^^ (zw_half g1 1 ((zush g2 16) ^^^ (zw_half g1 0 (g2 &&& 65535)))))))), (2, .int ((g2 &&& 65535) ^^^ (zw_half g1 1 ((zush g2 16) ^^^ (zw_half g1 0 (g2 &&& 65535)))))), (5, .int (((zush g2 16) ^^^ (zw_half g1 0 (g2 &&& 65535))) ^^^ (zw_half g1 2 ((g2 &&& 65535) ^^^ (zw_half g1 1 ((zush g2 16) ^^^ (zw_half g1 0 (g2 &&& 65535)))))))), (0, .int g1), (1, .int g2)] := hl
  refine lv_goto hx hb dW_enc_38 (tgt := 13) (by decide) ?_
  refine lv_iload hx hb dW_enc_13 (lv_at hl 0 rfl) ?_
  refine lv_iconst (v := 4) hx hb dW_enc_15 (by decide) ?_
  refine lv_icmp_ge (tgt := 41) hx hb dW_enc_16 (by decide) (fun h => absurd h (by decide)) (fun _ => ?_)
  refine lv_iload_n hx hb dW_enc_19 rfl (lv_at hl 2 rfl) ?_
  refine lv_iload_n hx hb dW_enc_20 rfl (lv_at hl 4 rfl) ?_
  refine lv_iload hx hb dW_enc_21 (lv_at hl 0 rfl) ?_
  refine lv_iload_n hx hb dW_enc_23 rfl (lv_at hl 1 rfl) ?_
  refine kcI (isR := []) (isC := []) (wr := []) (w2 := []) (va_runS (As := [.int g1, .int 3, .int (((zush g2 16) ^^^ (zw_half g1 0 (g2 &&& 65535))) ^^^ (zw_half g1 2 ((g2 &&& 65535) ^^^ (zw_half g1 1 ((zush g2 16) ^^^ (zw_half g1 0 (g2 &&& 65535)))))))]) (rest := [.int ((g2 &&& 65535) ^^^ (zw_half g1 1 ((zush g2 16) ^^^ (zw_half g1 0 (g2 &&& 65535)))))]) ⟨hx, hb, hml, hown, hts⟩ (kw_half l D cI cZ g1 3 (((zush g2 16) ^^^ (zw_half g1 0 (g2 &&& 65535))) ^^^ (zw_half g1 2 ((g2 &&& 65535) ^^^ (zw_half g1 1 ((zush g2 16) ^^^ (zw_half g1 0 (g2 &&& 65535))))))) _) ⟨(callB_of 3 hts gd_yW_half rfl rfl rfl (hts _ mw28) (hts _ mw244) (by decide +kernel) ⟨Nat.le_of_ble_eq_true rfl, Nat.le_of_ble_eq_true rfl⟩), hts _ mw245⟩ (kpreS hNw hP hD hK [] rfl (by decide)) rfl rfl hl.1 rfl (lv_room (Nat.le_of_ble_eq_true rfl)) dW_enc_24 ⟨Nat.le_of_ble_eq_true rfl, Nat.le_of_ble_eq_true rfl⟩) hP hD hS hA [] rfl rfl (by decide) (by decide) (by decide) rfl (fun H locs hP hD hS => ?_)
  refine lv_ixor hx hb dW_enc_27 ?_
  refine lv_istore hx hb dW_enc_28 hl (by decide) rfl (fun ls hl => ?_)
  have hl : lv_has ls 6 [(5, .int (((g2 &&& 65535) ^^^ (zw_half g1 1 ((zush g2 16) ^^^ (zw_half g1 0 (g2 &&& 65535))))) ^^^ (zw_half g1 3 (((zush g2 16) ^^^ (zw_half g1 0 (g2 &&& 65535))) ^^^ (zw_half g1 2 ((g2 &&& 65535) ^^^ (zw_half g1 1 ((zush g2 16) ^^^ (zw_half g1 0 (g2 &&& 65535)))))))))), (4, .int 3), (3, .int (((zush g2 16) ^^^ (zw_half g1 0 (g2 &&& 65535))) ^^^ (zw_half g1 2 ((g2 &&& 65535) ^^^ (zw_half g1 1 ((zush g2 16) ^^^ (zw_half g1 0 (g2 &&& 65535)))))))), (2, .int ((g2 &&& 65535) ^^^ (zw_half g1 1 ((zush g2 16) ^^^ (zw_half g1 0 (g2 &&& 65535)))))), (0, .int g1), (1, .int g2)] := hl
  refine lv_iload_n hx hb dW_enc_30 rfl (lv_at hl 2 rfl) ?_
  refine lv_istore_n hx hb dW_enc_31 rfl hl (by decide) rfl (fun ls hl => ?_)
  have hl : lv_has ls 6 [(2, .int (((zush g2 16) ^^^ (zw_half g1 0 (g2 &&& 65535))) ^^^ (zw_half g1 2 ((g2 &&& 65535) ^^^ (zw_half g1 1 ((zush g2 16) ^^^ (zw_half g1 0 (g2 &&& 65535)))))))), (5, .int (((g2 &&& 65535) ^^^ (zw_half g1 1 ((zush g2 16) ^^^ (zw_half g1 0 (g2 &&& 65535))))) ^^^ (zw_half g1 3 (((zush g2 16) ^^^ (zw_half g1 0 (g2 &&& 65535))) ^^^ (zw_half g1 2 ((g2 &&& 65535) ^^^ (zw_half g1 1 ((zush g2 16) ^^^ (zw_half g1 0 (g2 &&& 65535)))))))))), (4, .int 3), (3, .int (((zush g2 16) ^^^ (zw_half g1 0 (g2 &&& 65535))) ^^^ (zw_half g1 2 ((g2 &&& 65535) ^^^ (zw_half g1 1 ((zush g2 16) ^^^ (zw_half g1 0 (g2 &&& 65535)))))))), (0, .int g1), (1, .int g2)] := hl
  refine lv_iload hx hb dW_enc_32 (lv_at hl 1 rfl) ?_
  refine lv_istore_n hx hb dW_enc_34 rfl hl (by decide) rfl (fun ls hl => ?_)
  have hl : lv_has ls 6 [(3, .int (((g2 &&& 65535) ^^^ (zw_half g1 1 ((zush g2 16) ^^^ (zw_half g1 0 (g2 &&& 65535))))) ^^^ (zw_half g1 3 (((zush g2 16) ^^^ (zw_half g1 0 (g2 &&& 65535))) ^^^ (zw_half g1 2 ((g2 &&& 65535) ^^^ (zw_half g1 1 ((zush g2 16) ^^^ (zw_half g1 0 (g2 &&& 65535)))))))))), (2, .int (((zush g2 16) ^^^ (zw_half g1 0 (g2 &&& 65535))) ^^^ (zw_half g1 2 ((g2 &&& 65535) ^^^ (zw_half g1 1 ((zush g2 16) ^^^ (zw_half g1 0 (g2 &&& 65535)))))))), (5, .int (((g2 &&& 65535) ^^^ (zw_half g1 1 ((zush g2 16) ^^^ (zw_half g1 0 (g2 &&& 65535))))) ^^^ (zw_half g1 3 (((zush g2 16) ^^^ (zw_half g1 0 (g2 &&& 65535))) ^^^ (zw_half g1 2 ((g2 &&& 65535) ^^^ (zw_half g1 1 ((zush g2 16) ^^^ (zw_half g1 0 (g2 &&& 65535)))))))))), (4, .int 3), (0, .int g1), (1, .int g2)] := hl
  refine lv_iinc (k := 3) (v := 4) hx hb dW_enc_35 hl rfl (by decide) (by decide) rfl (fun ls hl => ?_)
  have hl : lv_has ls 6 [(4, .int 4), (3, .int (((g2 &&& 65535) ^^^ (zw_half g1 1 ((zush g2 16) ^^^ (zw_half g1 0 (g2 &&& 65535))))) ^^^ (zw_half g1 3 (((zush g2 16) ^^^ (zw_half g1 0 (g2 &&& 65535))) ^^^ (zw_half g1 2 ((g2 &&& 65535) ^^^ (zw_half g1 1 ((zush g2 16) ^^^ (zw_half g1 0 (g2 &&& 65535)))))))))), (2, .int (((zush g2 16) ^^^ (zw_half g1 0 (g2 &&& 65535))) ^^^ (zw_half g1 2 ((g2 &&& 65535) ^^^ (zw_half g1 1 ((zush g2 16) ^^^ (zw_half g1 0 (g2 &&& 65535)))))))), (5, .int (((g2 &&& 65535) ^^^ (zw_half g1 1 ((zush g2 16) ^^^ (zw_half g1 0 (g2 &&& 65535))))) ^^^ (zw_half g1 3 (((zush g2 16) ^^^ (zw_half g1 0 (g2 &&& 65535))) ^^^ (zw_half g1 2 ((g2 &&& 65535) ^^^ (zw_half g1 1 ((zush g2 16) ^^^ (zw_half g1 0 (g2 &&& 65535)))))))))), (0, .int g1), (1, .int g2)] := hl
  refine lv_goto hx hb dW_enc_38 (tgt := 13) (by decide) ?_
  refine lv_iload hx hb dW_enc_13 (lv_at hl 0 rfl) ?_
  refine lv_iconst (v := 4) hx hb dW_enc_15 (by decide) ?_
  refine lv_icmp_ge (tgt := 41) hx hb dW_enc_16 (by decide) (fun _ => ?_) (fun h => absurd h (by decide))
  refine lv_iload_n hx hb dW_enc_41 rfl (lv_at hl 2 rfl) ?_
  refine lv_ldc (v := 65536) hx hb hown (hts _ mw248) dW_enc_42 ?_
  refine lv_imul hx hb dW_enc_44 ?_
  refine lv_iload_n hx hb dW_enc_45 rfl (lv_at hl 1 rfl) ?_
  refine lv_iadd hx hb dW_enc_46 ?_
  exact kretP (rfl) hx hb hr hlk hS hP hD hK dW_enc_47

def zw_dec (g1 : Int32) (g2 : Int32) : Int32 := (((((zush g2 16) ^^^ (zw_half g1 2 ((g2 &&& 65535) ^^^ (zw_half g1 3 (zush g2 16))))) ^^^ (zw_half g1 0 (((g2 &&& 65535) ^^^ (zw_half g1 3 (zush g2 16))) ^^^ (zw_half g1 1 ((zush g2 16) ^^^ (zw_half g1 2 ((g2 &&& 65535) ^^^ (zw_half g1 3 (zush g2 16))))))))) * 65536) + (((g2 &&& 65535) ^^^ (zw_half g1 3 (zush g2 16))) ^^^ (zw_half g1 1 ((zush g2 16) ^^^ (zw_half g1 2 ((g2 &&& 65535) ^^^ (zw_half g1 3 (zush g2 16))))))))

set_option maxHeartbeats 4000000 in
set_option maxRecDepth 100000 in
theorem kw_dec (l : Launch) (D : va_G) (cI cZ : ClassId) (g1 : Int32) (g2 : Int32) : kI l yW_dec wsW_dec (rmOf 2 44) D (kT cI cZ) [.int g1, .int g2] [] (zw_dec g1 g2) [] := by
  intro sz
  refine kOf (Qc := fun A => kQi D (kT cI cZ) A (zw_dec g1 g2) []) (cc := cW_dec) (maxL := 6) (ret := some .int) (by decide) rfl (Nat.le_of_ble_eq_true rfl) ?_ sz
  intro p e s m args below meth c A ls hx hb hml hown hts hNw hr hlk hin hA hS hP hD hK hl
  show W p l e (rmOf 2 44) s m args below meth c s.heap [] 0 0 (MQ below (kQi D (kT cI cZ) A (zw_dec g1 g2) []) args s 0 0 A) (F0 m 0 ls [])
  have hts : ∀ q ∈ lw_g, q.before args s = true := fun q h => hts q (List.mem_cons_of_mem _ h)
  have hown : s.vm.findClass cnW = some m.cls := hown
  have hl : lv_has ls 6 [(0, .int g1), (1, .int g2)] := hl
  have hP : va_P D vwCl [] s.heap := hP
  have hD : va_D A [] := hD
  refine lv_iload_n hx hb dW_dec_0 rfl (lv_at hl 1 rfl) ?_
  refine lv_bipush (v := 16) hx hb dW_dec_1 (by decide) ?_
  refine lv_iushr (v := (zush g2 16)) hx hb dW_dec_3 rfl ?_
  refine lv_istore_n hx hb dW_dec_4 rfl hl (by decide) rfl (fun ls hl => ?_)
  have hl : lv_has ls 6 [(2, .int (zush g2 16)), (0, .int g1), (1, .int g2)] := hl
  refine lv_iload_n hx hb dW_dec_5 rfl (lv_at hl 2 rfl) ?_
  refine lv_ldc (v := 65535) hx hb hown (hts _ mw243) dW_dec_6 ?_
  refine lv_iand hx hb dW_dec_8 ?_
  refine lv_istore_n hx hb dW_dec_9 rfl hl (by decide) rfl (fun ls hl => ?_)
  have hl : lv_has ls 6 [(3, .int (g2 &&& 65535)), (2, .int (zush g2 16)), (0, .int g1), (1, .int g2)] := hl
  refine lv_iconst (v := 3) hx hb dW_dec_10 (by decide) ?_
  refine lv_istore hx hb dW_dec_11 hl (by decide) rfl (fun ls hl => ?_)
  have hl : lv_has ls 6 [(4, .int 3), (3, .int (g2 &&& 65535)), (2, .int (zush g2 16)), (0, .int g1), (1, .int g2)] := hl
  refine lv_iload hx hb dW_dec_13 (lv_at hl 0 rfl) ?_
  refine lv_if_lt (tgt := 40) hx hb dW_dec_15 (by decide) (fun h => absurd h (by decide)) (fun _ => ?_)
  refine lv_iload_n hx hb dW_dec_18 rfl (lv_at hl 1 rfl) ?_
  refine lv_iload_n hx hb dW_dec_19 rfl (lv_at hl 3 rfl) ?_
  refine lv_iload hx hb dW_dec_20 (lv_at hl 0 rfl) ?_
  refine lv_iload_n hx hb dW_dec_22 rfl (lv_at hl 2 rfl) ?_
  refine kcI (isR := []) (isC := []) (wr := []) (w2 := []) (va_runS (As := [.int g1, .int 3, .int (zush g2 16)]) (rest := [.int (g2 &&& 65535)]) ⟨hx, hb, hml, hown, hts⟩ (kw_half l D cI cZ g1 3 (zush g2 16) _) ⟨(callB_of 3 hts gd_yW_half rfl rfl rfl (hts _ mw28) (hts _ mw244) (by decide +kernel) ⟨Nat.le_of_ble_eq_true rfl, Nat.le_of_ble_eq_true rfl⟩), hts _ mw245⟩ (kpreS hNw hP hD hK [] rfl (by decide)) rfl rfl hl.1 rfl (lv_room (Nat.le_of_ble_eq_true rfl)) dW_dec_23 ⟨Nat.le_of_ble_eq_true rfl, Nat.le_of_ble_eq_true rfl⟩) hP hD hS hA [] rfl rfl (by decide) (by decide) (by decide) rfl (fun H locs hP hD hS => ?_)
  refine lv_ixor hx hb dW_dec_26 ?_
  refine lv_istore hx hb dW_dec_27 hl (by decide) rfl (fun ls hl => ?_)
  have hl : lv_has ls 6 [(5, .int ((g2 &&& 65535) ^^^ (zw_half g1 3 (zush g2 16)))), (4, .int 3), (3, .int (g2 &&& 65535)), (2, .int (zush g2 16)), (0, .int g1), (1, .int g2)] := hl
  refine lv_iload_n hx hb dW_dec_29 rfl (lv_at hl 3 rfl) ?_
  refine lv_istore_n hx hb dW_dec_30 rfl hl (by decide) rfl (fun ls hl => ?_)
  have hl : lv_has ls 6 [(3, .int (zush g2 16)), (5, .int ((g2 &&& 65535) ^^^ (zw_half g1 3 (zush g2 16)))), (4, .int 3), (2, .int (zush g2 16)), (0, .int g1), (1, .int g2)] := hl
  refine lv_iload hx hb dW_dec_31 (lv_at hl 1 rfl) ?_
  refine lv_istore_n hx hb dW_dec_33 rfl hl (by decide) rfl (fun ls hl => ?_)
  have hl : lv_has ls 6 [(2, .int ((g2 &&& 65535) ^^^ (zw_half g1 3 (zush g2 16)))), (3, .int (zush g2 16)), (5, .int ((g2 &&& 65535) ^^^ (zw_half g1 3 (zush g2 16)))), (4, .int 3), (0, .int g1), (1, .int g2)] := hl
  refine lv_iinc (k := 3) (v := 2) hx hb dW_dec_34 hl rfl (by decide) (by decide) rfl (fun ls hl => ?_)
  have hl : lv_has ls 6 [(4, .int 2), (2, .int ((g2 &&& 65535) ^^^ (zw_half g1 3 (zush g2 16)))), (3, .int (zush g2 16)), (5, .int ((g2 &&& 65535) ^^^ (zw_half g1 3 (zush g2 16)))), (0, .int g1), (1, .int g2)] := hl
  refine lv_goto hx hb dW_dec_37 (tgt := 13) (by decide) ?_
  refine lv_iload hx hb dW_dec_13 (lv_at hl 0 rfl) ?_
  refine lv_if_lt (tgt := 40) hx hb dW_dec_15 (by decide) (fun h => absurd h (by decide)) (fun _ => ?_)
  refine lv_iload_n hx hb dW_dec_18 rfl (lv_at hl 2 rfl) ?_
  refine lv_iload_n hx hb dW_dec_19 rfl (lv_at hl 4 rfl) ?_
  refine lv_iload hx hb dW_dec_20 (lv_at hl 0 rfl) ?_
  refine lv_iload_n hx hb dW_dec_22 rfl (lv_at hl 1 rfl) ?_
  refine kcI (isR := []) (isC := []) (wr := []) (w2 := []) (va_runS (As := [.int g1, .int 2, .int ((g2 &&& 65535) ^^^ (zw_half g1 3 (zush g2 16)))]) (rest := [.int (zush g2 16)]) ⟨hx, hb, hml, hown, hts⟩ (kw_half l D cI cZ g1 2 ((g2 &&& 65535) ^^^ (zw_half g1 3 (zush g2 16))) _) ⟨(callB_of 3 hts gd_yW_half rfl rfl rfl (hts _ mw28) (hts _ mw244) (by decide +kernel) ⟨Nat.le_of_ble_eq_true rfl, Nat.le_of_ble_eq_true rfl⟩), hts _ mw245⟩ (kpreS hNw hP hD hK [] rfl (by decide)) rfl rfl hl.1 rfl (lv_room (Nat.le_of_ble_eq_true rfl)) dW_dec_23 ⟨Nat.le_of_ble_eq_true rfl, Nat.le_of_ble_eq_true rfl⟩) hP hD hS hA [] rfl rfl (by decide) (by decide) (by decide) rfl (fun H locs hP hD hS => ?_)
  refine lv_ixor hx hb dW_dec_26 ?_
  refine lv_istore hx hb dW_dec_27 hl (by decide) rfl (fun ls hl => ?_)
  have hl : lv_has ls 6 [(5, .int ((zush g2 16) ^^^ (zw_half g1 2 ((g2 &&& 65535) ^^^ (zw_half g1 3 (zush g2 16)))))), (4, .int 2), (2, .int ((g2 &&& 65535) ^^^ (zw_half g1 3 (zush g2 16)))), (3, .int (zush g2 16)), (0, .int g1), (1, .int g2)] := hl
  refine lv_iload_n hx hb dW_dec_29 rfl (lv_at hl 2 rfl) ?_
  refine lv_istore_n hx hb dW_dec_30 rfl hl (by decide) rfl (fun ls hl => ?_)
  have hl : lv_has ls 6 [(3, .int ((g2 &&& 65535) ^^^ (zw_half g1 3 (zush g2 16)))), (5, .int ((zush g2 16) ^^^ (zw_half g1 2 ((g2 &&& 65535) ^^^ (zw_half g1 3 (zush g2 16)))))), (4, .int 2), (2, .int ((g2 &&& 65535) ^^^ (zw_half g1 3 (zush g2 16)))), (0, .int g1), (1, .int g2)] := hl
  refine lv_iload hx hb dW_dec_31 (lv_at hl 1 rfl) ?_
  refine lv_istore_n hx hb dW_dec_33 rfl hl (by decide) rfl (fun ls hl => ?_)
  have hl : lv_has ls 6 [(2, .int ((zush g2 16) ^^^ (zw_half g1 2 ((g2 &&& 65535) ^^^ (zw_half g1 3 (zush g2 16)))))), (3, .int ((g2 &&& 65535) ^^^ (zw_half g1 3 (zush g2 16)))), (5, .int ((zush g2 16) ^^^ (zw_half g1 2 ((g2 &&& 65535) ^^^ (zw_half g1 3 (zush g2 16)))))), (4, .int 2), (0, .int g1), (1, .int g2)] := hl
  refine lv_iinc (k := 3) (v := 1) hx hb dW_dec_34 hl rfl (by decide) (by decide) rfl (fun ls hl => ?_)
  have hl : lv_has ls 6 [(4, .int 1), (2, .int ((zush g2 16) ^^^ (zw_half g1 2 ((g2 &&& 65535) ^^^ (zw_half g1 3 (zush g2 16)))))), (3, .int ((g2 &&& 65535) ^^^ (zw_half g1 3 (zush g2 16)))), (5, .int ((zush g2 16) ^^^ (zw_half g1 2 ((g2 &&& 65535) ^^^ (zw_half g1 3 (zush g2 16)))))), (0, .int g1), (1, .int g2)] := hl
  refine lv_goto hx hb dW_dec_37 (tgt := 13) (by decide) ?_
  refine lv_iload hx hb dW_dec_13 (lv_at hl 0 rfl) ?_
  refine lv_if_lt (tgt := 40) hx hb dW_dec_15 (by decide) (fun h => absurd h (by decide)) (fun _ => ?_)
  refine lv_iload_n hx hb dW_dec_18 rfl (lv_at hl 2 rfl) ?_
  refine lv_iload_n hx hb dW_dec_19 rfl (lv_at hl 4 rfl) ?_
  refine lv_iload hx hb dW_dec_20 (lv_at hl 0 rfl) ?_
  refine lv_iload_n hx hb dW_dec_22 rfl (lv_at hl 1 rfl) ?_
  refine kcI (isR := []) (isC := []) (wr := []) (w2 := []) (va_runS (As := [.int g1, .int 1, .int ((zush g2 16) ^^^ (zw_half g1 2 ((g2 &&& 65535) ^^^ (zw_half g1 3 (zush g2 16)))))]) (rest := [.int ((g2 &&& 65535) ^^^ (zw_half g1 3 (zush g2 16)))]) ⟨hx, hb, hml, hown, hts⟩ (kw_half l D cI cZ g1 1 ((zush g2 16) ^^^ (zw_half g1 2 ((g2 &&& 65535) ^^^ (zw_half g1 3 (zush g2 16))))) _) ⟨(callB_of 3 hts gd_yW_half rfl rfl rfl (hts _ mw28) (hts _ mw244) (by decide +kernel) ⟨Nat.le_of_ble_eq_true rfl, Nat.le_of_ble_eq_true rfl⟩), hts _ mw245⟩ (kpreS hNw hP hD hK [] rfl (by decide)) rfl rfl hl.1 rfl (lv_room (Nat.le_of_ble_eq_true rfl)) dW_dec_23 ⟨Nat.le_of_ble_eq_true rfl, Nat.le_of_ble_eq_true rfl⟩) hP hD hS hA [] rfl rfl (by decide) (by decide) (by decide) rfl (fun H locs hP hD hS => ?_)
  refine lv_ixor hx hb dW_dec_26 ?_
  refine lv_istore hx hb dW_dec_27 hl (by decide) rfl (fun ls hl => ?_)
  have hl : lv_has ls 6 [(5, .int (((g2 &&& 65535) ^^^ (zw_half g1 3 (zush g2 16))) ^^^ (zw_half g1 1 ((zush g2 16) ^^^ (zw_half g1 2 ((g2 &&& 65535) ^^^ (zw_half g1 3 (zush g2 16)))))))), (4, .int 1), (2, .int ((zush g2 16) ^^^ (zw_half g1 2 ((g2 &&& 65535) ^^^ (zw_half g1 3 (zush g2 16)))))), (3, .int ((g2 &&& 65535) ^^^ (zw_half g1 3 (zush g2 16)))), (0, .int g1), (1, .int g2)] := hl
  refine lv_iload_n hx hb dW_dec_29 rfl (lv_at hl 2 rfl) ?_
  refine lv_istore_n hx hb dW_dec_30 rfl hl (by decide) rfl (fun ls hl => ?_)
  have hl : lv_has ls 6 [(3, .int ((zush g2 16) ^^^ (zw_half g1 2 ((g2 &&& 65535) ^^^ (zw_half g1 3 (zush g2 16)))))), (5, .int (((g2 &&& 65535) ^^^ (zw_half g1 3 (zush g2 16))) ^^^ (zw_half g1 1 ((zush g2 16) ^^^ (zw_half g1 2 ((g2 &&& 65535) ^^^ (zw_half g1 3 (zush g2 16)))))))), (4, .int 1), (2, .int ((zush g2 16) ^^^ (zw_half g1 2 ((g2 &&& 65535) ^^^ (zw_half g1 3 (zush g2 16)))))), (0, .int g1), (1, .int g2)] := hl
  refine lv_iload hx hb dW_dec_31 (lv_at hl 1 rfl) ?_
  refine lv_istore_n hx hb dW_dec_33 rfl hl (by decide) rfl (fun ls hl => ?_)
  have hl : lv_has ls 6 [(2, .int (((g2 &&& 65535) ^^^ (zw_half g1 3 (zush g2 16))) ^^^ (zw_half g1 1 ((zush g2 16) ^^^ (zw_half g1 2 ((g2 &&& 65535) ^^^ (zw_half g1 3 (zush g2 16)))))))), (3, .int ((zush g2 16) ^^^ (zw_half g1 2 ((g2 &&& 65535) ^^^ (zw_half g1 3 (zush g2 16)))))), (5, .int (((g2 &&& 65535) ^^^ (zw_half g1 3 (zush g2 16))) ^^^ (zw_half g1 1 ((zush g2 16) ^^^ (zw_half g1 2 ((g2 &&& 65535) ^^^ (zw_half g1 3 (zush g2 16)))))))), (4, .int 1), (0, .int g1), (1, .int g2)] := hl
  refine lv_iinc (k := 3) (v := 0) hx hb dW_dec_34 hl rfl (by decide) (by decide) rfl (fun ls hl => ?_)
  have hl : lv_has ls 6 [(4, .int 0), (2, .int (((g2 &&& 65535) ^^^ (zw_half g1 3 (zush g2 16))) ^^^ (zw_half g1 1 ((zush g2 16) ^^^ (zw_half g1 2 ((g2 &&& 65535) ^^^ (zw_half g1 3 (zush g2 16)))))))), (3, .int ((zush g2 16) ^^^ (zw_half g1 2 ((g2 &&& 65535) ^^^ (zw_half g1 3 (zush g2 16)))))), (5, .int (((g2 &&& 65535) ^^^ (zw_half g1 3 (zush g2 16))) ^^^ (zw_half g1 1 ((zush g2 16) ^^^ (zw_half g1 2 ((g2 &&& 65535) ^^^ (zw_half g1 3 (zush g2 16)))))))), (0, .int g1), (1, .int g2)] := hl
  refine lv_goto hx hb dW_dec_37 (tgt := 13) (by decide) ?_
  refine lv_iload hx hb dW_dec_13 (lv_at hl 0 rfl) ?_
  refine lv_if_lt (tgt := 40) hx hb dW_dec_15 (by decide) (fun h => absurd h (by decide)) (fun _ => ?_)
  refine lv_iload_n hx hb dW_dec_18 rfl (lv_at hl 2 rfl) ?_
  refine lv_iload_n hx hb dW_dec_19 rfl (lv_at hl 4 rfl) ?_
  refine lv_iload hx hb dW_dec_20 (lv_at hl 0 rfl) ?_
  refine lv_iload_n hx hb dW_dec_22 rfl (lv_at hl 1 rfl) ?_
  refine kcI (isR := []) (isC := []) (wr := []) (w2 := []) (va_runS (As := [.int g1, .int 0, .int (((g2 &&& 65535) ^^^ (zw_half g1 3 (zush g2 16))) ^^^ (zw_half g1 1 ((zush g2 16) ^^^ (zw_half g1 2 ((g2 &&& 65535) ^^^ (zw_half g1 3 (zush g2 16)))))))]) (rest := [.int ((zush g2 16) ^^^ (zw_half g1 2 ((g2 &&& 65535) ^^^ (zw_half g1 3 (zush g2 16)))))]) ⟨hx, hb, hml, hown, hts⟩ (kw_half l D cI cZ g1 0 (((g2 &&& 65535) ^^^ (zw_half g1 3 (zush g2 16))) ^^^ (zw_half g1 1 ((zush g2 16) ^^^ (zw_half g1 2 ((g2 &&& 65535) ^^^ (zw_half g1 3 (zush g2 16))))))) _) ⟨(callB_of 3 hts gd_yW_half rfl rfl rfl (hts _ mw28) (hts _ mw244) (by decide +kernel) ⟨Nat.le_of_ble_eq_true rfl, Nat.le_of_ble_eq_true rfl⟩), hts _ mw245⟩ (kpreS hNw hP hD hK [] rfl (by decide)) rfl rfl hl.1 rfl (lv_room (Nat.le_of_ble_eq_true rfl)) dW_dec_23 ⟨Nat.le_of_ble_eq_true rfl, Nat.le_of_ble_eq_true rfl⟩) hP hD hS hA [] rfl rfl (by decide) (by decide) (by decide) rfl (fun H locs hP hD hS => ?_)
  refine lv_ixor hx hb dW_dec_26 ?_
  refine lv_istore hx hb dW_dec_27 hl (by decide) rfl (fun ls hl => ?_)
  have hl : lv_has ls 6 [(5, .int (((zush g2 16) ^^^ (zw_half g1 2 ((g2 &&& 65535) ^^^ (zw_half g1 3 (zush g2 16))))) ^^^ (zw_half g1 0 (((g2 &&& 65535) ^^^ (zw_half g1 3 (zush g2 16))) ^^^ (zw_half g1 1 ((zush g2 16) ^^^ (zw_half g1 2 ((g2 &&& 65535) ^^^ (zw_half g1 3 (zush g2 16)))))))))), (4, .int 0), (2, .int (((g2 &&& 65535) ^^^ (zw_half g1 3 (zush g2 16))) ^^^ (zw_half g1 1 ((zush g2 16) ^^^ (zw_half g1 2 ((g2 &&& 65535) ^^^ (zw_half g1 3 (zush g2 16)))))))), (3, .int ((zush g2 16) ^^^ (zw_half g1 2 ((g2 &&& 65535) ^^^ (zw_half g1 3 (zush g2 16)))))), (0, .int g1), (1, .int g2)] := hl
  refine lv_iload_n hx hb dW_dec_29 rfl (lv_at hl 2 rfl) ?_
  refine lv_istore_n hx hb dW_dec_30 rfl hl (by decide) rfl (fun ls hl => ?_)
  have hl : lv_has ls 6 [(3, .int (((g2 &&& 65535) ^^^ (zw_half g1 3 (zush g2 16))) ^^^ (zw_half g1 1 ((zush g2 16) ^^^ (zw_half g1 2 ((g2 &&& 65535) ^^^ (zw_half g1 3 (zush g2 16)))))))), (5, .int (((zush g2 16) ^^^ (zw_half g1 2 ((g2 &&& 65535) ^^^ (zw_half g1 3 (zush g2 16))))) ^^^ (zw_half g1 0 (((g2 &&& 65535) ^^^ (zw_half g1 3 (zush g2 16))) ^^^ (zw_half g1 1 ((zush g2 16) ^^^ (zw_half g1 2 ((g2 &&& 65535) ^^^ (zw_half g1 3 (zush g2 16)))))))))), (4, .int 0), (2, .int (((g2 &&& 65535) ^^^ (zw_half g1 3 (zush g2 16))) ^^^ (zw_half g1 1 ((zush g2 16) ^^^ (zw_half g1 2 ((g2 &&& 65535) ^^^ (zw_half g1 3 (zush g2 16)))))))), (0, .int g1), (1, .int g2)] := hl
  refine lv_iload hx hb dW_dec_31 (lv_at hl 1 rfl) ?_
  refine lv_istore_n hx hb dW_dec_33 rfl hl (by decide) rfl (fun ls hl => ?_)
  have hl : lv_has ls 6 [(2, .int (((zush g2 16) ^^^ (zw_half g1 2 ((g2 &&& 65535) ^^^ (zw_half g1 3 (zush g2 16))))) ^^^ (zw_half g1 0 (((g2 &&& 65535) ^^^ (zw_half g1 3 (zush g2 16))) ^^^ (zw_half g1 1 ((zush g2 16) ^^^ (zw_half g1 2 ((g2 &&& 65535) ^^^ (zw_half g1 3 (zush g2 16)))))))))), (3, .int (((g2 &&& 65535) ^^^ (zw_half g1 3 (zush g2 16))) ^^^ (zw_half g1 1 ((zush g2 16) ^^^ (zw_half g1 2 ((g2 &&& 65535) ^^^ (zw_half g1 3 (zush g2 16)))))))), (5, .int (((zush g2 16) ^^^ (zw_half g1 2 ((g2 &&& 65535) ^^^ (zw_half g1 3 (zush g2 16))))) ^^^ (zw_half g1 0 (((g2 &&& 65535) ^^^ (zw_half g1 3 (zush g2 16))) ^^^ (zw_half g1 1 ((zush g2 16) ^^^ (zw_half g1 2 ((g2 &&& 65535) ^^^ (zw_half g1 3 (zush g2 16)))))))))), (4, .int 0), (0, .int g1), (1, .int g2)] := hl
  refine lv_iinc (k := 3) (v := (-1)) hx hb dW_dec_34 hl rfl (by decide) (by decide) rfl (fun ls hl => ?_)
  have hl : lv_has ls 6 [(4, .int (-1)), (2, .int (((zush g2 16) ^^^ (zw_half g1 2 ((g2 &&& 65535) ^^^ (zw_half g1 3 (zush g2 16))))) ^^^ (zw_half g1 0 (((g2 &&& 65535) ^^^ (zw_half g1 3 (zush g2 16))) ^^^ (zw_half g1 1 ((zush g2 16) ^^^ (zw_half g1 2 ((g2 &&& 65535) ^^^ (zw_half g1 3 (zush g2 16)))))))))), (3, .int (((g2 &&& 65535) ^^^ (zw_half g1 3 (zush g2 16))) ^^^ (zw_half g1 1 ((zush g2 16) ^^^ (zw_half g1 2 ((g2 &&& 65535) ^^^ (zw_half g1 3 (zush g2 16)))))))), (5, .int (((zush g2 16) ^^^ (zw_half g1 2 ((g2 &&& 65535) ^^^ (zw_half g1 3 (zush g2 16))))) ^^^ (zw_half g1 0 (((g2 &&& 65535) ^^^ (zw_half g1 3 (zush g2 16))) ^^^ (zw_half g1 1 ((zush g2 16) ^^^ (zw_half g1 2 ((g2 &&& 65535) ^^^ (zw_half g1 3 (zush g2 16)))))))))), (0, .int g1), (1, .int g2)] := hl
  refine lv_goto hx hb dW_dec_37 (tgt := 13) (by decide) ?_
  refine lv_iload hx hb dW_dec_13 (lv_at hl 0 rfl) ?_
  refine lv_if_lt (tgt := 40) hx hb dW_dec_15 (by decide) (fun _ => ?_) (fun h => absurd h (by decide))
  refine lv_iload_n hx hb dW_dec_40 rfl (lv_at hl 1 rfl) ?_
  refine lv_ldc (v := 65536) hx hb hown (hts _ mw248) dW_dec_41 ?_
  refine lv_imul hx hb dW_dec_43 ?_
  refine lv_iload_n hx hb dW_dec_44 rfl (lv_at hl 2 rfl) ?_
  refine lv_iadd hx hb dW_dec_45 ?_
  exact kretP (rfl) hx hb hr hlk hS hP hD hK dW_dec_46

def zmac1 (h b : Int32) : Int32 := (((h ^^^ b) * 16777619) ^^^ (zush ((h ^^^ b) * 16777619) 13))

def zw_mac (g1 : Int32) (g2 : Int32) : Int32 := (zmac1 (zmac1 (zmac1 (zmac1 g1 (zw_byteOf g2 0)) (zw_byteOf g2 1)) (zw_byteOf g2 2)) (zw_byteOf g2 3))

set_option maxHeartbeats 4000000 in
set_option maxRecDepth 100000 in
theorem kw_mac (l : Launch) (D : va_G) (cI cZ : ClassId) (g1 : Int32) (g2 : Int32) : kI l yW_mac wsW_mac (rmOf 1 21) D (kT cI cZ) [.int g1, .int g2] [] (zw_mac g1 g2) [] := by
  intro sz
  refine kOf (Qc := fun A => kQi D (kT cI cZ) A (zw_mac g1 g2) []) (cc := cW_mac) (maxL := 4) (ret := some .int) (by decide) rfl (Nat.le_of_ble_eq_true rfl) ?_ sz
  intro p e s m args below meth c A ls hx hb hml hown hts hNw hr hlk hin hA hS hP hD hK hl
  show W p l e (rmOf 1 21) s m args below meth c s.heap [] 0 0 (MQ below (kQi D (kT cI cZ) A (zw_mac g1 g2) []) args s 0 0 A) (F0 m 0 ls [])
  have hts : ∀ q ∈ lw_g, q.before args s = true := fun q h => hts q (List.mem_cons_of_mem _ h)
  have hown : s.vm.findClass cnW = some m.cls := hown
  have hl : lv_has ls 4 [(0, .int g1), (1, .int g2)] := hl
  have hP : va_P D vwCl [] s.heap := hP
  have hD : va_D A [] := hD
  refine lv_iload_n hx hb dW_mac_0 rfl (lv_at hl 0 rfl) ?_
  refine lv_istore_n hx hb dW_mac_1 rfl hl (by decide) rfl (fun ls hl => ?_)
  have hl : lv_has ls 4 [(2, .int g1), (0, .int g1), (1, .int g2)] := hl
  refine lv_iconst (v := 0) hx hb dW_mac_2 (by decide) ?_
  refine lv_istore_n hx hb dW_mac_3 rfl hl (by decide) rfl (fun ls hl => ?_)
  have hl : lv_has ls 4 [(3, .int 0), (2, .int g1), (0, .int g1), (1, .int g2)] := hl
  refine lv_iload_n hx hb dW_mac_4 rfl (lv_at hl 0 rfl) ?_
  refine lv_iconst (v := 4) hx hb dW_mac_5 (by decide) ?_
  refine lv_icmp_ge (tgt := 33) hx hb dW_mac_6 (by decide) (fun h => absurd h (by decide)) (fun _ => ?_)
  refine lv_iload_n hx hb dW_mac_9 rfl (lv_at hl 1 rfl) ?_
  refine lv_iload_n hx hb dW_mac_10 rfl (lv_at hl 3 rfl) ?_
  refine lv_iload_n hx hb dW_mac_11 rfl (lv_at hl 0 rfl) ?_
  refine kcI (isR := []) (isC := []) (wr := []) (w2 := []) (va_runS (As := [.int g2, .int 0]) (rest := [.int g1]) ⟨hx, hb, hml, hown, hts⟩ (kw_byteOf l D cI cZ g2 0 _) ⟨(callB_of 2 hts gd_yW_byteOf rfl rfl rfl (hts _ mw28) (hts _ mw182) (by decide +kernel) ⟨Nat.le_of_ble_eq_true rfl, Nat.le_of_ble_eq_true rfl⟩), hts _ mw183⟩ (kpreS hNw hP hD hK [] rfl (by decide)) rfl rfl hl.1 rfl (lv_room (Nat.le_of_ble_eq_true rfl)) dW_mac_12 ⟨Nat.le_of_ble_eq_true rfl, Nat.le_of_ble_eq_true rfl⟩) hP hD hS hA [] rfl rfl (by decide) (by decide) (by decide) rfl (fun H locs hP hD hS => ?_)
  refine lv_ixor hx hb dW_mac_15 ?_
  refine lv_ldc (v := 16777619) hx hb hown (hts _ mw185) dW_mac_16 ?_
  refine lv_imul hx hb dW_mac_18 ?_
  refine lv_istore_n hx hb dW_mac_19 rfl hl (by decide) rfl (fun ls hl => ?_)
  have hl : lv_has ls 4 [(2, .int ((g1 ^^^ (zw_byteOf g2 0)) * 16777619)), (3, .int 0), (0, .int g1), (1, .int g2)] := hl
  refine lv_iload_n hx hb dW_mac_20 rfl (lv_at hl 0 rfl) ?_
  refine lv_iload_n hx hb dW_mac_21 rfl (lv_at hl 0 rfl) ?_
  refine lv_bipush (v := 13) hx hb dW_mac_22 (by decide) ?_
  refine lv_iushr (v := (zush ((g1 ^^^ (zw_byteOf g2 0)) * 16777619) 13)) hx hb dW_mac_24 rfl ?_
  refine lv_ixor hx hb dW_mac_25 ?_
  refine kTop (y := (zmac1 g1 (zw_byteOf g2 0))) (rfl) ?_
  refine lv_istore_n hx hb dW_mac_26 rfl hl (by decide) rfl (fun ls hl => ?_)
  have hl : lv_has ls 4 [(2, .int (zmac1 g1 (zw_byteOf g2 0))), (3, .int 0), (0, .int g1), (1, .int g2)] := hl
  refine lv_iinc (k := 1) (v := 1) hx hb dW_mac_27 hl rfl (by decide) (by decide) rfl (fun ls hl => ?_)
  have hl : lv_has ls 4 [(3, .int 1), (2, .int (zmac1 g1 (zw_byteOf g2 0))), (0, .int g1), (1, .int g2)] := hl
  refine lv_goto hx hb dW_mac_30 (tgt := 4) (by decide) ?_
  refine lv_iload_n hx hb dW_mac_4 rfl (lv_at hl 0 rfl) ?_
  refine lv_iconst (v := 4) hx hb dW_mac_5 (by decide) ?_
  refine lv_icmp_ge (tgt := 33) hx hb dW_mac_6 (by decide) (fun h => absurd h (by decide)) (fun _ => ?_)
  refine lv_iload_n hx hb dW_mac_9 rfl (lv_at hl 1 rfl) ?_
  refine lv_iload_n hx hb dW_mac_10 rfl (lv_at hl 3 rfl) ?_
  refine lv_iload_n hx hb dW_mac_11 rfl (lv_at hl 0 rfl) ?_
  refine kcI (isR := []) (isC := []) (wr := []) (w2 := []) (va_runS (As := [.int g2, .int 1]) (rest := [.int (zmac1 g1 (zw_byteOf g2 0))]) ⟨hx, hb, hml, hown, hts⟩ (kw_byteOf l D cI cZ g2 1 _) ⟨(callB_of 2 hts gd_yW_byteOf rfl rfl rfl (hts _ mw28) (hts _ mw182) (by decide +kernel) ⟨Nat.le_of_ble_eq_true rfl, Nat.le_of_ble_eq_true rfl⟩), hts _ mw183⟩ (kpreS hNw hP hD hK [] rfl (by decide)) rfl rfl hl.1 rfl (lv_room (Nat.le_of_ble_eq_true rfl)) dW_mac_12 ⟨Nat.le_of_ble_eq_true rfl, Nat.le_of_ble_eq_true rfl⟩) hP hD hS hA [] rfl rfl (by decide) (by decide) (by decide) rfl (fun H locs hP hD hS => ?_)
  refine lv_ixor hx hb dW_mac_15 ?_
  refine lv_ldc (v := 16777619) hx hb hown (hts _ mw185) dW_mac_16 ?_
  refine lv_imul hx hb dW_mac_18 ?_
  refine lv_istore_n hx hb dW_mac_19 rfl hl (by decide) rfl (fun ls hl => ?_)
  have hl : lv_has ls 4 [(2, .int (((zmac1 g1 (zw_byteOf g2 0)) ^^^ (zw_byteOf g2 1)) * 16777619)), (3, .int 1), (0, .int g1), (1, .int g2)] := hl
  refine lv_iload_n hx hb dW_mac_20 rfl (lv_at hl 0 rfl) ?_
  refine lv_iload_n hx hb dW_mac_21 rfl (lv_at hl 0 rfl) ?_
  refine lv_bipush (v := 13) hx hb dW_mac_22 (by decide) ?_
  refine lv_iushr (v := (zush (((zmac1 g1 (zw_byteOf g2 0)) ^^^ (zw_byteOf g2 1)) * 16777619) 13)) hx hb dW_mac_24 rfl ?_
  refine lv_ixor hx hb dW_mac_25 ?_
  refine kTop (y := (zmac1 (zmac1 g1 (zw_byteOf g2 0)) (zw_byteOf g2 1))) (rfl) ?_
  refine lv_istore_n hx hb dW_mac_26 rfl hl (by decide) rfl (fun ls hl => ?_)
  have hl : lv_has ls 4 [(2, .int (zmac1 (zmac1 g1 (zw_byteOf g2 0)) (zw_byteOf g2 1))), (3, .int 1), (0, .int g1), (1, .int g2)] := hl
  refine lv_iinc (k := 1) (v := 2) hx hb dW_mac_27 hl rfl (by decide) (by decide) rfl (fun ls hl => ?_)
  have hl : lv_has ls 4 [(3, .int 2), (2, .int (zmac1 (zmac1 g1 (zw_byteOf g2 0)) (zw_byteOf g2 1))), (0, .int g1), (1, .int g2)] := hl
  refine lv_goto hx hb dW_mac_30 (tgt := 4) (by decide) ?_
  refine lv_iload_n hx hb dW_mac_4 rfl (lv_at hl 0 rfl) ?_
  refine lv_iconst (v := 4) hx hb dW_mac_5 (by decide) ?_
  refine lv_icmp_ge (tgt := 33) hx hb dW_mac_6 (by decide) (fun h => absurd h (by decide)) (fun _ => ?_)
  refine lv_iload_n hx hb dW_mac_9 rfl (lv_at hl 1 rfl) ?_
  refine lv_iload_n hx hb dW_mac_10 rfl (lv_at hl 3 rfl) ?_
  refine lv_iload_n hx hb dW_mac_11 rfl (lv_at hl 0 rfl) ?_
  refine kcI (isR := []) (isC := []) (wr := []) (w2 := []) (va_runS (As := [.int g2, .int 2]) (rest := [.int (zmac1 (zmac1 g1 (zw_byteOf g2 0)) (zw_byteOf g2 1))]) ⟨hx, hb, hml, hown, hts⟩ (kw_byteOf l D cI cZ g2 2 _) ⟨(callB_of 2 hts gd_yW_byteOf rfl rfl rfl (hts _ mw28) (hts _ mw182) (by decide +kernel) ⟨Nat.le_of_ble_eq_true rfl, Nat.le_of_ble_eq_true rfl⟩), hts _ mw183⟩ (kpreS hNw hP hD hK [] rfl (by decide)) rfl rfl hl.1 rfl (lv_room (Nat.le_of_ble_eq_true rfl)) dW_mac_12 ⟨Nat.le_of_ble_eq_true rfl, Nat.le_of_ble_eq_true rfl⟩) hP hD hS hA [] rfl rfl (by decide) (by decide) (by decide) rfl (fun H locs hP hD hS => ?_)
  refine lv_ixor hx hb dW_mac_15 ?_
  refine lv_ldc (v := 16777619) hx hb hown (hts _ mw185) dW_mac_16 ?_
  refine lv_imul hx hb dW_mac_18 ?_
  refine lv_istore_n hx hb dW_mac_19 rfl hl (by decide) rfl (fun ls hl => ?_)
  have hl : lv_has ls 4 [(2, .int (((zmac1 (zmac1 g1 (zw_byteOf g2 0)) (zw_byteOf g2 1)) ^^^ (zw_byteOf g2 2)) * 16777619)), (3, .int 2), (0, .int g1), (1, .int g2)] := hl
  refine lv_iload_n hx hb dW_mac_20 rfl (lv_at hl 0 rfl) ?_
  refine lv_iload_n hx hb dW_mac_21 rfl (lv_at hl 0 rfl) ?_
  refine lv_bipush (v := 13) hx hb dW_mac_22 (by decide) ?_
  refine lv_iushr (v := (zush (((zmac1 (zmac1 g1 (zw_byteOf g2 0)) (zw_byteOf g2 1)) ^^^ (zw_byteOf g2 2)) * 16777619) 13)) hx hb dW_mac_24 rfl ?_
  refine lv_ixor hx hb dW_mac_25 ?_
  refine kTop (y := (zmac1 (zmac1 (zmac1 g1 (zw_byteOf g2 0)) (zw_byteOf g2 1)) (zw_byteOf g2 2))) (rfl) ?_
  refine lv_istore_n hx hb dW_mac_26 rfl hl (by decide) rfl (fun ls hl => ?_)
  have hl : lv_has ls 4 [(2, .int (zmac1 (zmac1 (zmac1 g1 (zw_byteOf g2 0)) (zw_byteOf g2 1)) (zw_byteOf g2 2))), (3, .int 2), (0, .int g1), (1, .int g2)] := hl
  refine lv_iinc (k := 1) (v := 3) hx hb dW_mac_27 hl rfl (by decide) (by decide) rfl (fun ls hl => ?_)
  have hl : lv_has ls 4 [(3, .int 3), (2, .int (zmac1 (zmac1 (zmac1 g1 (zw_byteOf g2 0)) (zw_byteOf g2 1)) (zw_byteOf g2 2))), (0, .int g1), (1, .int g2)] := hl
  refine lv_goto hx hb dW_mac_30 (tgt := 4) (by decide) ?_
  refine lv_iload_n hx hb dW_mac_4 rfl (lv_at hl 0 rfl) ?_
  refine lv_iconst (v := 4) hx hb dW_mac_5 (by decide) ?_
  refine lv_icmp_ge (tgt := 33) hx hb dW_mac_6 (by decide) (fun h => absurd h (by decide)) (fun _ => ?_)
  refine lv_iload_n hx hb dW_mac_9 rfl (lv_at hl 1 rfl) ?_
  refine lv_iload_n hx hb dW_mac_10 rfl (lv_at hl 3 rfl) ?_
  refine lv_iload_n hx hb dW_mac_11 rfl (lv_at hl 0 rfl) ?_
  refine kcI (isR := []) (isC := []) (wr := []) (w2 := []) (va_runS (As := [.int g2, .int 3]) (rest := [.int (zmac1 (zmac1 (zmac1 g1 (zw_byteOf g2 0)) (zw_byteOf g2 1)) (zw_byteOf g2 2))]) ⟨hx, hb, hml, hown, hts⟩ (kw_byteOf l D cI cZ g2 3 _) ⟨(callB_of 2 hts gd_yW_byteOf rfl rfl rfl (hts _ mw28) (hts _ mw182) (by decide +kernel) ⟨Nat.le_of_ble_eq_true rfl, Nat.le_of_ble_eq_true rfl⟩), hts _ mw183⟩ (kpreS hNw hP hD hK [] rfl (by decide)) rfl rfl hl.1 rfl (lv_room (Nat.le_of_ble_eq_true rfl)) dW_mac_12 ⟨Nat.le_of_ble_eq_true rfl, Nat.le_of_ble_eq_true rfl⟩) hP hD hS hA [] rfl rfl (by decide) (by decide) (by decide) rfl (fun H locs hP hD hS => ?_)
  refine lv_ixor hx hb dW_mac_15 ?_
  refine lv_ldc (v := 16777619) hx hb hown (hts _ mw185) dW_mac_16 ?_
  refine lv_imul hx hb dW_mac_18 ?_
  refine lv_istore_n hx hb dW_mac_19 rfl hl (by decide) rfl (fun ls hl => ?_)
  have hl : lv_has ls 4 [(2, .int (((zmac1 (zmac1 (zmac1 g1 (zw_byteOf g2 0)) (zw_byteOf g2 1)) (zw_byteOf g2 2)) ^^^ (zw_byteOf g2 3)) * 16777619)), (3, .int 3), (0, .int g1), (1, .int g2)] := hl
  refine lv_iload_n hx hb dW_mac_20 rfl (lv_at hl 0 rfl) ?_
  refine lv_iload_n hx hb dW_mac_21 rfl (lv_at hl 0 rfl) ?_
  refine lv_bipush (v := 13) hx hb dW_mac_22 (by decide) ?_
  refine lv_iushr (v := (zush (((zmac1 (zmac1 (zmac1 g1 (zw_byteOf g2 0)) (zw_byteOf g2 1)) (zw_byteOf g2 2)) ^^^ (zw_byteOf g2 3)) * 16777619) 13)) hx hb dW_mac_24 rfl ?_
  refine lv_ixor hx hb dW_mac_25 ?_
  refine kTop (y := (zmac1 (zmac1 (zmac1 (zmac1 g1 (zw_byteOf g2 0)) (zw_byteOf g2 1)) (zw_byteOf g2 2)) (zw_byteOf g2 3))) (rfl) ?_
  refine lv_istore_n hx hb dW_mac_26 rfl hl (by decide) rfl (fun ls hl => ?_)
  have hl : lv_has ls 4 [(2, .int (zmac1 (zmac1 (zmac1 (zmac1 g1 (zw_byteOf g2 0)) (zw_byteOf g2 1)) (zw_byteOf g2 2)) (zw_byteOf g2 3))), (3, .int 3), (0, .int g1), (1, .int g2)] := hl
  refine lv_iinc (k := 1) (v := 4) hx hb dW_mac_27 hl rfl (by decide) (by decide) rfl (fun ls hl => ?_)
  have hl : lv_has ls 4 [(3, .int 4), (2, .int (zmac1 (zmac1 (zmac1 (zmac1 g1 (zw_byteOf g2 0)) (zw_byteOf g2 1)) (zw_byteOf g2 2)) (zw_byteOf g2 3))), (0, .int g1), (1, .int g2)] := hl
  refine lv_goto hx hb dW_mac_30 (tgt := 4) (by decide) ?_
  refine lv_iload_n hx hb dW_mac_4 rfl (lv_at hl 0 rfl) ?_
  refine lv_iconst (v := 4) hx hb dW_mac_5 (by decide) ?_
  refine lv_icmp_ge (tgt := 33) hx hb dW_mac_6 (by decide) (fun _ => ?_) (fun h => absurd h (by decide))
  refine lv_iload_n hx hb dW_mac_33 rfl (lv_at hl 1 rfl) ?_
  exact kretP (rfl) hx hb hr hlk hS hP hD hK dW_mac_34

def zt_hasBoth (g1 : Int32) (g2 : Int32) (g3 : Int32) : Int32 := (if (g1 &&& g2) = 0 then (0 : Int32) else (if (g1 &&& g3) = 0 then (0 : Int32) else (1 : Int32)))

set_option maxHeartbeats 4000000 in
set_option maxRecDepth 100000 in
theorem kt_hasBoth (l : Launch) (D : va_G) (cI cZ : ClassId) (g1 : Int32) (g2 : Int32) (g3 : Int32) : kI l yT_hasBoth wsT_hasBoth (rmOf 0 0) D (kT cI cZ) [.int g1, .int g2, .int g3] [] (zt_hasBoth g1 g2 g3) [] := by
  intro sz
  refine kOf (Qc := fun A => kQi D (kT cI cZ) A (zt_hasBoth g1 g2 g3) []) (cc := cT_hasBoth) (maxL := 3) (ret := some .boolean) (by decide) rfl (Nat.le_of_ble_eq_true rfl) ?_ sz
  intro p e s m args below meth c A ls hx hb hml hown hts hNw hr hlk hin hA hS hP hD hK hl
  show W p l e (rmOf 0 0) s m args below meth c s.heap [] 0 0 (MQ below (kQi D (kT cI cZ) A (zt_hasBoth g1 g2 g3) []) args s 0 0 A) (F0 m 0 ls [])
  have hts : ∀ q ∈ lw_g, q.before args s = true := fun q h => hts q (List.mem_cons_of_mem _ h)
  have hown : s.vm.findClass cnT = some m.cls := hown
  have hl : lv_has ls 3 [(0, .int g1), (1, .int g2), (2, .int g3)] := hl
  have hP : va_P D vwCl [] s.heap := hP
  have hD : va_D A [] := hD
  refine lv_iload_n hx hb dT_hasBoth_0 rfl (lv_at hl 0 rfl) ?_
  refine lv_iload_n hx hb dT_hasBoth_1 rfl (lv_at hl 1 rfl) ?_
  refine lv_iand hx hb dT_hasBoth_2 ?_
  refine kJoin (pcJ := 17) (z := (if (g1 &&& g2) = 0 then (0 : Int32) else (if (g1 &&& g3) = 0 then (0 : Int32) else (1 : Int32)))) (ws := []) (rest := []) (D := D) (A := A) (H0 := s.heap) (fun J17 => ?_) (fun H locs hP hD hS => ?_)
  ·
    refine lv_if_eq (tgt := 16) hx hb dT_hasBoth_3 (by decide) (fun h1 => ?_) (fun h1 => ?_)
    ·
      refine lv_iconst (v := 0) hx hb dT_hasBoth_16 (by decide) ?_
      exact J17 _ _ hP hD hS _ ((if_pos h1).symm)
    ·
      refine lv_iload_n hx hb dT_hasBoth_6 rfl (lv_at hl 0 rfl) ?_
      refine lv_iload_n hx hb dT_hasBoth_7 rfl (lv_at hl 2 rfl) ?_
      refine lv_iand hx hb dT_hasBoth_8 ?_
      refine lv_if_eq (tgt := 16) hx hb dT_hasBoth_9 (by decide) (fun h2 => ?_) (fun h2 => ?_)
      ·
        refine lv_iconst (v := 0) hx hb dT_hasBoth_16 (by decide) ?_
        exact J17 _ _ hP hD hS _ (((if_neg h1).trans (if_pos h2)).symm)
      ·
        refine lv_iconst (v := 1) hx hb dT_hasBoth_12 (by decide) ?_
        refine lv_goto hx hb dT_hasBoth_13 (tgt := 17) (by decide) ?_
        exact J17 _ _ hP hD hS _ (((if_neg h1).trans (if_neg h2)).symm)
  exact kretZ (rfl) (kz_ite kz0 (kz_ite kz0 kz1)) hx hb hr hlk hS hP hD hK dT_hasBoth_17

def zt_areGood (g1 : Int32) : Int32 := (if g1 < 0 then (0 : Int32) else (if 511 < g1 then (0 : Int32) else (if (zt_hasBoth g1 128 32) = 0 then (if (zt_hasBoth g1 256 16) = 0 then (1 : Int32) else (0 : Int32)) else (0 : Int32))))

set_option maxHeartbeats 4000000 in
set_option maxRecDepth 100000 in
theorem kt_areGood (l : Launch) (D : va_G) (cI cZ : ClassId) (g1 : Int32) : kI l yT_areGood wsT_areGood (rmOf 1 22) D (kT cI cZ) [.int g1] [] (zt_areGood g1) [] := by
  intro sz
  refine kOf (Qc := fun A => kQi D (kT cI cZ) A (zt_areGood g1) []) (cc := cT_areGood) (maxL := 1) (ret := some .boolean) (by decide) rfl (Nat.le_of_ble_eq_true rfl) ?_ sz
  intro p e s m args below meth c A ls hx hb hml hown hts hNw hr hlk hin hA hS hP hD hK hl
  show W p l e (rmOf 1 22) s m args below meth c s.heap [] 0 0 (MQ below (kQi D (kT cI cZ) A (zt_areGood g1) []) args s 0 0 A) (F0 m 0 ls [])
  have hts : ∀ q ∈ lw_g, q.before args s = true := fun q h => hts q (List.mem_cons_of_mem _ h)
  have hown : s.vm.findClass cnT = some m.cls := hown
  have hl : lv_has ls 1 [(0, .int g1)] := hl
  have hP : va_P D vwCl [] s.heap := hP
  have hD : va_D A [] := hD
  refine lv_iload_n hx hb dT_areGood_0 rfl (lv_at hl 0 rfl) ?_
  refine kJoin (pcJ := 40) (z := (if g1 < 0 then (0 : Int32) else (if 511 < g1 then (0 : Int32) else (if (zt_hasBoth g1 128 32) = 0 then (if (zt_hasBoth g1 256 16) = 0 then (1 : Int32) else (0 : Int32)) else (0 : Int32))))) (ws := []) (rest := []) (D := D) (A := A) (H0 := s.heap) (fun J40 => ?_) (fun H locs hP hD hS => ?_)
  ·
    refine lv_if_lt (tgt := 39) hx hb dT_areGood_1 (by decide) (fun h1 => ?_) (fun h1 => ?_)
    ·
      refine lv_iconst (v := 0) hx hb dT_areGood_39 (by decide) ?_
      exact J40 _ _ hP hD hS _ ((if_pos h1).symm)
    ·
      refine lv_iload_n hx hb dT_areGood_4 rfl (lv_at hl 0 rfl) ?_
      refine lv_sipush (v := 511) hx hb dT_areGood_5 (by decide) ?_
      refine lv_icmp_gt (tgt := 39) hx hb dT_areGood_8 (by decide) (fun h2 => ?_) (fun h2 => ?_)
      ·
        refine lv_iconst (v := 0) hx hb dT_areGood_39 (by decide) ?_
        exact J40 _ _ hP hD hS _ (((if_neg h1).trans (if_pos h2)).symm)
      ·
        refine lv_iload_n hx hb dT_areGood_11 rfl (lv_at hl 0 rfl) ?_
        refine lv_sipush (v := 128) hx hb dT_areGood_12 (by decide) ?_
        refine lv_bipush (v := 32) hx hb dT_areGood_15 (by decide) ?_
        refine kcI (isR := []) (isC := []) (wr := []) (w2 := []) (va_runS (As := [.int g1, .int 128, .int 32]) (rest := []) ⟨hx, hb, hml, hown, hts⟩ (kt_hasBoth l D cI cZ g1 128 32 _) ⟨(callB_of 3 hts gd_yT_hasBoth rfl rfl rfl (hts _ mw24) (hts _ mw167) (by decide +kernel) ⟨Nat.le_of_ble_eq_true rfl, Nat.le_of_ble_eq_true rfl⟩), hts _ mw168⟩ (kpreS hNw hP hD hK [] rfl (by decide)) rfl rfl hl.1 rfl (lv_room (Nat.le_of_ble_eq_true rfl)) dT_areGood_17 ⟨Nat.le_of_ble_eq_true rfl, Nat.le_of_ble_eq_true rfl⟩) hP hD hS hA [] rfl rfl (by decide) (by decide) (by decide) rfl (fun H locs hP hD hS => ?_)
        refine lv_if_ne (tgt := 39) hx hb dT_areGood_20 (by decide) (fun h3 => ?_) (fun h3 => ?_)
        ·
          refine lv_iconst (v := 0) hx hb dT_areGood_39 (by decide) ?_
          exact J40 _ _ hP hD hS _ (((if_neg h1).trans ((if_neg h2).trans (if_neg h3))).symm)
        ·
          refine lv_iload_n hx hb dT_areGood_23 rfl (lv_at hl 0 rfl) ?_
          refine lv_sipush (v := 256) hx hb dT_areGood_24 (by decide) ?_
          refine lv_bipush (v := 16) hx hb dT_areGood_27 (by decide) ?_
          refine kcI (isR := []) (isC := []) (wr := []) (w2 := []) (va_runS (As := [.int g1, .int 256, .int 16]) (rest := []) ⟨hx, hb, hml, hown, hts⟩ (kt_hasBoth l D cI cZ g1 256 16 _) ⟨(callB_of 3 hts gd_yT_hasBoth rfl rfl rfl (hts _ mw24) (hts _ mw167) (by decide +kernel) ⟨Nat.le_of_ble_eq_true rfl, Nat.le_of_ble_eq_true rfl⟩), hts _ mw168⟩ (kpreS hNw hP hD hK [] rfl (by decide)) rfl rfl hl.1 rfl (lv_room (Nat.le_of_ble_eq_true rfl)) dT_areGood_29 ⟨Nat.le_of_ble_eq_true rfl, Nat.le_of_ble_eq_true rfl⟩) hP hD hS hA [] rfl rfl (by decide) (by decide) (by decide) rfl (fun H locs hP hD hS => ?_)
          refine lv_if_ne (tgt := 39) hx hb dT_areGood_32 (by decide) (fun h4 => ?_) (fun h4 => ?_)
          ·
            refine lv_iconst (v := 0) hx hb dT_areGood_39 (by decide) ?_
            exact J40 _ _ hP hD hS _ (((if_neg h1).trans ((if_neg h2).trans ((if_pos h3).trans (if_neg h4)))).symm)
          ·
            refine lv_iconst (v := 1) hx hb dT_areGood_35 (by decide) ?_
            refine lv_goto hx hb dT_areGood_36 (tgt := 40) (by decide) ?_
            exact J40 _ _ hP hD hS _ (((if_neg h1).trans ((if_neg h2).trans ((if_pos h3).trans (if_pos h4)))).symm)
  exact kretZ (rfl) (kz_ite kz0 (kz_ite kz0 (kz_ite (kz_ite kz1 kz0) kz0))) hx hb hr hlk hS hP hD hK dT_areGood_40

def zt_originOf (g1 : Int32) : Int32 := ((1024 ||| (if (g1 &&& 4) = 0 then (0 : Int32) else (2048 : Int32))) ||| (if (g1 &&& 8) = 0 then (4096 : Int32) else (0 : Int32)))

set_option maxHeartbeats 4000000 in
set_option maxRecDepth 100000 in
theorem kt_originOf (l : Launch) (D : va_G) (cI cZ : ClassId) (g1 : Int32) : kI l yT_originOf wsT_originOf (rmOf 0 0) D (kT cI cZ) [.int g1] [] (zt_originOf g1) [] := by
  intro sz
  refine kOf (Qc := fun A => kQi D (kT cI cZ) A (zt_originOf g1) []) (cc := cT_originOf) (maxL := 3) (ret := some .int) (by decide) rfl (Nat.le_of_ble_eq_true rfl) ?_ sz
  intro p e s m args below meth c A ls hx hb hml hown hts hNw hr hlk hin hA hS hP hD hK hl
  show W p l e (rmOf 0 0) s m args below meth c s.heap [] 0 0 (MQ below (kQi D (kT cI cZ) A (zt_originOf g1) []) args s 0 0 A) (F0 m 0 ls [])
  have hts : ∀ q ∈ lw_g, q.before args s = true := fun q h => hts q (List.mem_cons_of_mem _ h)
  have hown : s.vm.findClass cnT = some m.cls := hown
  have hl : lv_has ls 3 [(0, .int g1)] := hl
  have hP : va_P D vwCl [] s.heap := hP
  have hD : va_D A [] := hD
  refine lv_iload_n hx hb dT_originOf_0 rfl (lv_at hl 0 rfl) ?_
  refine lv_iconst (v := 4) hx hb dT_originOf_1 (by decide) ?_
  refine lv_iand hx hb dT_originOf_2 ?_
  refine kJoin (pcJ := 13) (z := (if (g1 &&& 4) = 0 then (0 : Int32) else (2048 : Int32))) (ws := []) (rest := []) (D := D) (A := A) (H0 := s.heap) (fun J13 => ?_) (fun H locs hP hD hS => ?_)
  ·
    refine lv_if_eq (tgt := 12) hx hb dT_originOf_3 (by decide) (fun h1 => ?_) (fun h1 => ?_)
    ·
      refine lv_iconst (v := 0) hx hb dT_originOf_12 (by decide) ?_
      exact J13 _ _ hP hD hS _ ((if_pos h1).symm)
    ·
      refine lv_sipush (v := 2048) hx hb dT_originOf_6 (by decide) ?_
      refine lv_goto hx hb dT_originOf_9 (tgt := 13) (by decide) ?_
      exact J13 _ _ hP hD hS _ ((if_neg h1).symm)
  refine lv_istore_n hx hb dT_originOf_13 rfl hl (by decide) rfl (fun ls hl => ?_)
  have hl : lv_has ls 3 [(1, .int (if (g1 &&& 4) = 0 then (0 : Int32) else (2048 : Int32))), (0, .int g1)] := hl
  refine lv_iload_n hx hb dT_originOf_14 rfl (lv_at hl 1 rfl) ?_
  refine lv_bipush (v := 8) hx hb dT_originOf_15 (by decide) ?_
  refine lv_iand hx hb dT_originOf_17 ?_
  refine kJoin (pcJ := 28) (z := (if (g1 &&& 8) = 0 then (4096 : Int32) else (0 : Int32))) (ws := []) (rest := []) (D := D) (A := A) (H0 := s.heap) (fun J28 => ?_) (fun H locs hP hD hS => ?_)
  ·
    refine lv_if_ne (tgt := 27) hx hb dT_originOf_18 (by decide) (fun h2 => ?_) (fun h2 => ?_)
    ·
      refine lv_iconst (v := 0) hx hb dT_originOf_27 (by decide) ?_
      exact J28 _ _ hP hD hS _ ((if_neg h2).symm)
    ·
      refine lv_sipush (v := 4096) hx hb dT_originOf_21 (by decide) ?_
      refine lv_goto hx hb dT_originOf_24 (tgt := 28) (by decide) ?_
      exact J28 _ _ hP hD hS _ ((if_pos h2).symm)
  refine lv_istore_n hx hb dT_originOf_28 rfl hl (by decide) rfl (fun ls hl => ?_)
  have hl : lv_has ls 3 [(2, .int (if (g1 &&& 8) = 0 then (4096 : Int32) else (0 : Int32))), (1, .int (if (g1 &&& 4) = 0 then (0 : Int32) else (2048 : Int32))), (0, .int g1)] := hl
  refine lv_sipush (v := 1024) hx hb dT_originOf_29 (by decide) ?_
  refine lv_iload_n hx hb dT_originOf_32 rfl (lv_at hl 1 rfl) ?_
  refine lv_ior hx hb dT_originOf_33 ?_
  refine lv_iload_n hx hb dT_originOf_34 rfl (lv_at hl 0 rfl) ?_
  refine lv_ior hx hb dT_originOf_35 ?_
  exact kretP (rfl) hx hb hr hlk hS hP hD hK dT_originOf_36

def zt_answered (g1 : Int32) : Int64 := ((Int32.toInt64 g1) &&& 4294967295)

set_option maxHeartbeats 4000000 in
set_option maxRecDepth 100000 in
theorem kt_answered (l : Launch) (D : va_G) (cI cZ : ClassId) (g1 : Int32) : kL l yT_answered wsT_answered (rmOf 0 0) D (kT cI cZ) [.int g1] [] (zt_answered g1) [] := by
  intro sz
  refine kOf (Qc := fun A => kQl D (kT cI cZ) A (zt_answered g1) []) (cc := cT_answered) (maxL := 1) (ret := some .long) (by decide) rfl (Nat.le_of_ble_eq_true rfl) ?_ sz
  intro p e s m args below meth c A ls hx hb hml hown hts hNw hr hlk hin hA hS hP hD hK hl
  show W p l e (rmOf 0 0) s m args below meth c s.heap [] 0 0 (MQ below (kQl D (kT cI cZ) A (zt_answered g1) []) args s 0 0 A) (F0 m 0 ls [])
  have hts : ∀ q ∈ lw_g, q.before args s = true := fun q h => hts q (List.mem_cons_of_mem _ h)
  have hown : s.vm.findClass cnT = some m.cls := hown
  have hl : lv_has ls 1 [(0, .int g1)] := hl
  have hP : va_P D vwCl [] s.heap := hP
  have hD : va_D A [] := hD
  refine lv_iload_n hx hb dT_answered_0 rfl (lv_at hl 0 rfl) ?_
  refine lv_i2l (v := (Int32.toInt64 g1)) hx hb dT_answered_1 rfl ?_
  refine lv_ldc2 (v := 4294967295) hx hb hown (hts _ mw231) dT_answered_2 ?_
  refine lv_land hx hb dT_answered_5 ?_
  exact kretL (rfl) hx hb hr hlk hS hP hD hK dT_answered_6

def zt_tagOf (g1 : Int32) (g2 : Int32) : Int64 := (Int32.toInt64 ((zw_mac g1 g2) &&& 2147483647))

set_option maxHeartbeats 4000000 in
set_option maxRecDepth 100000 in
theorem kt_tagOf (l : Launch) (D : va_G) (cI cZ : ClassId) (g1 : Int32) (g2 : Int32) : kL l yT_tagOf wsT_tagOf (rmOf 2 44) D (kT cI cZ) [.int g1, .int g2] [] (zt_tagOf g1 g2) [] := by
  intro sz
  refine kOf (Qc := fun A => kQl D (kT cI cZ) A (zt_tagOf g1 g2) []) (cc := cT_tagOf) (maxL := 2) (ret := some .long) (by decide) rfl (Nat.le_of_ble_eq_true rfl) ?_ sz
  intro p e s m args below meth c A ls hx hb hml hown hts hNw hr hlk hin hA hS hP hD hK hl
  show W p l e (rmOf 2 44) s m args below meth c s.heap [] 0 0 (MQ below (kQl D (kT cI cZ) A (zt_tagOf g1 g2) []) args s 0 0 A) (F0 m 0 ls [])
  have hts : ∀ q ∈ lw_g, q.before args s = true := fun q h => hts q (List.mem_cons_of_mem _ h)
  have hown : s.vm.findClass cnT = some m.cls := hown
  have hl : lv_has ls 2 [(0, .int g1), (1, .int g2)] := hl
  have hP : va_P D vwCl [] s.heap := hP
  have hD : va_D A [] := hD
  refine lv_iload_n hx hb dT_tagOf_0 rfl (lv_at hl 0 rfl) ?_
  refine lv_iload_n hx hb dT_tagOf_1 rfl (lv_at hl 1 rfl) ?_
  refine kcI (isR := []) (isC := []) (wr := []) (w2 := []) (va_runSN (As := [.int g1, .int g2]) (rest := []) ⟨hx, hb, hml, hown, hts⟩ (kw_mac l D cI cZ g1 g2 _) ⟨(va_cnB 2 hts gd_yW_mac rfl rfl rfl (hNw _ mw179) (hts _ mw28) (by decide +kernel) ⟨Nat.le_of_ble_eq_true rfl, Nat.le_of_ble_eq_true rfl⟩), hts _ mw180, trivial⟩ (kpreS hNw hP hD hK [] rfl (by decide)) rfl rfl hl.1 rfl (lv_room (Nat.le_of_ble_eq_true rfl)) dT_tagOf_2 ⟨Nat.le_of_ble_eq_true rfl, Nat.le_of_ble_eq_true rfl⟩) hP hD hS hA [] rfl rfl (by decide) (by decide) (by decide) rfl (fun H locs hP hD hS => ?_)
  refine lv_ldc (v := 2147483647) hx hb hown (hts _ mw267) dT_tagOf_5 ?_
  refine lv_iand hx hb dT_tagOf_7 ?_
  refine lv_i2l (v := (Int32.toInt64 ((zw_mac g1 g2) &&& 2147483647))) hx hb dT_tagOf_8 rfl ?_
  exact kretL (rfl) hx hb hr hlk hS hP hD hK dT_tagOf_9

def zm_has (g1 : Int32) (g2 : Int32) : Int32 := (if (g1 &&& g2) = 0 then (0 : Int32) else (1 : Int32))

set_option maxHeartbeats 4000000 in
set_option maxRecDepth 100000 in
theorem km_has (l : Launch) (D : va_G) (cI cZ : ClassId) (g1 : Int32) (g2 : Int32) : kI l yM_has wsM_has (rmOf 0 0) D (kT cI cZ) [.int g1, .int g2] [] (zm_has g1 g2) [] := by
  intro sz
  refine kOf (Qc := fun A => kQi D (kT cI cZ) A (zm_has g1 g2) []) (cc := cM_has) (maxL := 2) (ret := some .boolean) (by decide) rfl (Nat.le_of_ble_eq_true rfl) ?_ sz
  intro p e s m args below meth c A ls hx hb hml hown hts hNw hr hlk hin hA hS hP hD hK hl
  show W p l e (rmOf 0 0) s m args below meth c s.heap [] 0 0 (MQ below (kQi D (kT cI cZ) A (zm_has g1 g2) []) args s 0 0 A) (F0 m 0 ls [])
  have hts : ∀ q ∈ lw_g, q.before args s = true := fun q h => hts q (List.mem_cons_of_mem _ h)
  have hown : s.vm.findClass cnM = some m.cls := hown
  have hl : lv_has ls 2 [(0, .int g1), (1, .int g2)] := hl
  have hP : va_P D vwCl [] s.heap := hP
  have hD : va_D A [] := hD
  refine lv_iload_n hx hb dM_has_0 rfl (lv_at hl 0 rfl) ?_
  refine lv_iload_n hx hb dM_has_1 rfl (lv_at hl 1 rfl) ?_
  refine lv_iand hx hb dM_has_2 ?_
  refine kJoin (pcJ := 11) (z := (if (g1 &&& g2) = 0 then (0 : Int32) else (1 : Int32))) (ws := []) (rest := []) (D := D) (A := A) (H0 := s.heap) (fun J11 => ?_) (fun H locs hP hD hS => ?_)
  ·
    refine lv_if_eq (tgt := 10) hx hb dM_has_3 (by decide) (fun h1 => ?_) (fun h1 => ?_)
    ·
      refine lv_iconst (v := 0) hx hb dM_has_10 (by decide) ?_
      exact J11 _ _ hP hD hS _ ((if_pos h1).symm)
    ·
      refine lv_iconst (v := 1) hx hb dM_has_6 (by decide) ?_
      refine lv_goto hx hb dM_has_7 (tgt := 11) (by decide) ?_
      exact J11 _ _ hP hD hS _ ((if_neg h1).symm)
  exact kretZ (rfl) (kz_ite kz0 kz1) hx hb hr hlk hS hP hD hK dM_has_11

def zm_half (g1 : Int32) (g2 : Int32) (g3 : Int32) : Int32 := (((((g3 * 40503) + (((zush g1 (8 * g2)) &&& 255) * 257)) + (g2 * 4099)) ^^^ (zush (((g3 * 40503) + (((zush g1 (8 * g2)) &&& 255) * 257)) + (g2 * 4099)) 7)) &&& 65535)

set_option maxHeartbeats 4000000 in
set_option maxRecDepth 100000 in
theorem km_half (l : Launch) (D : va_G) (cI cZ : ClassId) (g1 : Int32) (g2 : Int32) (g3 : Int32) : kI l yM_half wsM_half (rmOf 0 0) D (kT cI cZ) [.int g1, .int g2, .int g3] [] (zm_half g1 g2 g3) [] := by
  intro sz
  refine kOf (Qc := fun A => kQi D (kT cI cZ) A (zm_half g1 g2 g3) []) (cc := cM_half) (maxL := 4) (ret := some .int) (by decide) rfl (Nat.le_of_ble_eq_true rfl) ?_ sz
  intro p e s m args below meth c A ls hx hb hml hown hts hNw hr hlk hin hA hS hP hD hK hl
  show W p l e (rmOf 0 0) s m args below meth c s.heap [] 0 0 (MQ below (kQi D (kT cI cZ) A (zm_half g1 g2 g3) []) args s 0 0 A) (F0 m 0 ls [])
  have hts : ∀ q ∈ lw_g, q.before args s = true := fun q h => hts q (List.mem_cons_of_mem _ h)
  have hown : s.vm.findClass cnM = some m.cls := hown
  have hl : lv_has ls 4 [(0, .int g1), (1, .int g2), (2, .int g3)] := hl
  have hP : va_P D vwCl [] s.heap := hP
  have hD : va_D A [] := hD
  refine lv_iload_n hx hb dM_half_0 rfl (lv_at hl 2 rfl) ?_
  refine lv_ldc (v := 40503) hx hb hown (hts _ mw427) dM_half_1 ?_
  refine lv_imul hx hb dM_half_3 ?_
  refine lv_iload_n hx hb dM_half_4 rfl (lv_at hl 0 rfl) ?_
  refine lv_bipush (v := 8) hx hb dM_half_5 (by decide) ?_
  refine lv_iload_n hx hb dM_half_7 rfl (lv_at hl 1 rfl) ?_
  refine lv_imul hx hb dM_half_8 ?_
  refine lv_iushr (v := (zush g1 (8 * g2))) hx hb dM_half_9 rfl ?_
  refine lv_sipush (v := 255) hx hb dM_half_10 (by decide) ?_
  refine lv_iand hx hb dM_half_13 ?_
  refine lv_sipush (v := 257) hx hb dM_half_14 (by decide) ?_
  refine lv_imul hx hb dM_half_17 ?_
  refine lv_iadd hx hb dM_half_18 ?_
  refine lv_iload_n hx hb dM_half_19 rfl (lv_at hl 1 rfl) ?_
  refine lv_sipush (v := 4099) hx hb dM_half_20 (by decide) ?_
  refine lv_imul hx hb dM_half_23 ?_
  refine lv_iadd hx hb dM_half_24 ?_
  refine lv_istore_n hx hb dM_half_25 rfl hl (by decide) rfl (fun ls hl => ?_)
  have hl : lv_has ls 4 [(3, .int (((g3 * 40503) + (((zush g1 (8 * g2)) &&& 255) * 257)) + (g2 * 4099))), (0, .int g1), (1, .int g2), (2, .int g3)] := hl
  refine lv_iload_n hx hb dM_half_26 rfl (lv_at hl 0 rfl) ?_
  refine lv_iload_n hx hb dM_half_27 rfl (lv_at hl 0 rfl) ?_
  refine lv_bipush (v := 7) hx hb dM_half_28 (by decide) ?_
  refine lv_iushr (v := (zush (((g3 * 40503) + (((zush g1 (8 * g2)) &&& 255) * 257)) + (g2 * 4099)) 7)) hx hb dM_half_30 rfl ?_
  refine lv_ixor hx hb dM_half_31 ?_
  refine lv_ldc (v := 65535) hx hb hown (hts _ mw423) dM_half_32 ?_
  refine lv_iand hx hb dM_half_34 ?_
  exact kretP (rfl) hx hb hr hlk hS hP hD hK dM_half_35

def zm_rounds (g1 : Int32) (g2 : Int32) (g3 : Int32) : Int32 := (if g3 = 0 then (((((if g3 = 0 then (zush g2 16) else (g2 &&& 65535)) ^^^ (zm_half g1 (if g3 = 0 then (2 : Int32) else (1 : Int32)) ((if g3 = 0 then (g2 &&& 65535) else (zush g2 16)) ^^^ (zm_half g1 (if g3 = 0 then (3 : Int32) else (0 : Int32)) (if g3 = 0 then (zush g2 16) else (g2 &&& 65535)))))) ^^^ (zm_half g1 (if g3 = 0 then (0 : Int32) else (3 : Int32)) (((if g3 = 0 then (g2 &&& 65535) else (zush g2 16)) ^^^ (zm_half g1 (if g3 = 0 then (3 : Int32) else (0 : Int32)) (if g3 = 0 then (zush g2 16) else (g2 &&& 65535)))) ^^^ (zm_half g1 (if g3 = 0 then (1 : Int32) else (2 : Int32)) ((if g3 = 0 then (zush g2 16) else (g2 &&& 65535)) ^^^ (zm_half g1 (if g3 = 0 then (2 : Int32) else (1 : Int32)) ((if g3 = 0 then (g2 &&& 65535) else (zush g2 16)) ^^^ (zm_half g1 (if g3 = 0 then (3 : Int32) else (0 : Int32)) (if g3 = 0 then (zush g2 16) else (g2 &&& 65535)))))))))) * 65536) + (((if g3 = 0 then (g2 &&& 65535) else (zush g2 16)) ^^^ (zm_half g1 (if g3 = 0 then (3 : Int32) else (0 : Int32)) (if g3 = 0 then (zush g2 16) else (g2 &&& 65535)))) ^^^ (zm_half g1 (if g3 = 0 then (1 : Int32) else (2 : Int32)) ((if g3 = 0 then (zush g2 16) else (g2 &&& 65535)) ^^^ (zm_half g1 (if g3 = 0 then (2 : Int32) else (1 : Int32)) ((if g3 = 0 then (g2 &&& 65535) else (zush g2 16)) ^^^ (zm_half g1 (if g3 = 0 then (3 : Int32) else (0 : Int32)) (if g3 = 0 then (zush g2 16) else (g2 &&& 65535))))))))) else (((((if g3 = 0 then (g2 &&& 65535) else (zush g2 16)) ^^^ (zm_half g1 (if g3 = 0 then (3 : Int32) else (0 : Int32)) (if g3 = 0 then (zush g2 16) else (g2 &&& 65535)))) ^^^ (zm_half g1 (if g3 = 0 then (1 : Int32) else (2 : Int32)) ((if g3 = 0 then (zush g2 16) else (g2 &&& 65535)) ^^^ (zm_half g1 (if g3 = 0 then (2 : Int32) else (1 : Int32)) ((if g3 = 0 then (g2 &&& 65535) else (zush g2 16)) ^^^ (zm_half g1 (if g3 = 0 then (3 : Int32) else (0 : Int32)) (if g3 = 0 then (zush g2 16) else (g2 &&& 65535)))))))) * 65536) + (((if g3 = 0 then (zush g2 16) else (g2 &&& 65535)) ^^^ (zm_half g1 (if g3 = 0 then (2 : Int32) else (1 : Int32)) ((if g3 = 0 then (g2 &&& 65535) else (zush g2 16)) ^^^ (zm_half g1 (if g3 = 0 then (3 : Int32) else (0 : Int32)) (if g3 = 0 then (zush g2 16) else (g2 &&& 65535)))))) ^^^ (zm_half g1 (if g3 = 0 then (0 : Int32) else (3 : Int32)) (((if g3 = 0 then (g2 &&& 65535) else (zush g2 16)) ^^^ (zm_half g1 (if g3 = 0 then (3 : Int32) else (0 : Int32)) (if g3 = 0 then (zush g2 16) else (g2 &&& 65535)))) ^^^ (zm_half g1 (if g3 = 0 then (1 : Int32) else (2 : Int32)) ((if g3 = 0 then (zush g2 16) else (g2 &&& 65535)) ^^^ (zm_half g1 (if g3 = 0 then (2 : Int32) else (1 : Int32)) ((if g3 = 0 then (g2 &&& 65535) else (zush g2 16)) ^^^ (zm_half g1 (if g3 = 0 then (3 : Int32) else (0 : Int32)) (if g3 = 0 then (zush g2 16) else (g2 &&& 65535))))))))))))

set_option maxHeartbeats 4000000 in
set_option maxRecDepth 100000 in
theorem km_rounds (l : Launch) (D : va_G) (cI cZ : ClassId) (g1 : Int32) (g2 : Int32) (g3 : Int32) : kI l yM_rounds wsM_rounds (rmOf 1 23) D (kT cI cZ) [.int g1, .int g2, .int g3] [] (zm_rounds g1 g2 g3) [] := by
  intro sz
  refine kOf (Qc := fun A => kQi D (kT cI cZ) A (zm_rounds g1 g2 g3) []) (cc := cM_rounds) (maxL := 7) (ret := some .int) (by decide) rfl (Nat.le_of_ble_eq_true rfl) ?_ sz
  intro p e s m args below meth c A ls hx hb hml hown hts hNw hr hlk hin hA hS hP hD hK hl
  show W p l e (rmOf 1 23) s m args below meth c s.heap [] 0 0 (MQ below (kQi D (kT cI cZ) A (zm_rounds g1 g2 g3) []) args s 0 0 A) (F0 m 0 ls [])
  have hts : ∀ q ∈ lw_g, q.before args s = true := fun q h => hts q (List.mem_cons_of_mem _ h)
  have hown : s.vm.findClass cnM = some m.cls := hown
  have hl : lv_has ls 7 [(0, .int g1), (1, .int g2), (2, .int g3)] := hl
  have hP : va_P D vwCl [] s.heap := hP
  have hD : va_D A [] := hD
  refine lv_iload_n hx hb dM_rounds_0 rfl (lv_at hl 2 rfl) ?_
  refine kJoin (pcJ := 15) (z := (if g3 = 0 then (g2 &&& 65535) else (zush g2 16))) (ws := []) (rest := []) (D := D) (A := A) (H0 := s.heap) (fun J15 => ?_) (fun H locs hP hD hS => ?_)
  ·
    refine lv_if_eq (tgt := 11) hx hb dM_rounds_1 (by decide) (fun h1 => ?_) (fun h1 => ?_)
    ·
      refine lv_iload_n hx hb dM_rounds_11 rfl (lv_at hl 1 rfl) ?_
      refine lv_ldc (v := 65535) hx hb hown (hts _ mw423) dM_rounds_12 ?_
      refine lv_iand hx hb dM_rounds_14 ?_
      exact J15 _ _ hP hD hS _ ((if_pos h1).symm)
    ·
      refine lv_iload_n hx hb dM_rounds_4 rfl (lv_at hl 1 rfl) ?_
      refine lv_bipush (v := 16) hx hb dM_rounds_5 (by decide) ?_
      refine lv_iushr (v := (zush g2 16)) hx hb dM_rounds_7 rfl ?_
      refine lv_goto hx hb dM_rounds_8 (tgt := 15) (by decide) ?_
      exact J15 _ _ hP hD hS _ ((if_neg h1).symm)
  refine lv_istore_n hx hb dM_rounds_15 rfl hl (by decide) rfl (fun ls hl => ?_)
  have hl : lv_has ls 7 [(3, .int (if g3 = 0 then (g2 &&& 65535) else (zush g2 16))), (0, .int g1), (1, .int g2), (2, .int g3)] := hl
  refine lv_iload_n hx hb dM_rounds_16 rfl (lv_at hl 3 rfl) ?_
  refine kJoin (pcJ := 31) (z := (if g3 = 0 then (zush g2 16) else (g2 &&& 65535))) (ws := []) (rest := []) (D := D) (A := A) (H0 := s.heap) (fun J31 => ?_) (fun H locs hP hD hS => ?_)
  ·
    refine lv_if_eq (tgt := 27) hx hb dM_rounds_17 (by decide) (fun h2 => ?_) (fun h2 => ?_)
    ·
      refine lv_iload_n hx hb dM_rounds_27 rfl (lv_at hl 2 rfl) ?_
      refine lv_bipush (v := 16) hx hb dM_rounds_28 (by decide) ?_
      refine lv_iushr (v := (zush g2 16)) hx hb dM_rounds_30 rfl ?_
      exact J31 _ _ hP hD hS _ ((if_pos h2).symm)
    ·
      refine lv_iload_n hx hb dM_rounds_20 rfl (lv_at hl 2 rfl) ?_
      refine lv_ldc (v := 65535) hx hb hown (hts _ mw423) dM_rounds_21 ?_
      refine lv_iand hx hb dM_rounds_23 ?_
      refine lv_goto hx hb dM_rounds_24 (tgt := 31) (by decide) ?_
      exact J31 _ _ hP hD hS _ ((if_neg h2).symm)
  refine lv_istore hx hb dM_rounds_31 hl (by decide) rfl (fun ls hl => ?_)
  have hl : lv_has ls 7 [(4, .int (if g3 = 0 then (zush g2 16) else (g2 &&& 65535))), (3, .int (if g3 = 0 then (g2 &&& 65535) else (zush g2 16))), (0, .int g1), (1, .int g2), (2, .int g3)] := hl
  refine lv_iconst (v := 0) hx hb dM_rounds_33 (by decide) ?_
  refine lv_istore hx hb dM_rounds_34 hl (by decide) rfl (fun ls hl => ?_)
  have hl : lv_has ls 7 [(5, .int 0), (4, .int (if g3 = 0 then (zush g2 16) else (g2 &&& 65535))), (3, .int (if g3 = 0 then (g2 &&& 65535) else (zush g2 16))), (0, .int g1), (1, .int g2), (2, .int g3)] := hl
  refine lv_iload hx hb dM_rounds_36 (lv_at hl 0 rfl) ?_
  refine lv_iconst (v := 4) hx hb dM_rounds_38 (by decide) ?_
  refine lv_icmp_ge (tgt := 78) hx hb dM_rounds_39 (by decide) (fun h => absurd h (by decide)) (fun _ => ?_)
  refine lv_iload_n hx hb dM_rounds_42 rfl (lv_at hl 2 rfl) ?_
  refine lv_iload_n hx hb dM_rounds_43 rfl (lv_at hl 3 rfl) ?_
  refine lv_iload_n hx hb dM_rounds_44 rfl (lv_at hl 5 rfl) ?_
  refine kJoin (pcJ := 57) (z := (if g3 = 0 then (3 : Int32) else (0 : Int32))) (ws := []) (rest := [.int g1, .int (if g3 = 0 then (g2 &&& 65535) else (zush g2 16))]) (D := D) (A := A) (H0 := s.heap) (fun J57 => ?_) (fun H locs hP hD hS => ?_)
  ·
    refine lv_if_eq (tgt := 53) hx hb dM_rounds_45 (by decide) (fun h3 => ?_) (fun h3 => ?_)
    ·
      refine lv_iconst (v := 3) hx hb dM_rounds_53 (by decide) ?_
      refine lv_iload hx hb dM_rounds_54 (lv_at hl 0 rfl) ?_
      refine lv_isub hx hb dM_rounds_56 ?_
      refine kTop (y := 3) (by decide) ?_
      exact J57 _ _ hP hD hS _ ((if_pos h3).symm)
    ·
      refine lv_iload hx hb dM_rounds_48 (lv_at hl 0 rfl) ?_
      refine lv_goto hx hb dM_rounds_50 (tgt := 57) (by decide) ?_
      exact J57 _ _ hP hD hS _ ((if_neg h3).symm)
  refine lv_iload hx hb dM_rounds_57 (lv_at hl 1 rfl) ?_
  refine kcI (isR := []) (isC := []) (wr := []) (w2 := []) (va_runS (As := [.int g1, .int (if g3 = 0 then (3 : Int32) else (0 : Int32)), .int (if g3 = 0 then (zush g2 16) else (g2 &&& 65535))]) (rest := [.int (if g3 = 0 then (g2 &&& 65535) else (zush g2 16))]) ⟨hx, hb, hml, hown, hts⟩ (km_half l D cI cZ g1 (if g3 = 0 then (3 : Int32) else (0 : Int32)) (if g3 = 0 then (zush g2 16) else (g2 &&& 65535)) _) ⟨(callB_of 3 hts gd_yM_half rfl rfl rfl (hts _ mw27) (hts _ mw424) (by decide +kernel) ⟨Nat.le_of_ble_eq_true rfl, Nat.le_of_ble_eq_true rfl⟩), hts _ mw425⟩ (kpreS hNw hP hD hK [] rfl (by decide)) rfl rfl hl.1 rfl (lv_room (Nat.le_of_ble_eq_true rfl)) dM_rounds_59 ⟨Nat.le_of_ble_eq_true rfl, Nat.le_of_ble_eq_true rfl⟩) hP hD hS hA [] rfl rfl (by decide) (by decide) (by decide) rfl (fun H locs hP hD hS => ?_)
  refine lv_ixor hx hb dM_rounds_62 ?_
  refine lv_istore hx hb dM_rounds_63 hl (by decide) rfl (fun ls hl => ?_)
  have hl : lv_has ls 7 [(6, .int ((if g3 = 0 then (g2 &&& 65535) else (zush g2 16)) ^^^ (zm_half g1 (if g3 = 0 then (3 : Int32) else (0 : Int32)) (if g3 = 0 then (zush g2 16) else (g2 &&& 65535))))), (5, .int 0), (4, .int (if g3 = 0 then (zush g2 16) else (g2 &&& 65535))), (3, .int (if g3 = 0 then (g2 &&& 65535) else (zush g2 16))), (0, .int g1), (1, .int g2), (2, .int g3)] := hl
  refine lv_iload hx hb dM_rounds_65 (lv_at hl 2 rfl) ?_
  refine lv_istore_n hx hb dM_rounds_67 rfl hl (by decide) rfl (fun ls hl => ?_)
  have hl : lv_has ls 7 [(3, .int (if g3 = 0 then (zush g2 16) else (g2 &&& 65535))), (6, .int ((if g3 = 0 then (g2 &&& 65535) else (zush g2 16)) ^^^ (zm_half g1 (if g3 = 0 then (3 : Int32) else (0 : Int32)) (if g3 = 0 then (zush g2 16) else (g2 &&& 65535))))), (5, .int 0), (4, .int (if g3 = 0 then (zush g2 16) else (g2 &&& 65535))), (0, .int g1), (1, .int g2), (2, .int g3)] := hl
  refine lv_iload hx hb dM_rounds_68 (lv_at hl 1 rfl) ?_
  refine lv_istore hx hb dM_rounds_70 hl (by decide) rfl (fun ls hl => ?_)
  have hl : lv_has ls 7 [(4, .int ((if g3 = 0 then (g2 &&& 65535) else (zush g2 16)) ^^^ (zm_half g1 (if g3 = 0 then (3 : Int32) else (0 : Int32)) (if g3 = 0 then (zush g2 16) else (g2 &&& 65535))))), (3, .int (if g3 = 0 then (zush g2 16) else (g2 &&& 65535))), (6, .int ((if g3 = 0 then (g2 &&& 65535) else (zush g2 16)) ^^^ (zm_half g1 (if g3 = 0 then (3 : Int32) else (0 : Int32)) (if g3 = 0 then (zush g2 16) else (g2 &&& 65535))))), (5, .int 0), (0, .int g1), (1, .int g2), (2, .int g3)] := hl
  refine lv_iinc (k := 3) (v := 1) hx hb dM_rounds_72 hl rfl (by decide) (by decide) rfl (fun ls hl => ?_)
  have hl : lv_has ls 7 [(5, .int 1), (4, .int ((if g3 = 0 then (g2 &&& 65535) else (zush g2 16)) ^^^ (zm_half g1 (if g3 = 0 then (3 : Int32) else (0 : Int32)) (if g3 = 0 then (zush g2 16) else (g2 &&& 65535))))), (3, .int (if g3 = 0 then (zush g2 16) else (g2 &&& 65535))), (6, .int ((if g3 = 0 then (g2 &&& 65535) else (zush g2 16)) ^^^ (zm_half g1 (if g3 = 0 then (3 : Int32) else (0 : Int32)) (if g3 = 0 then (zush g2 16) else (g2 &&& 65535))))), (0, .int g1), (1, .int g2), (2, .int g3)] := hl
  refine lv_goto hx hb dM_rounds_75 (tgt := 36) (by decide) ?_
  refine lv_iload hx hb dM_rounds_36 (lv_at hl 0 rfl) ?_
  refine lv_iconst (v := 4) hx hb dM_rounds_38 (by decide) ?_
  refine lv_icmp_ge (tgt := 78) hx hb dM_rounds_39 (by decide) (fun h => absurd h (by decide)) (fun _ => ?_)
  refine lv_iload_n hx hb dM_rounds_42 rfl (lv_at hl 2 rfl) ?_
  refine lv_iload_n hx hb dM_rounds_43 rfl (lv_at hl 4 rfl) ?_
  refine lv_iload_n hx hb dM_rounds_44 rfl (lv_at hl 6 rfl) ?_
  refine kJoin (pcJ := 57) (z := (if g3 = 0 then (2 : Int32) else (1 : Int32))) (ws := []) (rest := [.int g1, .int (if g3 = 0 then (zush g2 16) else (g2 &&& 65535))]) (D := D) (A := A) (H0 := s.heap) (fun J57 => ?_) (fun H locs hP hD hS => ?_)
  ·
    refine lv_if_eq (tgt := 53) hx hb dM_rounds_45 (by decide) (fun h4 => ?_) (fun h4 => ?_)
    ·
      refine lv_iconst (v := 3) hx hb dM_rounds_53 (by decide) ?_
      refine lv_iload hx hb dM_rounds_54 (lv_at hl 0 rfl) ?_
      refine lv_isub hx hb dM_rounds_56 ?_
      refine kTop (y := 2) (by decide) ?_
      exact J57 _ _ hP hD hS _ ((if_pos h4).symm)
    ·
      refine lv_iload hx hb dM_rounds_48 (lv_at hl 0 rfl) ?_
      refine lv_goto hx hb dM_rounds_50 (tgt := 57) (by decide) ?_
      exact J57 _ _ hP hD hS _ ((if_neg h4).symm)
  refine lv_iload hx hb dM_rounds_57 (lv_at hl 1 rfl) ?_
  refine kcI (isR := []) (isC := []) (wr := []) (w2 := []) (va_runS (As := [.int g1, .int (if g3 = 0 then (2 : Int32) else (1 : Int32)), .int ((if g3 = 0 then (g2 &&& 65535) else (zush g2 16)) ^^^ (zm_half g1 (if g3 = 0 then (3 : Int32) else (0 : Int32)) (if g3 = 0 then (zush g2 16) else (g2 &&& 65535))))]) (rest := [.int (if g3 = 0 then (zush g2 16) else (g2 &&& 65535))]) ⟨hx, hb, hml, hown, hts⟩ (km_half l D cI cZ g1 (if g3 = 0 then (2 : Int32) else (1 : Int32)) ((if g3 = 0 then (g2 &&& 65535) else (zush g2 16)) ^^^ (zm_half g1 (if g3 = 0 then (3 : Int32) else (0 : Int32)) (if g3 = 0 then (zush g2 16) else (g2 &&& 65535)))) _) ⟨(callB_of 3 hts gd_yM_half rfl rfl rfl (hts _ mw27) (hts _ mw424) (by decide +kernel) ⟨Nat.le_of_ble_eq_true rfl, Nat.le_of_ble_eq_true rfl⟩), hts _ mw425⟩ (kpreS hNw hP hD hK [] rfl (by decide)) rfl rfl hl.1 rfl (lv_room (Nat.le_of_ble_eq_true rfl)) dM_rounds_59 ⟨Nat.le_of_ble_eq_true rfl, Nat.le_of_ble_eq_true rfl⟩) hP hD hS hA [] rfl rfl (by decide) (by decide) (by decide) rfl (fun H locs hP hD hS => ?_)
  refine lv_ixor hx hb dM_rounds_62 ?_
  refine lv_istore hx hb dM_rounds_63 hl (by decide) rfl (fun ls hl => ?_)
  have hl : lv_has ls 7 [(6, .int ((if g3 = 0 then (zush g2 16) else (g2 &&& 65535)) ^^^ (zm_half g1 (if g3 = 0 then (2 : Int32) else (1 : Int32)) ((if g3 = 0 then (g2 &&& 65535) else (zush g2 16)) ^^^ (zm_half g1 (if g3 = 0 then (3 : Int32) else (0 : Int32)) (if g3 = 0 then (zush g2 16) else (g2 &&& 65535))))))), (5, .int 1), (4, .int ((if g3 = 0 then (g2 &&& 65535) else (zush g2 16)) ^^^ (zm_half g1 (if g3 = 0 then (3 : Int32) else (0 : Int32)) (if g3 = 0 then (zush g2 16) else (g2 &&& 65535))))), (3, .int (if g3 = 0 then (zush g2 16) else (g2 &&& 65535))), (0, .int g1), (1, .int g2), (2, .int g3)] := hl
  refine lv_iload hx hb dM_rounds_65 (lv_at hl 2 rfl) ?_
  refine lv_istore_n hx hb dM_rounds_67 rfl hl (by decide) rfl (fun ls hl => ?_)
  have hl : lv_has ls 7 [(3, .int ((if g3 = 0 then (g2 &&& 65535) else (zush g2 16)) ^^^ (zm_half g1 (if g3 = 0 then (3 : Int32) else (0 : Int32)) (if g3 = 0 then (zush g2 16) else (g2 &&& 65535))))), (6, .int ((if g3 = 0 then (zush g2 16) else (g2 &&& 65535)) ^^^ (zm_half g1 (if g3 = 0 then (2 : Int32) else (1 : Int32)) ((if g3 = 0 then (g2 &&& 65535) else (zush g2 16)) ^^^ (zm_half g1 (if g3 = 0 then (3 : Int32) else (0 : Int32)) (if g3 = 0 then (zush g2 16) else (g2 &&& 65535))))))), (5, .int 1), (4, .int ((if g3 = 0 then (g2 &&& 65535) else (zush g2 16)) ^^^ (zm_half g1 (if g3 = 0 then (3 : Int32) else (0 : Int32)) (if g3 = 0 then (zush g2 16) else (g2 &&& 65535))))), (0, .int g1), (1, .int g2), (2, .int g3)] := hl
  refine lv_iload hx hb dM_rounds_68 (lv_at hl 1 rfl) ?_
  refine lv_istore hx hb dM_rounds_70 hl (by decide) rfl (fun ls hl => ?_)
  have hl : lv_has ls 7 [(4, .int ((if g3 = 0 then (zush g2 16) else (g2 &&& 65535)) ^^^ (zm_half g1 (if g3 = 0 then (2 : Int32) else (1 : Int32)) ((if g3 = 0 then (g2 &&& 65535) else (zush g2 16)) ^^^ (zm_half g1 (if g3 = 0 then (3 : Int32) else (0 : Int32)) (if g3 = 0 then (zush g2 16) else (g2 &&& 65535))))))), (3, .int ((if g3 = 0 then (g2 &&& 65535) else (zush g2 16)) ^^^ (zm_half g1 (if g3 = 0 then (3 : Int32) else (0 : Int32)) (if g3 = 0 then (zush g2 16) else (g2 &&& 65535))))), (6, .int ((if g3 = 0 then (zush g2 16) else (g2 &&& 65535)) ^^^ (zm_half g1 (if g3 = 0 then (2 : Int32) else (1 : Int32)) ((if g3 = 0 then (g2 &&& 65535) else (zush g2 16)) ^^^ (zm_half g1 (if g3 = 0 then (3 : Int32) else (0 : Int32)) (if g3 = 0 then (zush g2 16) else (g2 &&& 65535))))))), (5, .int 1), (0, .int g1), (1, .int g2), (2, .int g3)] := hl
  refine lv_iinc (k := 3) (v := 2) hx hb dM_rounds_72 hl rfl (by decide) (by decide) rfl (fun ls hl => ?_)
  have hl : lv_has ls 7 [(5, .int 2), (4, .int ((if g3 = 0 then (zush g2 16) else (g2 &&& 65535)) ^^^ (zm_half g1 (if g3 = 0 then (2 : Int32) else (1 : Int32)) ((if g3 = 0 then (g2 &&& 65535) else (zush g2 16)) ^^^ (zm_half g1 (if g3 = 0 then (3 : Int32) else (0 : Int32)) (if g3 = 0 then (zush g2 16) else (g2 &&& 65535))))))), (3, .int ((if g3 = 0 then (g2 &&& 65535) else (zush g2 16)) ^^^ (zm_half g1 (if g3 = 0 then (3 : Int32) else (0 : Int32)) (if g3 = 0 then (zush g2 16) else (g2 &&& 65535))))), (6, .int ((if g3 = 0 then (zush g2 16) else (g2 &&& 65535)) ^^^ (zm_half g1 (if g3 = 0 then (2 : Int32) else (1 : Int32)) ((if g3 = 0 then (g2 &&& 65535) else (zush g2 16)) ^^^ (zm_half g1 (if g3 = 0 then (3 : Int32) else (0 : Int32)) (if g3 = 0 then (zush g2 16) else (g2 &&& 65535))))))), (0, .int g1), (1, .int g2), (2, .int g3)] := hl
  refine lv_goto hx hb dM_rounds_75 (tgt := 36) (by decide) ?_
  refine lv_iload hx hb dM_rounds_36 (lv_at hl 0 rfl) ?_
  refine lv_iconst (v := 4) hx hb dM_rounds_38 (by decide) ?_
  refine lv_icmp_ge (tgt := 78) hx hb dM_rounds_39 (by decide) (fun h => absurd h (by decide)) (fun _ => ?_)
  refine lv_iload_n hx hb dM_rounds_42 rfl (lv_at hl 2 rfl) ?_
  refine lv_iload_n hx hb dM_rounds_43 rfl (lv_at hl 4 rfl) ?_
  refine lv_iload_n hx hb dM_rounds_44 rfl (lv_at hl 6 rfl) ?_
  refine kJoin (pcJ := 57) (z := (if g3 = 0 then (1 : Int32) else (2 : Int32))) (ws := []) (rest := [.int g1, .int ((if g3 = 0 then (g2 &&& 65535) else (zush g2 16)) ^^^ (zm_half g1 (if g3 = 0 then (3 : Int32) else (0 : Int32)) (if g3 = 0 then (zush g2 16) else (g2 &&& 65535))))]) (D := D) (A := A) (H0 := s.heap) (fun J57 => ?_) (fun H locs hP hD hS => ?_)
  ·
    refine lv_if_eq (tgt := 53) hx hb dM_rounds_45 (by decide) (fun h5 => ?_) (fun h5 => ?_)
    ·
      refine lv_iconst (v := 3) hx hb dM_rounds_53 (by decide) ?_
      refine lv_iload hx hb dM_rounds_54 (lv_at hl 0 rfl) ?_
      refine lv_isub hx hb dM_rounds_56 ?_
      refine kTop (y := 1) (by decide) ?_
      exact J57 _ _ hP hD hS _ ((if_pos h5).symm)
    ·
      refine lv_iload hx hb dM_rounds_48 (lv_at hl 0 rfl) ?_
      refine lv_goto hx hb dM_rounds_50 (tgt := 57) (by decide) ?_
      exact J57 _ _ hP hD hS _ ((if_neg h5).symm)
  refine lv_iload hx hb dM_rounds_57 (lv_at hl 1 rfl) ?_
  refine kcI (isR := []) (isC := []) (wr := []) (w2 := []) (va_runS (As := [.int g1, .int (if g3 = 0 then (1 : Int32) else (2 : Int32)), .int ((if g3 = 0 then (zush g2 16) else (g2 &&& 65535)) ^^^ (zm_half g1 (if g3 = 0 then (2 : Int32) else (1 : Int32)) ((if g3 = 0 then (g2 &&& 65535) else (zush g2 16)) ^^^ (zm_half g1 (if g3 = 0 then (3 : Int32) else (0 : Int32)) (if g3 = 0 then (zush g2 16) else (g2 &&& 65535))))))]) (rest := [.int ((if g3 = 0 then (g2 &&& 65535) else (zush g2 16)) ^^^ (zm_half g1 (if g3 = 0 then (3 : Int32) else (0 : Int32)) (if g3 = 0 then (zush g2 16) else (g2 &&& 65535))))]) ⟨hx, hb, hml, hown, hts⟩ (km_half l D cI cZ g1 (if g3 = 0 then (1 : Int32) else (2 : Int32)) ((if g3 = 0 then (zush g2 16) else (g2 &&& 65535)) ^^^ (zm_half g1 (if g3 = 0 then (2 : Int32) else (1 : Int32)) ((if g3 = 0 then (g2 &&& 65535) else (zush g2 16)) ^^^ (zm_half g1 (if g3 = 0 then (3 : Int32) else (0 : Int32)) (if g3 = 0 then (zush g2 16) else (g2 &&& 65535)))))) _) ⟨(callB_of 3 hts gd_yM_half rfl rfl rfl (hts _ mw27) (hts _ mw424) (by decide +kernel) ⟨Nat.le_of_ble_eq_true rfl, Nat.le_of_ble_eq_true rfl⟩), hts _ mw425⟩ (kpreS hNw hP hD hK [] rfl (by decide)) rfl rfl hl.1 rfl (lv_room (Nat.le_of_ble_eq_true rfl)) dM_rounds_59 ⟨Nat.le_of_ble_eq_true rfl, Nat.le_of_ble_eq_true rfl⟩) hP hD hS hA [] rfl rfl (by decide) (by decide) (by decide) rfl (fun H locs hP hD hS => ?_)
  refine lv_ixor hx hb dM_rounds_62 ?_
  refine lv_istore hx hb dM_rounds_63 hl (by decide) rfl (fun ls hl => ?_)
  have hl : lv_has ls 7 [(6, .int (((if g3 = 0 then (g2 &&& 65535) else (zush g2 16)) ^^^ (zm_half g1 (if g3 = 0 then (3 : Int32) else (0 : Int32)) (if g3 = 0 then (zush g2 16) else (g2 &&& 65535)))) ^^^ (zm_half g1 (if g3 = 0 then (1 : Int32) else (2 : Int32)) ((if g3 = 0 then (zush g2 16) else (g2 &&& 65535)) ^^^ (zm_half g1 (if g3 = 0 then (2 : Int32) else (1 : Int32)) ((if g3 = 0 then (g2 &&& 65535) else (zush g2 16)) ^^^ (zm_half g1 (if g3 = 0 then (3 : Int32) else (0 : Int32)) (if g3 = 0 then (zush g2 16) else (g2 &&& 65535))))))))), (5, .int 2), (4, .int ((if g3 = 0 then (zush g2 16) else (g2 &&& 65535)) ^^^ (zm_half g1 (if g3 = 0 then (2 : Int32) else (1 : Int32)) ((if g3 = 0 then (g2 &&& 65535) else (zush g2 16)) ^^^ (zm_half g1 (if g3 = 0 then (3 : Int32) else (0 : Int32)) (if g3 = 0 then (zush g2 16) else (g2 &&& 65535))))))), (3, .int ((if g3 = 0 then (g2 &&& 65535) else (zush g2 16)) ^^^ (zm_half g1 (if g3 = 0 then (3 : Int32) else (0 : Int32)) (if g3 = 0 then (zush g2 16) else (g2 &&& 65535))))), (0, .int g1), (1, .int g2), (2, .int g3)] := hl
  refine lv_iload hx hb dM_rounds_65 (lv_at hl 2 rfl) ?_
  refine lv_istore_n hx hb dM_rounds_67 rfl hl (by decide) rfl (fun ls hl => ?_)
  have hl : lv_has ls 7 [(3, .int ((if g3 = 0 then (zush g2 16) else (g2 &&& 65535)) ^^^ (zm_half g1 (if g3 = 0 then (2 : Int32) else (1 : Int32)) ((if g3 = 0 then (g2 &&& 65535) else (zush g2 16)) ^^^ (zm_half g1 (if g3 = 0 then (3 : Int32) else (0 : Int32)) (if g3 = 0 then (zush g2 16) else (g2 &&& 65535))))))), (6, .int (((if g3 = 0 then (g2 &&& 65535) else (zush g2 16)) ^^^ (zm_half g1 (if g3 = 0 then (3 : Int32) else (0 : Int32)) (if g3 = 0 then (zush g2 16) else (g2 &&& 65535)))) ^^^ (zm_half g1 (if g3 = 0 then (1 : Int32) else (2 : Int32)) ((if g3 = 0 then (zush g2 16) else (g2 &&& 65535)) ^^^ (zm_half g1 (if g3 = 0 then (2 : Int32) else (1 : Int32)) ((if g3 = 0 then (g2 &&& 65535) else (zush g2 16)) ^^^ (zm_half g1 (if g3 = 0 then (3 : Int32) else (0 : Int32)) (if g3 = 0 then (zush g2 16) else (g2 &&& 65535))))))))), (5, .int 2), (4, .int ((if g3 = 0 then (zush g2 16) else (g2 &&& 65535)) ^^^ (zm_half g1 (if g3 = 0 then (2 : Int32) else (1 : Int32)) ((if g3 = 0 then (g2 &&& 65535) else (zush g2 16)) ^^^ (zm_half g1 (if g3 = 0 then (3 : Int32) else (0 : Int32)) (if g3 = 0 then (zush g2 16) else (g2 &&& 65535))))))), (0, .int g1), (1, .int g2), (2, .int g3)] := hl
  refine lv_iload hx hb dM_rounds_68 (lv_at hl 1 rfl) ?_
  refine lv_istore hx hb dM_rounds_70 hl (by decide) rfl (fun ls hl => ?_)
  have hl : lv_has ls 7 [(4, .int (((if g3 = 0 then (g2 &&& 65535) else (zush g2 16)) ^^^ (zm_half g1 (if g3 = 0 then (3 : Int32) else (0 : Int32)) (if g3 = 0 then (zush g2 16) else (g2 &&& 65535)))) ^^^ (zm_half g1 (if g3 = 0 then (1 : Int32) else (2 : Int32)) ((if g3 = 0 then (zush g2 16) else (g2 &&& 65535)) ^^^ (zm_half g1 (if g3 = 0 then (2 : Int32) else (1 : Int32)) ((if g3 = 0 then (g2 &&& 65535) else (zush g2 16)) ^^^ (zm_half g1 (if g3 = 0 then (3 : Int32) else (0 : Int32)) (if g3 = 0 then (zush g2 16) else (g2 &&& 65535))))))))), (3, .int ((if g3 = 0 then (zush g2 16) else (g2 &&& 65535)) ^^^ (zm_half g1 (if g3 = 0 then (2 : Int32) else (1 : Int32)) ((if g3 = 0 then (g2 &&& 65535) else (zush g2 16)) ^^^ (zm_half g1 (if g3 = 0 then (3 : Int32) else (0 : Int32)) (if g3 = 0 then (zush g2 16) else (g2 &&& 65535))))))), (6, .int (((if g3 = 0 then (g2 &&& 65535) else (zush g2 16)) ^^^ (zm_half g1 (if g3 = 0 then (3 : Int32) else (0 : Int32)) (if g3 = 0 then (zush g2 16) else (g2 &&& 65535)))) ^^^ (zm_half g1 (if g3 = 0 then (1 : Int32) else (2 : Int32)) ((if g3 = 0 then (zush g2 16) else (g2 &&& 65535)) ^^^ (zm_half g1 (if g3 = 0 then (2 : Int32) else (1 : Int32)) ((if g3 = 0 then (g2 &&& 65535) else (zush g2 16)) ^^^ (zm_half g1 (if g3 = 0 then (3 : Int32) else (0 : Int32)) (if g3 = 0 then (zush g2 16) else (g2 &&& 65535))))))))), (5, .int 2), (0, .int g1), (1, .int g2), (2, .int g3)] := hl
  refine lv_iinc (k := 3) (v := 3) hx hb dM_rounds_72 hl rfl (by decide) (by decide) rfl (fun ls hl => ?_)
  have hl : lv_has ls 7 [(5, .int 3), (4, .int (((if g3 = 0 then (g2 &&& 65535) else (zush g2 16)) ^^^ (zm_half g1 (if g3 = 0 then (3 : Int32) else (0 : Int32)) (if g3 = 0 then (zush g2 16) else (g2 &&& 65535)))) ^^^ (zm_half g1 (if g3 = 0 then (1 : Int32) else (2 : Int32)) ((if g3 = 0 then (zush g2 16) else (g2 &&& 65535)) ^^^ (zm_half g1 (if g3 = 0 then (2 : Int32) else (1 : Int32)) ((if g3 = 0 then (g2 &&& 65535) else (zush g2 16)) ^^^ (zm_half g1 (if g3 = 0 then (3 : Int32) else (0 : Int32)) (if g3 = 0 then (zush g2 16) else (g2 &&& 65535))))))))), (3, .int ((if g3 = 0 then (zush g2 16) else (g2 &&& 65535)) ^^^ (zm_half g1 (if g3 = 0 then (2 : Int32) else (1 : Int32)) ((if g3 = 0 then (g2 &&& 65535) else (zush g2 16)) ^^^ (zm_half g1 (if g3 = 0 then (3 : Int32) else (0 : Int32)) (if g3 = 0 then (zush g2 16) else (g2 &&& 65535))))))), (6, .int (((if g3 = 0 then (g2 &&& 65535) else (zush g2 16)) ^^^ (zm_half g1 (if g3 = 0 then (3 : Int32) else (0 : Int32)) (if g3 = 0 then (zush g2 16) else (g2 &&& 65535)))) ^^^ (zm_half g1 (if g3 = 0 then (1 : Int32) else (2 : Int32)) ((if g3 = 0 then (zush g2 16) else (g2 &&& 65535)) ^^^ (zm_half g1 (if g3 = 0 then (2 : Int32) else (1 : Int32)) ((if g3 = 0 then (g2 &&& 65535) else (zush g2 16)) ^^^ (zm_half g1 (if g3 = 0 then (3 : Int32) else (0 : Int32)) (if g3 = 0 then (zush g2 16) else (g2 &&& 65535))))))))), (0, .int g1), (1, .int g2), (2, .int g3)] := hl
  refine lv_goto hx hb dM_rounds_75 (tgt := 36) (by decide) ?_
  refine lv_iload hx hb dM_rounds_36 (lv_at hl 0 rfl) ?_
  refine lv_iconst (v := 4) hx hb dM_rounds_38 (by decide) ?_
  refine lv_icmp_ge (tgt := 78) hx hb dM_rounds_39 (by decide) (fun h => absurd h (by decide)) (fun _ => ?_)
  refine lv_iload_n hx hb dM_rounds_42 rfl (lv_at hl 2 rfl) ?_
  refine lv_iload_n hx hb dM_rounds_43 rfl (lv_at hl 4 rfl) ?_
  refine lv_iload_n hx hb dM_rounds_44 rfl (lv_at hl 6 rfl) ?_
  refine kJoin (pcJ := 57) (z := (if g3 = 0 then (0 : Int32) else (3 : Int32))) (ws := []) (rest := [.int g1, .int ((if g3 = 0 then (zush g2 16) else (g2 &&& 65535)) ^^^ (zm_half g1 (if g3 = 0 then (2 : Int32) else (1 : Int32)) ((if g3 = 0 then (g2 &&& 65535) else (zush g2 16)) ^^^ (zm_half g1 (if g3 = 0 then (3 : Int32) else (0 : Int32)) (if g3 = 0 then (zush g2 16) else (g2 &&& 65535))))))]) (D := D) (A := A) (H0 := s.heap) (fun J57 => ?_) (fun H locs hP hD hS => ?_)
  ·
    refine lv_if_eq (tgt := 53) hx hb dM_rounds_45 (by decide) (fun h6 => ?_) (fun h6 => ?_)
    ·
      refine lv_iconst (v := 3) hx hb dM_rounds_53 (by decide) ?_
      refine lv_iload hx hb dM_rounds_54 (lv_at hl 0 rfl) ?_
      refine lv_isub hx hb dM_rounds_56 ?_
      refine kTop (y := 0) (by decide) ?_
      exact J57 _ _ hP hD hS _ ((if_pos h6).symm)
    ·
      refine lv_iload hx hb dM_rounds_48 (lv_at hl 0 rfl) ?_
      refine lv_goto hx hb dM_rounds_50 (tgt := 57) (by decide) ?_
      exact J57 _ _ hP hD hS _ ((if_neg h6).symm)
  refine lv_iload hx hb dM_rounds_57 (lv_at hl 1 rfl) ?_
  refine kcI (isR := []) (isC := []) (wr := []) (w2 := []) (va_runS (As := [.int g1, .int (if g3 = 0 then (0 : Int32) else (3 : Int32)), .int (((if g3 = 0 then (g2 &&& 65535) else (zush g2 16)) ^^^ (zm_half g1 (if g3 = 0 then (3 : Int32) else (0 : Int32)) (if g3 = 0 then (zush g2 16) else (g2 &&& 65535)))) ^^^ (zm_half g1 (if g3 = 0 then (1 : Int32) else (2 : Int32)) ((if g3 = 0 then (zush g2 16) else (g2 &&& 65535)) ^^^ (zm_half g1 (if g3 = 0 then (2 : Int32) else (1 : Int32)) ((if g3 = 0 then (g2 &&& 65535) else (zush g2 16)) ^^^ (zm_half g1 (if g3 = 0 then (3 : Int32) else (0 : Int32)) (if g3 = 0 then (zush g2 16) else (g2 &&& 65535))))))))]) (rest := [.int ((if g3 = 0 then (zush g2 16) else (g2 &&& 65535)) ^^^ (zm_half g1 (if g3 = 0 then (2 : Int32) else (1 : Int32)) ((if g3 = 0 then (g2 &&& 65535) else (zush g2 16)) ^^^ (zm_half g1 (if g3 = 0 then (3 : Int32) else (0 : Int32)) (if g3 = 0 then (zush g2 16) else (g2 &&& 65535))))))]) ⟨hx, hb, hml, hown, hts⟩ (km_half l D cI cZ g1 (if g3 = 0 then (0 : Int32) else (3 : Int32)) (((if g3 = 0 then (g2 &&& 65535) else (zush g2 16)) ^^^ (zm_half g1 (if g3 = 0 then (3 : Int32) else (0 : Int32)) (if g3 = 0 then (zush g2 16) else (g2 &&& 65535)))) ^^^ (zm_half g1 (if g3 = 0 then (1 : Int32) else (2 : Int32)) ((if g3 = 0 then (zush g2 16) else (g2 &&& 65535)) ^^^ (zm_half g1 (if g3 = 0 then (2 : Int32) else (1 : Int32)) ((if g3 = 0 then (g2 &&& 65535) else (zush g2 16)) ^^^ (zm_half g1 (if g3 = 0 then (3 : Int32) else (0 : Int32)) (if g3 = 0 then (zush g2 16) else (g2 &&& 65535)))))))) _) ⟨(callB_of 3 hts gd_yM_half rfl rfl rfl (hts _ mw27) (hts _ mw424) (by decide +kernel) ⟨Nat.le_of_ble_eq_true rfl, Nat.le_of_ble_eq_true rfl⟩), hts _ mw425⟩ (kpreS hNw hP hD hK [] rfl (by decide)) rfl rfl hl.1 rfl (lv_room (Nat.le_of_ble_eq_true rfl)) dM_rounds_59 ⟨Nat.le_of_ble_eq_true rfl, Nat.le_of_ble_eq_true rfl⟩) hP hD hS hA [] rfl rfl (by decide) (by decide) (by decide) rfl (fun H locs hP hD hS => ?_)
  refine lv_ixor hx hb dM_rounds_62 ?_
  refine lv_istore hx hb dM_rounds_63 hl (by decide) rfl (fun ls hl => ?_)
  have hl : lv_has ls 7 [(6, .int (((if g3 = 0 then (zush g2 16) else (g2 &&& 65535)) ^^^ (zm_half g1 (if g3 = 0 then (2 : Int32) else (1 : Int32)) ((if g3 = 0 then (g2 &&& 65535) else (zush g2 16)) ^^^ (zm_half g1 (if g3 = 0 then (3 : Int32) else (0 : Int32)) (if g3 = 0 then (zush g2 16) else (g2 &&& 65535)))))) ^^^ (zm_half g1 (if g3 = 0 then (0 : Int32) else (3 : Int32)) (((if g3 = 0 then (g2 &&& 65535) else (zush g2 16)) ^^^ (zm_half g1 (if g3 = 0 then (3 : Int32) else (0 : Int32)) (if g3 = 0 then (zush g2 16) else (g2 &&& 65535)))) ^^^ (zm_half g1 (if g3 = 0 then (1 : Int32) else (2 : Int32)) ((if g3 = 0 then (zush g2 16) else (g2 &&& 65535)) ^^^ (zm_half g1 (if g3 = 0 then (2 : Int32) else (1 : Int32)) ((if g3 = 0 then (g2 &&& 65535) else (zush g2 16)) ^^^ (zm_half g1 (if g3 = 0 then (3 : Int32) else (0 : Int32)) (if g3 = 0 then (zush g2 16) else (g2 &&& 65535))))))))))), (5, .int 3), (4, .int (((if g3 = 0 then (g2 &&& 65535) else (zush g2 16)) ^^^ (zm_half g1 (if g3 = 0 then (3 : Int32) else (0 : Int32)) (if g3 = 0 then (zush g2 16) else (g2 &&& 65535)))) ^^^ (zm_half g1 (if g3 = 0 then (1 : Int32) else (2 : Int32)) ((if g3 = 0 then (zush g2 16) else (g2 &&& 65535)) ^^^ (zm_half g1 (if g3 = 0 then (2 : Int32) else (1 : Int32)) ((if g3 = 0 then (g2 &&& 65535) else (zush g2 16)) ^^^ (zm_half g1 (if g3 = 0 then (3 : Int32) else (0 : Int32)) (if g3 = 0 then (zush g2 16) else (g2 &&& 65535))))))))), (3, .int ((if g3 = 0 then (zush g2 16) else (g2 &&& 65535)) ^^^ (zm_half g1 (if g3 = 0 then (2 : Int32) else (1 : Int32)) ((if g3 = 0 then (g2 &&& 65535) else (zush g2 16)) ^^^ (zm_half g1 (if g3 = 0 then (3 : Int32) else (0 : Int32)) (if g3 = 0 then (zush g2 16) else (g2 &&& 65535))))))), (0, .int g1), (1, .int g2), (2, .int g3)] := hl
  refine lv_iload hx hb dM_rounds_65 (lv_at hl 2 rfl) ?_
  refine lv_istore_n hx hb dM_rounds_67 rfl hl (by decide) rfl (fun ls hl => ?_)
  have hl : lv_has ls 7 [(3, .int (((if g3 = 0 then (g2 &&& 65535) else (zush g2 16)) ^^^ (zm_half g1 (if g3 = 0 then (3 : Int32) else (0 : Int32)) (if g3 = 0 then (zush g2 16) else (g2 &&& 65535)))) ^^^ (zm_half g1 (if g3 = 0 then (1 : Int32) else (2 : Int32)) ((if g3 = 0 then (zush g2 16) else (g2 &&& 65535)) ^^^ (zm_half g1 (if g3 = 0 then (2 : Int32) else (1 : Int32)) ((if g3 = 0 then (g2 &&& 65535) else (zush g2 16)) ^^^ (zm_half g1 (if g3 = 0 then (3 : Int32) else (0 : Int32)) (if g3 = 0 then (zush g2 16) else (g2 &&& 65535))))))))), (6, .int (((if g3 = 0 then (zush g2 16) else (g2 &&& 65535)) ^^^ (zm_half g1 (if g3 = 0 then (2 : Int32) else (1 : Int32)) ((if g3 = 0 then (g2 &&& 65535) else (zush g2 16)) ^^^ (zm_half g1 (if g3 = 0 then (3 : Int32) else (0 : Int32)) (if g3 = 0 then (zush g2 16) else (g2 &&& 65535)))))) ^^^ (zm_half g1 (if g3 = 0 then (0 : Int32) else (3 : Int32)) (((if g3 = 0 then (g2 &&& 65535) else (zush g2 16)) ^^^ (zm_half g1 (if g3 = 0 then (3 : Int32) else (0 : Int32)) (if g3 = 0 then (zush g2 16) else (g2 &&& 65535)))) ^^^ (zm_half g1 (if g3 = 0 then (1 : Int32) else (2 : Int32)) ((if g3 = 0 then (zush g2 16) else (g2 &&& 65535)) ^^^ (zm_half g1 (if g3 = 0 then (2 : Int32) else (1 : Int32)) ((if g3 = 0 then (g2 &&& 65535) else (zush g2 16)) ^^^ (zm_half g1 (if g3 = 0 then (3 : Int32) else (0 : Int32)) (if g3 = 0 then (zush g2 16) else (g2 &&& 65535))))))))))), (5, .int 3), (4, .int (((if g3 = 0 then (g2 &&& 65535) else (zush g2 16)) ^^^ (zm_half g1 (if g3 = 0 then (3 : Int32) else (0 : Int32)) (if g3 = 0 then (zush g2 16) else (g2 &&& 65535)))) ^^^ (zm_half g1 (if g3 = 0 then (1 : Int32) else (2 : Int32)) ((if g3 = 0 then (zush g2 16) else (g2 &&& 65535)) ^^^ (zm_half g1 (if g3 = 0 then (2 : Int32) else (1 : Int32)) ((if g3 = 0 then (g2 &&& 65535) else (zush g2 16)) ^^^ (zm_half g1 (if g3 = 0 then (3 : Int32) else (0 : Int32)) (if g3 = 0 then (zush g2 16) else (g2 &&& 65535))))))))), (0, .int g1), (1, .int g2), (2, .int g3)] := hl
  refine lv_iload hx hb dM_rounds_68 (lv_at hl 1 rfl) ?_
  refine lv_istore hx hb dM_rounds_70 hl (by decide) rfl (fun ls hl => ?_)
  have hl : lv_has ls 7 [(4, .int (((if g3 = 0 then (zush g2 16) else (g2 &&& 65535)) ^^^ (zm_half g1 (if g3 = 0 then (2 : Int32) else (1 : Int32)) ((if g3 = 0 then (g2 &&& 65535) else (zush g2 16)) ^^^ (zm_half g1 (if g3 = 0 then (3 : Int32) else (0 : Int32)) (if g3 = 0 then (zush g2 16) else (g2 &&& 65535)))))) ^^^ (zm_half g1 (if g3 = 0 then (0 : Int32) else (3 : Int32)) (((if g3 = 0 then (g2 &&& 65535) else (zush g2 16)) ^^^ (zm_half g1 (if g3 = 0 then (3 : Int32) else (0 : Int32)) (if g3 = 0 then (zush g2 16) else (g2 &&& 65535)))) ^^^ (zm_half g1 (if g3 = 0 then (1 : Int32) else (2 : Int32)) ((if g3 = 0 then (zush g2 16) else (g2 &&& 65535)) ^^^ (zm_half g1 (if g3 = 0 then (2 : Int32) else (1 : Int32)) ((if g3 = 0 then (g2 &&& 65535) else (zush g2 16)) ^^^ (zm_half g1 (if g3 = 0 then (3 : Int32) else (0 : Int32)) (if g3 = 0 then (zush g2 16) else (g2 &&& 65535))))))))))), (3, .int (((if g3 = 0 then (g2 &&& 65535) else (zush g2 16)) ^^^ (zm_half g1 (if g3 = 0 then (3 : Int32) else (0 : Int32)) (if g3 = 0 then (zush g2 16) else (g2 &&& 65535)))) ^^^ (zm_half g1 (if g3 = 0 then (1 : Int32) else (2 : Int32)) ((if g3 = 0 then (zush g2 16) else (g2 &&& 65535)) ^^^ (zm_half g1 (if g3 = 0 then (2 : Int32) else (1 : Int32)) ((if g3 = 0 then (g2 &&& 65535) else (zush g2 16)) ^^^ (zm_half g1 (if g3 = 0 then (3 : Int32) else (0 : Int32)) (if g3 = 0 then (zush g2 16) else (g2 &&& 65535))))))))), (6, .int (((if g3 = 0 then (zush g2 16) else (g2 &&& 65535)) ^^^ (zm_half g1 (if g3 = 0 then (2 : Int32) else (1 : Int32)) ((if g3 = 0 then (g2 &&& 65535) else (zush g2 16)) ^^^ (zm_half g1 (if g3 = 0 then (3 : Int32) else (0 : Int32)) (if g3 = 0 then (zush g2 16) else (g2 &&& 65535)))))) ^^^ (zm_half g1 (if g3 = 0 then (0 : Int32) else (3 : Int32)) (((if g3 = 0 then (g2 &&& 65535) else (zush g2 16)) ^^^ (zm_half g1 (if g3 = 0 then (3 : Int32) else (0 : Int32)) (if g3 = 0 then (zush g2 16) else (g2 &&& 65535)))) ^^^ (zm_half g1 (if g3 = 0 then (1 : Int32) else (2 : Int32)) ((if g3 = 0 then (zush g2 16) else (g2 &&& 65535)) ^^^ (zm_half g1 (if g3 = 0 then (2 : Int32) else (1 : Int32)) ((if g3 = 0 then (g2 &&& 65535) else (zush g2 16)) ^^^ (zm_half g1 (if g3 = 0 then (3 : Int32) else (0 : Int32)) (if g3 = 0 then (zush g2 16) else (g2 &&& 65535))))))))))), (5, .int 3), (0, .int g1), (1, .int g2), (2, .int g3)] := hl
  refine lv_iinc (k := 3) (v := 4) hx hb dM_rounds_72 hl rfl (by decide) (by decide) rfl (fun ls hl => ?_)
  have hl : lv_has ls 7 [(5, .int 4), (4, .int (((if g3 = 0 then (zush g2 16) else (g2 &&& 65535)) ^^^ (zm_half g1 (if g3 = 0 then (2 : Int32) else (1 : Int32)) ((if g3 = 0 then (g2 &&& 65535) else (zush g2 16)) ^^^ (zm_half g1 (if g3 = 0 then (3 : Int32) else (0 : Int32)) (if g3 = 0 then (zush g2 16) else (g2 &&& 65535)))))) ^^^ (zm_half g1 (if g3 = 0 then (0 : Int32) else (3 : Int32)) (((if g3 = 0 then (g2 &&& 65535) else (zush g2 16)) ^^^ (zm_half g1 (if g3 = 0 then (3 : Int32) else (0 : Int32)) (if g3 = 0 then (zush g2 16) else (g2 &&& 65535)))) ^^^ (zm_half g1 (if g3 = 0 then (1 : Int32) else (2 : Int32)) ((if g3 = 0 then (zush g2 16) else (g2 &&& 65535)) ^^^ (zm_half g1 (if g3 = 0 then (2 : Int32) else (1 : Int32)) ((if g3 = 0 then (g2 &&& 65535) else (zush g2 16)) ^^^ (zm_half g1 (if g3 = 0 then (3 : Int32) else (0 : Int32)) (if g3 = 0 then (zush g2 16) else (g2 &&& 65535))))))))))), (3, .int (((if g3 = 0 then (g2 &&& 65535) else (zush g2 16)) ^^^ (zm_half g1 (if g3 = 0 then (3 : Int32) else (0 : Int32)) (if g3 = 0 then (zush g2 16) else (g2 &&& 65535)))) ^^^ (zm_half g1 (if g3 = 0 then (1 : Int32) else (2 : Int32)) ((if g3 = 0 then (zush g2 16) else (g2 &&& 65535)) ^^^ (zm_half g1 (if g3 = 0 then (2 : Int32) else (1 : Int32)) ((if g3 = 0 then (g2 &&& 65535) else (zush g2 16)) ^^^ (zm_half g1 (if g3 = 0 then (3 : Int32) else (0 : Int32)) (if g3 = 0 then (zush g2 16) else (g2 &&& 65535))))))))), (6, .int (((if g3 = 0 then (zush g2 16) else (g2 &&& 65535)) ^^^ (zm_half g1 (if g3 = 0 then (2 : Int32) else (1 : Int32)) ((if g3 = 0 then (g2 &&& 65535) else (zush g2 16)) ^^^ (zm_half g1 (if g3 = 0 then (3 : Int32) else (0 : Int32)) (if g3 = 0 then (zush g2 16) else (g2 &&& 65535)))))) ^^^ (zm_half g1 (if g3 = 0 then (0 : Int32) else (3 : Int32)) (((if g3 = 0 then (g2 &&& 65535) else (zush g2 16)) ^^^ (zm_half g1 (if g3 = 0 then (3 : Int32) else (0 : Int32)) (if g3 = 0 then (zush g2 16) else (g2 &&& 65535)))) ^^^ (zm_half g1 (if g3 = 0 then (1 : Int32) else (2 : Int32)) ((if g3 = 0 then (zush g2 16) else (g2 &&& 65535)) ^^^ (zm_half g1 (if g3 = 0 then (2 : Int32) else (1 : Int32)) ((if g3 = 0 then (g2 &&& 65535) else (zush g2 16)) ^^^ (zm_half g1 (if g3 = 0 then (3 : Int32) else (0 : Int32)) (if g3 = 0 then (zush g2 16) else (g2 &&& 65535))))))))))), (0, .int g1), (1, .int g2), (2, .int g3)] := hl
  refine lv_goto hx hb dM_rounds_75 (tgt := 36) (by decide) ?_
  refine lv_iload hx hb dM_rounds_36 (lv_at hl 0 rfl) ?_
  refine lv_iconst (v := 4) hx hb dM_rounds_38 (by decide) ?_
  refine lv_icmp_ge (tgt := 78) hx hb dM_rounds_39 (by decide) (fun _ => ?_) (fun h => absurd h (by decide))
  refine lv_iload_n hx hb dM_rounds_78 rfl (lv_at hl 6 rfl) ?_
  refine kJoin (pcJ := 99) (z := (if g3 = 0 then (((((if g3 = 0 then (zush g2 16) else (g2 &&& 65535)) ^^^ (zm_half g1 (if g3 = 0 then (2 : Int32) else (1 : Int32)) ((if g3 = 0 then (g2 &&& 65535) else (zush g2 16)) ^^^ (zm_half g1 (if g3 = 0 then (3 : Int32) else (0 : Int32)) (if g3 = 0 then (zush g2 16) else (g2 &&& 65535)))))) ^^^ (zm_half g1 (if g3 = 0 then (0 : Int32) else (3 : Int32)) (((if g3 = 0 then (g2 &&& 65535) else (zush g2 16)) ^^^ (zm_half g1 (if g3 = 0 then (3 : Int32) else (0 : Int32)) (if g3 = 0 then (zush g2 16) else (g2 &&& 65535)))) ^^^ (zm_half g1 (if g3 = 0 then (1 : Int32) else (2 : Int32)) ((if g3 = 0 then (zush g2 16) else (g2 &&& 65535)) ^^^ (zm_half g1 (if g3 = 0 then (2 : Int32) else (1 : Int32)) ((if g3 = 0 then (g2 &&& 65535) else (zush g2 16)) ^^^ (zm_half g1 (if g3 = 0 then (3 : Int32) else (0 : Int32)) (if g3 = 0 then (zush g2 16) else (g2 &&& 65535)))))))))) * 65536) + (((if g3 = 0 then (g2 &&& 65535) else (zush g2 16)) ^^^ (zm_half g1 (if g3 = 0 then (3 : Int32) else (0 : Int32)) (if g3 = 0 then (zush g2 16) else (g2 &&& 65535)))) ^^^ (zm_half g1 (if g3 = 0 then (1 : Int32) else (2 : Int32)) ((if g3 = 0 then (zush g2 16) else (g2 &&& 65535)) ^^^ (zm_half g1 (if g3 = 0 then (2 : Int32) else (1 : Int32)) ((if g3 = 0 then (g2 &&& 65535) else (zush g2 16)) ^^^ (zm_half g1 (if g3 = 0 then (3 : Int32) else (0 : Int32)) (if g3 = 0 then (zush g2 16) else (g2 &&& 65535))))))))) else (((((if g3 = 0 then (g2 &&& 65535) else (zush g2 16)) ^^^ (zm_half g1 (if g3 = 0 then (3 : Int32) else (0 : Int32)) (if g3 = 0 then (zush g2 16) else (g2 &&& 65535)))) ^^^ (zm_half g1 (if g3 = 0 then (1 : Int32) else (2 : Int32)) ((if g3 = 0 then (zush g2 16) else (g2 &&& 65535)) ^^^ (zm_half g1 (if g3 = 0 then (2 : Int32) else (1 : Int32)) ((if g3 = 0 then (g2 &&& 65535) else (zush g2 16)) ^^^ (zm_half g1 (if g3 = 0 then (3 : Int32) else (0 : Int32)) (if g3 = 0 then (zush g2 16) else (g2 &&& 65535)))))))) * 65536) + (((if g3 = 0 then (zush g2 16) else (g2 &&& 65535)) ^^^ (zm_half g1 (if g3 = 0 then (2 : Int32) else (1 : Int32)) ((if g3 = 0 then (g2 &&& 65535) else (zush g2 16)) ^^^ (zm_half g1 (if g3 = 0 then (3 : Int32) else (0 : Int32)) (if g3 = 0 then (zush g2 16) else (g2 &&& 65535)))))) ^^^ (zm_half g1 (if g3 = 0 then (0 : Int32) else (3 : Int32)) (((if g3 = 0 then (g2 &&& 65535) else (zush g2 16)) ^^^ (zm_half g1 (if g3 = 0 then (3 : Int32) else (0 : Int32)) (if g3 = 0 then (zush g2 16) else (g2 &&& 65535)))) ^^^ (zm_half g1 (if g3 = 0 then (1 : Int32) else (2 : Int32)) ((if g3 = 0 then (zush g2 16) else (g2 &&& 65535)) ^^^ (zm_half g1 (if g3 = 0 then (2 : Int32) else (1 : Int32)) ((if g3 = 0 then (g2 &&& 65535) else (zush g2 16)) ^^^ (zm_half g1 (if g3 = 0 then (3 : Int32) else (0 : Int32)) (if g3 = 0 then (zush g2 16) else (g2 &&& 65535))))))))))))) (ws := []) (rest := []) (D := D) (A := A) (H0 := s.heap) (fun J99 => ?_) (fun H locs hP hD hS => ?_)
  ·
    refine lv_if_eq (tgt := 92) hx hb dM_rounds_79 (by decide) (fun h7 => ?_) (fun h7 => ?_)
    ·
      refine lv_iload hx hb dM_rounds_92 (lv_at hl 1 rfl) ?_
      refine lv_ldc (v := 65536) hx hb hown (hts _ mw428) dM_rounds_94 ?_
      refine lv_imul hx hb dM_rounds_96 ?_
      refine lv_iload_n hx hb dM_rounds_97 rfl (lv_at hl 2 rfl) ?_
      refine lv_iadd hx hb dM_rounds_98 ?_
      exact J99 _ _ hP hD hS _ ((if_pos h7).symm)
    ·
      refine lv_iload_n hx hb dM_rounds_82 rfl (lv_at hl 2 rfl) ?_
      refine lv_ldc (v := 65536) hx hb hown (hts _ mw428) dM_rounds_83 ?_
      refine lv_imul hx hb dM_rounds_85 ?_
      refine lv_iload hx hb dM_rounds_86 (lv_at hl 1 rfl) ?_
      refine lv_iadd hx hb dM_rounds_88 ?_
      refine lv_goto hx hb dM_rounds_89 (tgt := 99) (by decide) ?_
      exact J99 _ _ hP hD hS _ ((if_neg h7).symm)
  exact kretP (rfl) hx hb hr hlk hS hP hD hK dM_rounds_99

def zm_mac (g1 : Int32) (g2 : Int32) : Int32 := (zmac1 (zmac1 (zmac1 (zmac1 g1 ((zush g2 0) &&& 255)) ((zush g2 8) &&& 255)) ((zush g2 16) &&& 255)) ((zush g2 24) &&& 255))

set_option maxHeartbeats 4000000 in
set_option maxRecDepth 100000 in
theorem km_mac (l : Launch) (D : va_G) (cI cZ : ClassId) (g1 : Int32) (g2 : Int32) : kI l yM_mac wsM_mac (rmOf 0 0) D (kT cI cZ) [.int g1, .int g2] [] (zm_mac g1 g2) [] := by
  intro sz
  refine kOf (Qc := fun A => kQi D (kT cI cZ) A (zm_mac g1 g2) []) (cc := cM_mac) (maxL := 4) (ret := some .int) (by decide) rfl (Nat.le_of_ble_eq_true rfl) ?_ sz
  intro p e s m args below meth c A ls hx hb hml hown hts hNw hr hlk hin hA hS hP hD hK hl
  show W p l e (rmOf 0 0) s m args below meth c s.heap [] 0 0 (MQ below (kQi D (kT cI cZ) A (zm_mac g1 g2) []) args s 0 0 A) (F0 m 0 ls [])
  have hts : ∀ q ∈ lw_g, q.before args s = true := fun q h => hts q (List.mem_cons_of_mem _ h)
  have hown : s.vm.findClass cnM = some m.cls := hown
  have hl : lv_has ls 4 [(0, .int g1), (1, .int g2)] := hl
  have hP : va_P D vwCl [] s.heap := hP
  have hD : va_D A [] := hD
  refine lv_iload_n hx hb dM_mac_0 rfl (lv_at hl 0 rfl) ?_
  refine lv_istore_n hx hb dM_mac_1 rfl hl (by decide) rfl (fun ls hl => ?_)
  have hl : lv_has ls 4 [(2, .int g1), (0, .int g1), (1, .int g2)] := hl
  refine lv_iconst (v := 0) hx hb dM_mac_2 (by decide) ?_
  refine lv_istore_n hx hb dM_mac_3 rfl hl (by decide) rfl (fun ls hl => ?_)
  have hl : lv_has ls 4 [(3, .int 0), (2, .int g1), (0, .int g1), (1, .int g2)] := hl
  refine lv_iload_n hx hb dM_mac_4 rfl (lv_at hl 0 rfl) ?_
  refine lv_bipush (v := 32) hx hb dM_mac_5 (by decide) ?_
  refine lv_icmp_ge (tgt := 36) hx hb dM_mac_7 (by decide) (fun h => absurd h (by decide)) (fun _ => ?_)
  refine lv_iload_n hx hb dM_mac_10 rfl (lv_at hl 1 rfl) ?_
  refine lv_iload_n hx hb dM_mac_11 rfl (lv_at hl 3 rfl) ?_
  refine lv_iload_n hx hb dM_mac_12 rfl (lv_at hl 0 rfl) ?_
  refine lv_iushr (v := (zush g2 0)) hx hb dM_mac_13 rfl ?_
  refine lv_sipush (v := 255) hx hb dM_mac_14 (by decide) ?_
  refine lv_iand hx hb dM_mac_17 ?_
  refine lv_ixor hx hb dM_mac_18 ?_
  refine lv_ldc (v := 16777619) hx hb hown (hts _ mw379) dM_mac_19 ?_
  refine lv_imul hx hb dM_mac_21 ?_
  refine lv_istore_n hx hb dM_mac_22 rfl hl (by decide) rfl (fun ls hl => ?_)
  have hl : lv_has ls 4 [(2, .int ((g1 ^^^ ((zush g2 0) &&& 255)) * 16777619)), (3, .int 0), (0, .int g1), (1, .int g2)] := hl
  refine lv_iload_n hx hb dM_mac_23 rfl (lv_at hl 0 rfl) ?_
  refine lv_iload_n hx hb dM_mac_24 rfl (lv_at hl 0 rfl) ?_
  refine lv_bipush (v := 13) hx hb dM_mac_25 (by decide) ?_
  refine lv_iushr (v := (zush ((g1 ^^^ ((zush g2 0) &&& 255)) * 16777619) 13)) hx hb dM_mac_27 rfl ?_
  refine lv_ixor hx hb dM_mac_28 ?_
  refine kTop (y := (zmac1 g1 ((zush g2 0) &&& 255))) (rfl) ?_
  refine lv_istore_n hx hb dM_mac_29 rfl hl (by decide) rfl (fun ls hl => ?_)
  have hl : lv_has ls 4 [(2, .int (zmac1 g1 ((zush g2 0) &&& 255))), (3, .int 0), (0, .int g1), (1, .int g2)] := hl
  refine lv_iinc (k := 1) (v := 8) hx hb dM_mac_30 hl rfl (by decide) (by decide) rfl (fun ls hl => ?_)
  have hl : lv_has ls 4 [(3, .int 8), (2, .int (zmac1 g1 ((zush g2 0) &&& 255))), (0, .int g1), (1, .int g2)] := hl
  refine lv_goto hx hb dM_mac_33 (tgt := 4) (by decide) ?_
  refine lv_iload_n hx hb dM_mac_4 rfl (lv_at hl 0 rfl) ?_
  refine lv_bipush (v := 32) hx hb dM_mac_5 (by decide) ?_
  refine lv_icmp_ge (tgt := 36) hx hb dM_mac_7 (by decide) (fun h => absurd h (by decide)) (fun _ => ?_)
  refine lv_iload_n hx hb dM_mac_10 rfl (lv_at hl 1 rfl) ?_
  refine lv_iload_n hx hb dM_mac_11 rfl (lv_at hl 3 rfl) ?_
  refine lv_iload_n hx hb dM_mac_12 rfl (lv_at hl 0 rfl) ?_
  refine lv_iushr (v := (zush g2 8)) hx hb dM_mac_13 rfl ?_
  refine lv_sipush (v := 255) hx hb dM_mac_14 (by decide) ?_
  refine lv_iand hx hb dM_mac_17 ?_
  refine lv_ixor hx hb dM_mac_18 ?_
  refine lv_ldc (v := 16777619) hx hb hown (hts _ mw379) dM_mac_19 ?_
  refine lv_imul hx hb dM_mac_21 ?_
  refine lv_istore_n hx hb dM_mac_22 rfl hl (by decide) rfl (fun ls hl => ?_)
  have hl : lv_has ls 4 [(2, .int (((zmac1 g1 ((zush g2 0) &&& 255)) ^^^ ((zush g2 8) &&& 255)) * 16777619)), (3, .int 8), (0, .int g1), (1, .int g2)] := hl
  refine lv_iload_n hx hb dM_mac_23 rfl (lv_at hl 0 rfl) ?_
  refine lv_iload_n hx hb dM_mac_24 rfl (lv_at hl 0 rfl) ?_
  refine lv_bipush (v := 13) hx hb dM_mac_25 (by decide) ?_
  refine lv_iushr (v := (zush (((zmac1 g1 ((zush g2 0) &&& 255)) ^^^ ((zush g2 8) &&& 255)) * 16777619) 13)) hx hb dM_mac_27 rfl ?_
  refine lv_ixor hx hb dM_mac_28 ?_
  refine kTop (y := (zmac1 (zmac1 g1 ((zush g2 0) &&& 255)) ((zush g2 8) &&& 255))) (rfl) ?_
  refine lv_istore_n hx hb dM_mac_29 rfl hl (by decide) rfl (fun ls hl => ?_)
  have hl : lv_has ls 4 [(2, .int (zmac1 (zmac1 g1 ((zush g2 0) &&& 255)) ((zush g2 8) &&& 255))), (3, .int 8), (0, .int g1), (1, .int g2)] := hl
  refine lv_iinc (k := 1) (v := 16) hx hb dM_mac_30 hl rfl (by decide) (by decide) rfl (fun ls hl => ?_)
  have hl : lv_has ls 4 [(3, .int 16), (2, .int (zmac1 (zmac1 g1 ((zush g2 0) &&& 255)) ((zush g2 8) &&& 255))), (0, .int g1), (1, .int g2)] := hl
  refine lv_goto hx hb dM_mac_33 (tgt := 4) (by decide) ?_
  refine lv_iload_n hx hb dM_mac_4 rfl (lv_at hl 0 rfl) ?_
  refine lv_bipush (v := 32) hx hb dM_mac_5 (by decide) ?_
  refine lv_icmp_ge (tgt := 36) hx hb dM_mac_7 (by decide) (fun h => absurd h (by decide)) (fun _ => ?_)
  refine lv_iload_n hx hb dM_mac_10 rfl (lv_at hl 1 rfl) ?_
  refine lv_iload_n hx hb dM_mac_11 rfl (lv_at hl 3 rfl) ?_
  refine lv_iload_n hx hb dM_mac_12 rfl (lv_at hl 0 rfl) ?_
  refine lv_iushr (v := (zush g2 16)) hx hb dM_mac_13 rfl ?_
  refine lv_sipush (v := 255) hx hb dM_mac_14 (by decide) ?_
  refine lv_iand hx hb dM_mac_17 ?_
  refine lv_ixor hx hb dM_mac_18 ?_
  refine lv_ldc (v := 16777619) hx hb hown (hts _ mw379) dM_mac_19 ?_
  refine lv_imul hx hb dM_mac_21 ?_
  refine lv_istore_n hx hb dM_mac_22 rfl hl (by decide) rfl (fun ls hl => ?_)
  have hl : lv_has ls 4 [(2, .int (((zmac1 (zmac1 g1 ((zush g2 0) &&& 255)) ((zush g2 8) &&& 255)) ^^^ ((zush g2 16) &&& 255)) * 16777619)), (3, .int 16), (0, .int g1), (1, .int g2)] := hl
  refine lv_iload_n hx hb dM_mac_23 rfl (lv_at hl 0 rfl) ?_
  refine lv_iload_n hx hb dM_mac_24 rfl (lv_at hl 0 rfl) ?_
  refine lv_bipush (v := 13) hx hb dM_mac_25 (by decide) ?_
  refine lv_iushr (v := (zush (((zmac1 (zmac1 g1 ((zush g2 0) &&& 255)) ((zush g2 8) &&& 255)) ^^^ ((zush g2 16) &&& 255)) * 16777619) 13)) hx hb dM_mac_27 rfl ?_
  refine lv_ixor hx hb dM_mac_28 ?_
  refine kTop (y := (zmac1 (zmac1 (zmac1 g1 ((zush g2 0) &&& 255)) ((zush g2 8) &&& 255)) ((zush g2 16) &&& 255))) (rfl) ?_
  refine lv_istore_n hx hb dM_mac_29 rfl hl (by decide) rfl (fun ls hl => ?_)
  have hl : lv_has ls 4 [(2, .int (zmac1 (zmac1 (zmac1 g1 ((zush g2 0) &&& 255)) ((zush g2 8) &&& 255)) ((zush g2 16) &&& 255))), (3, .int 16), (0, .int g1), (1, .int g2)] := hl
  refine lv_iinc (k := 1) (v := 24) hx hb dM_mac_30 hl rfl (by decide) (by decide) rfl (fun ls hl => ?_)
  have hl : lv_has ls 4 [(3, .int 24), (2, .int (zmac1 (zmac1 (zmac1 g1 ((zush g2 0) &&& 255)) ((zush g2 8) &&& 255)) ((zush g2 16) &&& 255))), (0, .int g1), (1, .int g2)] := hl
  refine lv_goto hx hb dM_mac_33 (tgt := 4) (by decide) ?_
  refine lv_iload_n hx hb dM_mac_4 rfl (lv_at hl 0 rfl) ?_
  refine lv_bipush (v := 32) hx hb dM_mac_5 (by decide) ?_
  refine lv_icmp_ge (tgt := 36) hx hb dM_mac_7 (by decide) (fun h => absurd h (by decide)) (fun _ => ?_)
  refine lv_iload_n hx hb dM_mac_10 rfl (lv_at hl 1 rfl) ?_
  refine lv_iload_n hx hb dM_mac_11 rfl (lv_at hl 3 rfl) ?_
  refine lv_iload_n hx hb dM_mac_12 rfl (lv_at hl 0 rfl) ?_
  refine lv_iushr (v := (zush g2 24)) hx hb dM_mac_13 rfl ?_
  refine lv_sipush (v := 255) hx hb dM_mac_14 (by decide) ?_
  refine lv_iand hx hb dM_mac_17 ?_
  refine lv_ixor hx hb dM_mac_18 ?_
  refine lv_ldc (v := 16777619) hx hb hown (hts _ mw379) dM_mac_19 ?_
  refine lv_imul hx hb dM_mac_21 ?_
  refine lv_istore_n hx hb dM_mac_22 rfl hl (by decide) rfl (fun ls hl => ?_)
  have hl : lv_has ls 4 [(2, .int (((zmac1 (zmac1 (zmac1 g1 ((zush g2 0) &&& 255)) ((zush g2 8) &&& 255)) ((zush g2 16) &&& 255)) ^^^ ((zush g2 24) &&& 255)) * 16777619)), (3, .int 24), (0, .int g1), (1, .int g2)] := hl
  refine lv_iload_n hx hb dM_mac_23 rfl (lv_at hl 0 rfl) ?_
  refine lv_iload_n hx hb dM_mac_24 rfl (lv_at hl 0 rfl) ?_
  refine lv_bipush (v := 13) hx hb dM_mac_25 (by decide) ?_
  refine lv_iushr (v := (zush (((zmac1 (zmac1 (zmac1 g1 ((zush g2 0) &&& 255)) ((zush g2 8) &&& 255)) ((zush g2 16) &&& 255)) ^^^ ((zush g2 24) &&& 255)) * 16777619) 13)) hx hb dM_mac_27 rfl ?_
  refine lv_ixor hx hb dM_mac_28 ?_
  refine kTop (y := (zmac1 (zmac1 (zmac1 (zmac1 g1 ((zush g2 0) &&& 255)) ((zush g2 8) &&& 255)) ((zush g2 16) &&& 255)) ((zush g2 24) &&& 255))) (rfl) ?_
  refine lv_istore_n hx hb dM_mac_29 rfl hl (by decide) rfl (fun ls hl => ?_)
  have hl : lv_has ls 4 [(2, .int (zmac1 (zmac1 (zmac1 (zmac1 g1 ((zush g2 0) &&& 255)) ((zush g2 8) &&& 255)) ((zush g2 16) &&& 255)) ((zush g2 24) &&& 255))), (3, .int 24), (0, .int g1), (1, .int g2)] := hl
  refine lv_iinc (k := 1) (v := 32) hx hb dM_mac_30 hl rfl (by decide) (by decide) rfl (fun ls hl => ?_)
  have hl : lv_has ls 4 [(3, .int 32), (2, .int (zmac1 (zmac1 (zmac1 (zmac1 g1 ((zush g2 0) &&& 255)) ((zush g2 8) &&& 255)) ((zush g2 16) &&& 255)) ((zush g2 24) &&& 255))), (0, .int g1), (1, .int g2)] := hl
  refine lv_goto hx hb dM_mac_33 (tgt := 4) (by decide) ?_
  refine lv_iload_n hx hb dM_mac_4 rfl (lv_at hl 0 rfl) ?_
  refine lv_bipush (v := 32) hx hb dM_mac_5 (by decide) ?_
  refine lv_icmp_ge (tgt := 36) hx hb dM_mac_7 (by decide) (fun _ => ?_) (fun h => absurd h (by decide))
  refine lv_iload_n hx hb dM_mac_36 rfl (lv_at hl 1 rfl) ?_
  exact kretP (rfl) hx hb hr hlk hS hP hD hK dM_mac_37

def zm_answer (g1 : Int32) : Int64 := (if 0 ≤ g1 then (Int32.toInt64 g1) else ((Int32.toInt64 g1) + 4294967296))

set_option maxHeartbeats 4000000 in
set_option maxRecDepth 100000 in
theorem km_answer (l : Launch) (D : va_G) (cI cZ : ClassId) (g1 : Int32) : kL l yM_answer wsM_answer (rmOf 0 0) D (kT cI cZ) [.int g1] [] (zm_answer g1) [] := by
  intro sz
  refine kOf (Qc := fun A => kQl D (kT cI cZ) A (zm_answer g1) []) (cc := cM_answer) (maxL := 1) (ret := some .long) (by decide) rfl (Nat.le_of_ble_eq_true rfl) ?_ sz
  intro p e s m args below meth c A ls hx hb hml hown hts hNw hr hlk hin hA hS hP hD hK hl
  show W p l e (rmOf 0 0) s m args below meth c s.heap [] 0 0 (MQ below (kQl D (kT cI cZ) A (zm_answer g1) []) args s 0 0 A) (F0 m 0 ls [])
  have hts : ∀ q ∈ lw_g, q.before args s = true := fun q h => hts q (List.mem_cons_of_mem _ h)
  have hown : s.vm.findClass cnM = some m.cls := hown
  have hl : lv_has ls 1 [(0, .int g1)] := hl
  have hP : va_P D vwCl [] s.heap := hP
  have hD : va_D A [] := hD
  refine lv_iload_n hx hb dM_answer_0 rfl (lv_at hl 0 rfl) ?_
  refine lv_if_ge (tgt := 13) hx hb dM_answer_1 (by decide) (fun h1 => ?_) (fun h1 => ?_)
  ·
    refine lv_iload_n hx hb dM_answer_13 rfl (lv_at hl 0 rfl) ?_
    refine lv_i2l (v := (Int32.toInt64 g1)) hx hb dM_answer_14 rfl ?_
    exact kretL (by first | (rw [zm_answer, if_pos h1]; done) | exact (if_pos h1)) hx hb hr hlk hS hP hD hK dM_answer_15
  ·
    refine lv_iload_n hx hb dM_answer_4 rfl (lv_at hl 0 rfl) ?_
    refine lv_i2l (v := (Int32.toInt64 g1)) hx hb dM_answer_5 rfl ?_
    refine lv_ldc2 (v := 4294967296) hx hb hown (hts _ mw415) dM_answer_6 ?_
    refine lv_ladd hx hb dM_answer_9 ?_
    refine lv_goto hx hb dM_answer_10 (tgt := 15) (by decide) ?_
    exact kretL (by first | (rw [zm_answer, if_neg h1]; done) | exact (if_neg h1)) hx hb hr hlk hS hP hD hK dM_answer_15

def zm_good (g1 : Int32) : Int32 := (if g1 < 0 then (0 : Int32) else (if 511 < g1 then (0 : Int32) else (if (zm_has g1 128) = 0 then (if (zm_has g1 256) = 0 then (1 : Int32) else (if (zm_has g1 16) = 0 then (1 : Int32) else (0 : Int32))) else (if (zm_has g1 32) = 0 then (if (zm_has g1 256) = 0 then (1 : Int32) else (if (zm_has g1 16) = 0 then (1 : Int32) else (0 : Int32))) else (0 : Int32)))))

set_option maxHeartbeats 4000000 in
set_option maxRecDepth 100000 in
theorem km_good (l : Launch) (D : va_G) (cI cZ : ClassId) (g1 : Int32) : kI l yM_good wsM_good (rmOf 1 21) D (kT cI cZ) [.int g1] [] (zm_good g1) [] := by
  intro sz
  refine kOf (Qc := fun A => kQi D (kT cI cZ) A (zm_good g1) []) (cc := cM_good) (maxL := 1) (ret := some .boolean) (by decide) rfl (Nat.le_of_ble_eq_true rfl) ?_ sz
  intro p e s m args below meth c A ls hx hb hml hown hts hNw hr hlk hin hA hS hP hD hK hl
  show W p l e (rmOf 1 21) s m args below meth c s.heap [] 0 0 (MQ below (kQi D (kT cI cZ) A (zm_good g1) []) args s 0 0 A) (F0 m 0 ls [])
  have hts : ∀ q ∈ lw_g, q.before args s = true := fun q h => hts q (List.mem_cons_of_mem _ h)
  have hown : s.vm.findClass cnM = some m.cls := hown
  have hl : lv_has ls 1 [(0, .int g1)] := hl
  have hP : va_P D vwCl [] s.heap := hP
  have hD : va_D A [] := hD
  refine lv_iload_n hx hb dM_good_0 rfl (lv_at hl 0 rfl) ?_
  refine kJoin (pcJ := 54) (z := (if g1 < 0 then (0 : Int32) else (if 511 < g1 then (0 : Int32) else (if (zm_has g1 128) = 0 then (if (zm_has g1 256) = 0 then (1 : Int32) else (if (zm_has g1 16) = 0 then (1 : Int32) else (0 : Int32))) else (if (zm_has g1 32) = 0 then (if (zm_has g1 256) = 0 then (1 : Int32) else (if (zm_has g1 16) = 0 then (1 : Int32) else (0 : Int32))) else (0 : Int32)))))) (ws := []) (rest := []) (D := D) (A := A) (H0 := s.heap) (fun J54 => ?_) (fun H locs hP hD hS => ?_)
  ·
    refine lv_if_lt (tgt := 53) hx hb dM_good_1 (by decide) (fun h1 => ?_) (fun h1 => ?_)
    ·
      refine lv_iconst (v := 0) hx hb dM_good_53 (by decide) ?_
      exact J54 _ _ hP hD hS _ ((if_pos h1).symm)
    ·
      refine lv_iload_n hx hb dM_good_4 rfl (lv_at hl 0 rfl) ?_
      refine lv_sipush (v := 511) hx hb dM_good_5 (by decide) ?_
      refine lv_icmp_gt (tgt := 53) hx hb dM_good_8 (by decide) (fun h2 => ?_) (fun h2 => ?_)
      ·
        refine lv_iconst (v := 0) hx hb dM_good_53 (by decide) ?_
        exact J54 _ _ hP hD hS _ (((if_neg h1).trans (if_pos h2)).symm)
      ·
        refine lv_iload_n hx hb dM_good_11 rfl (lv_at hl 0 rfl) ?_
        refine lv_sipush (v := 128) hx hb dM_good_12 (by decide) ?_
        refine kcI (isR := []) (isC := []) (wr := []) (w2 := []) (va_runS (As := [.int g1, .int 128]) (rest := []) ⟨hx, hb, hml, hown, hts⟩ (km_has l D cI cZ g1 128 _) ⟨(callB_of 2 hts gd_yM_has rfl rfl rfl (hts _ mw27) (hts _ mw333) (by decide +kernel) ⟨Nat.le_of_ble_eq_true rfl, Nat.le_of_ble_eq_true rfl⟩), hts _ mw334⟩ (kpreS hNw hP hD hK [] rfl (by decide)) rfl rfl hl.1 rfl (lv_room (Nat.le_of_ble_eq_true rfl)) dM_good_15 ⟨Nat.le_of_ble_eq_true rfl, Nat.le_of_ble_eq_true rfl⟩) hP hD hS hA [] rfl rfl (by decide) (by decide) (by decide) rfl (fun H locs hP hD hS => ?_)
        refine lv_if_eq (tgt := 30) hx hb dM_good_18 (by decide) (fun h3 => ?_) (fun h3 => ?_)
        ·
          refine lv_iload_n hx hb dM_good_30 rfl (lv_at hl 0 rfl) ?_
          refine lv_sipush (v := 256) hx hb dM_good_31 (by decide) ?_
          refine kcI (isR := []) (isC := []) (wr := []) (w2 := []) (va_runS (As := [.int g1, .int 256]) (rest := []) ⟨hx, hb, hml, hown, hts⟩ (km_has l D cI cZ g1 256 _) ⟨(callB_of 2 hts gd_yM_has rfl rfl rfl (hts _ mw27) (hts _ mw333) (by decide +kernel) ⟨Nat.le_of_ble_eq_true rfl, Nat.le_of_ble_eq_true rfl⟩), hts _ mw334⟩ (kpreS hNw hP hD hK [] rfl (by decide)) rfl rfl hl.1 rfl (lv_room (Nat.le_of_ble_eq_true rfl)) dM_good_34 ⟨Nat.le_of_ble_eq_true rfl, Nat.le_of_ble_eq_true rfl⟩) hP hD hS hA [] rfl rfl (by decide) (by decide) (by decide) rfl (fun H locs hP hD hS => ?_)
          refine lv_if_eq (tgt := 49) hx hb dM_good_37 (by decide) (fun h4 => ?_) (fun h4 => ?_)
          ·
            refine lv_iconst (v := 1) hx hb dM_good_49 (by decide) ?_
            refine lv_goto hx hb dM_good_50 (tgt := 54) (by decide) ?_
            exact J54 _ _ hP hD hS _ (((if_neg h1).trans ((if_neg h2).trans ((if_pos h3).trans (if_pos h4)))).symm)
          ·
            refine lv_iload_n hx hb dM_good_40 rfl (lv_at hl 0 rfl) ?_
            refine lv_bipush (v := 16) hx hb dM_good_41 (by decide) ?_
            refine kcI (isR := []) (isC := []) (wr := []) (w2 := []) (va_runS (As := [.int g1, .int 16]) (rest := []) ⟨hx, hb, hml, hown, hts⟩ (km_has l D cI cZ g1 16 _) ⟨(callB_of 2 hts gd_yM_has rfl rfl rfl (hts _ mw27) (hts _ mw333) (by decide +kernel) ⟨Nat.le_of_ble_eq_true rfl, Nat.le_of_ble_eq_true rfl⟩), hts _ mw334⟩ (kpreS hNw hP hD hK [] rfl (by decide)) rfl rfl hl.1 rfl (lv_room (Nat.le_of_ble_eq_true rfl)) dM_good_43 ⟨Nat.le_of_ble_eq_true rfl, Nat.le_of_ble_eq_true rfl⟩) hP hD hS hA [] rfl rfl (by decide) (by decide) (by decide) rfl (fun H locs hP hD hS => ?_)
            refine lv_if_ne (tgt := 53) hx hb dM_good_46 (by decide) (fun h5 => ?_) (fun h5 => ?_)
            ·
              refine lv_iconst (v := 0) hx hb dM_good_53 (by decide) ?_
              exact J54 _ _ hP hD hS _ (((if_neg h1).trans ((if_neg h2).trans ((if_pos h3).trans ((if_neg h4).trans (if_neg h5))))).symm)
            ·
              refine lv_iconst (v := 1) hx hb dM_good_49 (by decide) ?_
              refine lv_goto hx hb dM_good_50 (tgt := 54) (by decide) ?_
              exact J54 _ _ hP hD hS _ (((if_neg h1).trans ((if_neg h2).trans ((if_pos h3).trans ((if_neg h4).trans (if_pos h5))))).symm)
        ·
          refine lv_iload_n hx hb dM_good_21 rfl (lv_at hl 0 rfl) ?_
          refine lv_bipush (v := 32) hx hb dM_good_22 (by decide) ?_
          refine kcI (isR := []) (isC := []) (wr := []) (w2 := []) (va_runS (As := [.int g1, .int 32]) (rest := []) ⟨hx, hb, hml, hown, hts⟩ (km_has l D cI cZ g1 32 _) ⟨(callB_of 2 hts gd_yM_has rfl rfl rfl (hts _ mw27) (hts _ mw333) (by decide +kernel) ⟨Nat.le_of_ble_eq_true rfl, Nat.le_of_ble_eq_true rfl⟩), hts _ mw334⟩ (kpreS hNw hP hD hK [] rfl (by decide)) rfl rfl hl.1 rfl (lv_room (Nat.le_of_ble_eq_true rfl)) dM_good_24 ⟨Nat.le_of_ble_eq_true rfl, Nat.le_of_ble_eq_true rfl⟩) hP hD hS hA [] rfl rfl (by decide) (by decide) (by decide) rfl (fun H locs hP hD hS => ?_)
          refine lv_if_ne (tgt := 53) hx hb dM_good_27 (by decide) (fun h6 => ?_) (fun h6 => ?_)
          ·
            refine lv_iconst (v := 0) hx hb dM_good_53 (by decide) ?_
            exact J54 _ _ hP hD hS _ (((if_neg h1).trans ((if_neg h2).trans ((if_neg h3).trans (if_neg h6)))).symm)
          ·
            refine lv_iload_n hx hb dM_good_30 rfl (lv_at hl 0 rfl) ?_
            refine lv_sipush (v := 256) hx hb dM_good_31 (by decide) ?_
            refine kcI (isR := []) (isC := []) (wr := []) (w2 := []) (va_runS (As := [.int g1, .int 256]) (rest := []) ⟨hx, hb, hml, hown, hts⟩ (km_has l D cI cZ g1 256 _) ⟨(callB_of 2 hts gd_yM_has rfl rfl rfl (hts _ mw27) (hts _ mw333) (by decide +kernel) ⟨Nat.le_of_ble_eq_true rfl, Nat.le_of_ble_eq_true rfl⟩), hts _ mw334⟩ (kpreS hNw hP hD hK [] rfl (by decide)) rfl rfl hl.1 rfl (lv_room (Nat.le_of_ble_eq_true rfl)) dM_good_34 ⟨Nat.le_of_ble_eq_true rfl, Nat.le_of_ble_eq_true rfl⟩) hP hD hS hA [] rfl rfl (by decide) (by decide) (by decide) rfl (fun H locs hP hD hS => ?_)
            refine lv_if_eq (tgt := 49) hx hb dM_good_37 (by decide) (fun h7 => ?_) (fun h7 => ?_)
            ·
              refine lv_iconst (v := 1) hx hb dM_good_49 (by decide) ?_
              refine lv_goto hx hb dM_good_50 (tgt := 54) (by decide) ?_
              exact J54 _ _ hP hD hS _ (((if_neg h1).trans ((if_neg h2).trans ((if_neg h3).trans ((if_pos h6).trans (if_pos h7))))).symm)
            ·
              refine lv_iload_n hx hb dM_good_40 rfl (lv_at hl 0 rfl) ?_
              refine lv_bipush (v := 16) hx hb dM_good_41 (by decide) ?_
              refine kcI (isR := []) (isC := []) (wr := []) (w2 := []) (va_runS (As := [.int g1, .int 16]) (rest := []) ⟨hx, hb, hml, hown, hts⟩ (km_has l D cI cZ g1 16 _) ⟨(callB_of 2 hts gd_yM_has rfl rfl rfl (hts _ mw27) (hts _ mw333) (by decide +kernel) ⟨Nat.le_of_ble_eq_true rfl, Nat.le_of_ble_eq_true rfl⟩), hts _ mw334⟩ (kpreS hNw hP hD hK [] rfl (by decide)) rfl rfl hl.1 rfl (lv_room (Nat.le_of_ble_eq_true rfl)) dM_good_43 ⟨Nat.le_of_ble_eq_true rfl, Nat.le_of_ble_eq_true rfl⟩) hP hD hS hA [] rfl rfl (by decide) (by decide) (by decide) rfl (fun H locs hP hD hS => ?_)
              refine lv_if_ne (tgt := 53) hx hb dM_good_46 (by decide) (fun h8 => ?_) (fun h8 => ?_)
              ·
                refine lv_iconst (v := 0) hx hb dM_good_53 (by decide) ?_
                exact J54 _ _ hP hD hS _ (((if_neg h1).trans ((if_neg h2).trans ((if_neg h3).trans ((if_pos h6).trans ((if_neg h7).trans (if_neg h8)))))).symm)
              ·
                refine lv_iconst (v := 1) hx hb dM_good_49 (by decide) ?_
                refine lv_goto hx hb dM_good_50 (tgt := 54) (by decide) ?_
                exact J54 _ _ hP hD hS _ (((if_neg h1).trans ((if_neg h2).trans ((if_neg h3).trans ((if_pos h6).trans ((if_neg h7).trans (if_pos h8)))))).symm)
  exact kretZ (rfl) (kz_ite kz0 (kz_ite kz0 (kz_ite (kz_ite kz1 (kz_ite kz1 kz0)) (kz_ite (kz_ite kz1 (kz_ite kz1 kz0)) kz0)))) hx hb hr hlk hS hP hD hK dM_good_54
end
section
def zk_has (K : KS) (g1 : Int32) (g2 : Int32) : Int32 := (if g1 < 0 then (0 : Int32) else (if (nI K.1) ≤ g1 then (0 : Int32) else (if ((K.2.2.2.1 (Int32.toNatClampNeg g1)) &&& g2) = 0 then (0 : Int32) else (1 : Int32))))

set_option maxHeartbeats 4000000 in
set_option maxRecDepth 100000 in
theorem kk_has (l : Launch) (D : va_G) (cI cZ : ClassId) (ak a1 a2 a3 a4 : Nat) (K : KS) (g1 : Int32) (g2 : Int32) (hn : K.1 ≤ 10) : kI l yK_has wsK_has (rmOf 0 0) D (kT cI cZ) [.ref ak, .int g1, .int g2] (wK cI ak a1 a2 a3 a4 K) (zk_has K g1 g2) (wK cI ak a1 a2 a3 a4 K) := by
  intro sz
  refine kOf (Qc := fun A => kQi D (kT cI cZ) A (zk_has K g1 g2) (wK cI ak a1 a2 a3 a4 K)) (cc := cK_has) (maxL := 3) (ret := some .boolean) (by decide) rfl (Nat.le_of_ble_eq_true rfl) ?_ sz
  intro p e s m args below meth c A ls hx hb hml hown hts hNw hr hlk hin hA hS hP hD hK hl
  show W p l e (rmOf 0 0) s m args below meth c s.heap [] 0 0 (MQ below (kQi D (kT cI cZ) A (zk_has K g1 g2) (wK cI ak a1 a2 a3 a4 K)) args s 0 0 A) (F0 m 0 ls [])
  have hts : ∀ q ∈ lw_g, q.before args s = true := fun q h => hts q (List.mem_cons_of_mem _ h)
  have hown : s.vm.findClass cnK = some m.cls := hown
  have hl : lv_has ls 3 [(0, .ref ak), (1, .int g1), (2, .int g2)] := hl
  have hP : va_P D vwCl [(ak, .inr (2, [.ref a1, .ref a2, .ref a3, .ref a4, .int (nI K.1), .int K.2.1])), (a1, .inl (cI, 10, .inl K.2.2.1)), (a2, .inl (cI, 10, .inl K.2.2.2.1)), (a3, .inl (cI, 10, .inl K.2.2.2.2.1)), (a4, .inl (cI, 10, .inl K.2.2.2.2.2))] s.heap := hP
  have hD : va_D A [(ak, .inr (2, [.ref a1, .ref a2, .ref a3, .ref a4, .int (nI K.1), .int K.2.1])), (a1, .inl (cI, 10, .inl K.2.2.1)), (a2, .inl (cI, 10, .inl K.2.2.2.1)), (a3, .inl (cI, 10, .inl K.2.2.2.2.1)), (a4, .inl (cI, 10, .inl K.2.2.2.2.2))] := hD
  refine lv_iload_n hx hb dK_has_0 rfl (lv_at hl 1 rfl) ?_
  refine kJoin (pcJ := 28) (z := (if g1 < 0 then (0 : Int32) else (if (nI K.1) ≤ g1 then (0 : Int32) else (if ((K.2.2.2.1 (Int32.toNatClampNeg g1)) &&& g2) = 0 then (0 : Int32) else (1 : Int32))))) (ws := [(ak, .inr (2, [.ref a1, .ref a2, .ref a3, .ref a4, .int (nI K.1), .int K.2.1])), (a1, .inl (cI, 10, .inl K.2.2.1)), (a2, .inl (cI, 10, .inl K.2.2.2.1)), (a3, .inl (cI, 10, .inl K.2.2.2.2.1)), (a4, .inl (cI, 10, .inl K.2.2.2.2.2))]) (rest := []) (D := D) (A := A) (H0 := s.heap) (fun J28 => ?_) (fun H locs hP hD hS => ?_)
  ·
    refine lv_if_lt (tgt := 27) hx hb dK_has_1 (by decide) (fun h1 => ?_) (fun h1 => ?_)
    ·
      refine lv_iconst (v := 0) hx hb dK_has_27 (by decide) ?_
      exact J28 _ _ hP hD hS _ ((if_pos h1).symm)
    ·
      refine lv_iload_n hx hb dK_has_4 rfl (lv_at hl 1 rfl) ?_
      refine lv_aload_n hx hb dK_has_5 rfl (lv_at hl 0 rfl) ?_
      refine va_get (D := D) (ci := 2) (v := .int (nI K.1)) (C := cnK) (T := ftK) (N := 6) hx hb hts inK hown hK hP 0 rfl rfl 4 (by decide) (hts _ mw64) (fun _ h9 => h9) rfl dK_has_6 ?_
      refine lv_icmp_ge (tgt := 27) hx hb dK_has_9 (by decide) (fun h2 => ?_) (fun h2 => ?_)
      ·
        refine lv_iconst (v := 0) hx hb dK_has_27 (by decide) ?_
        exact J28 _ _ hP hD hS _ (((if_neg h1).trans (if_pos h2)).symm)
      ·
        refine lv_aload_n hx hb dK_has_12 rfl (lv_at hl 0 rfl) ?_
        refine va_get (D := D) (ci := 2) (v := .ref a2) (C := cnK) (T := ftK) (N := 6) hx hb hts inK hown hK hP 0 rfl rfl 1 (by decide) (hts _ mw59) (fun _ h9 => h9) rfl dK_has_13 ?_
        refine lv_iload_n hx hb dK_has_16 rfl (lv_at hl 1 rfl) ?_
        refine va_iald hx hb hK hP 2 0 rfl rfl (kin hn (by decide) h1 h2) dK_has_17 ?_
        refine lv_iload_n hx hb dK_has_18 rfl (lv_at hl 2 rfl) ?_
        refine lv_iand hx hb dK_has_19 ?_
        refine lv_if_eq (tgt := 27) hx hb dK_has_20 (by decide) (fun h3 => ?_) (fun h3 => ?_)
        ·
          refine lv_iconst (v := 0) hx hb dK_has_27 (by decide) ?_
          exact J28 _ _ hP hD hS _ (((if_neg h1).trans ((if_neg h2).trans (if_pos h3))).symm)
        ·
          refine lv_iconst (v := 1) hx hb dK_has_23 (by decide) ?_
          refine lv_goto hx hb dK_has_24 (tgt := 28) (by decide) ?_
          exact J28 _ _ hP hD hS _ (((if_neg h1).trans ((if_neg h2).trans (if_neg h3))).symm)
  exact kretZ (rfl) (kz_ite kz0 (kz_ite kz0 (kz_ite kz0 kz1))) hx hb hr hlk hS hP hD hK dK_has_28

def zk_find (hs : Nat → Int32) (g : Int32) : Nat → Nat → Int32
  | 0, _ => -1
  | f + 1, i => if hs i = g then nI i else zk_find hs g f (i + 1)
def zk_rowWith (K : KS) (g1 : Int32) : Int32 := zk_find K.2.2.1 g1 K.1 0

set_option maxHeartbeats 4000000 in
set_option maxRecDepth 100000 in
theorem kk_rowWith (l : Launch) (D : va_G) (cI cZ : ClassId) (ak a1 a2 a3 a4 : Nat) (K : KS) (g1 : Int32) (hn : K.1 ≤ 10) : kI l yK_rowWith wsK_rowWith (rmOf 0 0) D (kT cI cZ) [.ref ak, .int g1] (wK cI ak a1 a2 a3 a4 K) (zk_rowWith K g1) (wK cI ak a1 a2 a3 a4 K) := by
  intro sz
  refine kOf (Qc := fun A => kQi D (kT cI cZ) A (zk_rowWith K g1) (wK cI ak a1 a2 a3 a4 K)) (cc := cK_rowWith) (maxL := 3) (ret := some .int) (by decide) rfl (Nat.le_of_ble_eq_true rfl) ?_ sz
  intro p e s m args below meth c A ls hx hb hml hown hts hNw hr hlk hin hA hS hP hD hK hl
  show W p l e (rmOf 0 0) s m args below meth c s.heap [] 0 0 (MQ below (kQi D (kT cI cZ) A (zk_rowWith K g1) (wK cI ak a1 a2 a3 a4 K)) args s 0 0 A) (F0 m 0 ls [])
  have hts : ∀ q ∈ lw_g, q.before args s = true := fun q h => hts q (List.mem_cons_of_mem _ h)
  have hown : s.vm.findClass cnK = some m.cls := hown
  have hl : lv_has ls 3 [(0, .ref ak), (1, .int g1)] := hl
  have hP : va_P D vwCl [(ak, .inr (2, [.ref a1, .ref a2, .ref a3, .ref a4, .int (nI K.1), .int K.2.1])), (a1, .inl (cI, 10, .inl K.2.2.1)), (a2, .inl (cI, 10, .inl K.2.2.2.1)), (a3, .inl (cI, 10, .inl K.2.2.2.2.1)), (a4, .inl (cI, 10, .inl K.2.2.2.2.2))] s.heap := hP
  have hD : va_D A [(ak, .inr (2, [.ref a1, .ref a2, .ref a3, .ref a4, .int (nI K.1), .int K.2.1])), (a1, .inl (cI, 10, .inl K.2.2.1)), (a2, .inl (cI, 10, .inl K.2.2.2.1)), (a3, .inl (cI, 10, .inl K.2.2.2.2.1)), (a4, .inl (cI, 10, .inl K.2.2.2.2.2))] := hD
  have L : ∀ (f : Nat) (i : Nat) (ls : Array Slot) (H : Heap) (locs : List Loc), (i + f = K.1) → (zk_rowWith K g1 = zk_find K.2.2.1 g1 f i) → lv_has ls 3 [(2, .int (nI i)), (0, .ref ak), (1, .int g1)] → va_P D vwCl [(ak, .inr (2, [.ref a1, .ref a2, .ref a3, .ref a4, .int (nI K.1), .int K.2.1])), (a1, .inl (cI, 10, .inl K.2.2.1)), (a2, .inl (cI, 10, .inl K.2.2.2.1)), (a3, .inl (cI, 10, .inl K.2.2.2.2.1)), (a4, .inl (cI, 10, .inl K.2.2.2.2.2))] H → va_D A [(ak, .inr (2, [.ref a1, .ref a2, .ref a3, .ref a4, .int (nI K.1), .int K.2.1])), (a1, .inl (cI, 10, .inl K.2.2.1)), (a2, .inl (cI, 10, .inl K.2.2.2.1)), (a3, .inl (cI, 10, .inl K.2.2.2.2.1)), (a4, .inl (cI, 10, .inl K.2.2.2.2.2))] → va_S A s.heap H locs → W p l e (rmOf 0 0) s m args below meth c H locs 0 0 (MQ below (kQi D (kT cI cZ) A (zk_rowWith K g1) (wK cI ak a1 a2 a3 a4 K)) args s 0 0 A) (F0 m 2 ls []) := by
    intro f
    induction f with
    | zero =>
      intro i ls H locs hf he hl hP hD hS
      refine lv_iload_n hx hb dK_rowWith_2 rfl (lv_at hl 0 rfl) ?_
      refine lv_aload_n hx hb dK_rowWith_3 rfl (lv_at hl 1 rfl) ?_
      refine va_get (D := D) (ci := 2) (v := .int (nI K.1)) (C := cnK) (T := ftK) (N := 6) hx hb hts inK hown hK hP 0 rfl rfl 4 (by decide) (hts _ mw64) (fun _ h9 => h9) rfl dK_rowWith_4 ?_
      refine lv_icmp_ge (tgt := 28) hx hb dK_rowWith_7 (by decide) (fun _ => ?_) (fun h => absurd (nI_le (by omega) (by omega)) h)
      refine lv_iconst (v := (-1)) hx hb dK_rowWith_28 (by decide) ?_
      exact kretP (he) hx hb hr hlk hS hP hD hK dK_rowWith_29
    | succ f ih =>
      intro i ls H locs hf he hl hP hD hS
      refine lv_iload_n hx hb dK_rowWith_2 rfl (lv_at hl 0 rfl) ?_
      refine lv_aload_n hx hb dK_rowWith_3 rfl (lv_at hl 1 rfl) ?_
      refine va_get (D := D) (ci := 2) (v := .int (nI K.1)) (C := cnK) (T := ftK) (N := 6) hx hb hts inK hown hK hP 0 rfl rfl 4 (by decide) (hts _ mw64) (fun _ h9 => h9) rfl dK_rowWith_4 ?_
      refine lv_icmp_ge (tgt := 28) hx hb dK_rowWith_7 (by decide) (fun h => absurd h (nI_ge (by omega) (by omega))) (fun _ => ?_)
      refine lv_aload_n hx hb dK_rowWith_10 rfl (lv_at hl 1 rfl) ?_
      refine va_get (D := D) (ci := 2) (v := .ref a1) (C := cnK) (T := ftK) (N := 6) hx hb hts inK hown hK hP 0 rfl rfl 0 (by decide) (hts _ mw57) (fun _ h9 => h9) rfl dK_rowWith_11 ?_
      refine lv_iload_n hx hb dK_rowWith_14 rfl (lv_at hl 0 rfl) ?_
      refine va_iald hx hb hK hP 1 0 rfl rfl (vp_in_nI (by omega) (by decide)) dK_rowWith_15 ?_
      refine kTop (y := (K.2.2.1 i)) (by rw [nI_clamp (by omega)]) ?_
      refine lv_iload_n hx hb dK_rowWith_16 rfl (lv_at hl 2 rfl) ?_
      refine lv_icmp_ne (tgt := 22) hx hb dK_rowWith_17 (by decide) (fun h1 => ?_) (fun h1 => ?_)
      ·
        refine lv_iinc (k := 0) (v := (nI (i + 1))) hx hb dK_rowWith_22 hl rfl (kincN1 _) (by decide) rfl (fun ls hl => ?_)
        have hl : lv_has ls 3 [(2, .int (nI (i + 1))), (0, .ref ak), (1, .int g1)] := hl
        refine lv_goto hx hb dK_rowWith_25 (tgt := 2) (by decide) ?_
        exact ih (i + 1) _ _ _ (by omega) (by rw [he, zk_find, if_neg h1]) (lv_sub hl [0, 1, 2] rfl) hP hD hS
      ·
        refine lv_iload_n hx hb dK_rowWith_20 rfl (lv_at hl 0 rfl) ?_
        exact kretP (by rw [he, zk_find, if_pos h1]) hx hb hr hlk hS hP hD hK dK_rowWith_21
  refine lv_iconst (v := 0) hx hb dK_rowWith_0 (by decide) ?_
  refine lv_istore_n hx hb dK_rowWith_1 rfl hl (by decide) rfl (fun ls hl => ?_)
  have hl : lv_has ls 3 [(2, .int 0), (0, .ref ak), (1, .int g1)] := hl
  have hl : lv_has ls 3 [(2, .int (nI 0)), (0, .ref ak), (1, .int g1)] := hl
  exact L K.1 0 _ _ _ (by omega) rfl hl hP hD hS

theorem kpred {n : Nat} (h : 0 < n) : nI n - 1 = nI (n - 1) := by
  obtain ⟨k, rfl⟩ : ∃ k, n = k + 1 := ⟨n - 1, by omega⟩
  exact nI_pred k
def zk_shift : Nat → Nat → (Nat → Int32) → (Nat → Int32)
  | 0, _, f => f
  | k + 1, i, f => zk_shift k (i + 1) (upd f i (f (i + 1)))
def zk_removeRow (K : KS) (g1 : Nat) : KS := (K.1 - 1, K.2.1, zk_shift (K.1 - 1 - g1) g1 K.2.2.1, zk_shift (K.1 - 1 - g1) g1 K.2.2.2.1, zk_shift (K.1 - 1 - g1) g1 K.2.2.2.2.1, zk_shift (K.1 - 1 - g1) g1 K.2.2.2.2.2)

set_option maxHeartbeats 4000000 in
set_option maxRecDepth 100000 in
theorem kk_removeRow (l : Launch) (D : va_G) (cI cZ : ClassId) (ak a1 a2 a3 a4 : Nat) (K : KS) (g1 : Nat) (hn : K.1 ≤ 10) (hg : g1 < K.1) : kV l yK_removeRow wsK_removeRow (rmOf 0 0) D (kT cI cZ) [.ref ak, .int (nI g1)] (wK cI ak a1 a2 a3 a4 K) (wK cI ak a1 a2 a3 a4 (zk_removeRow K g1)) := by
  intro sz
  refine kOf (Qc := fun A => kQv D (kT cI cZ) A (wK cI ak a1 a2 a3 a4 (zk_removeRow K g1))) (cc := cK_removeRow) (maxL := 3) (ret := none) (by decide) rfl (Nat.le_of_ble_eq_true rfl) ?_ sz
  intro p e s m args below meth c A ls hx hb hml hown hts hNw hr hlk hin hA hS hP hD hK hl
  show W p l e (rmOf 0 0) s m args below meth c s.heap [] 0 0 (MQ below (kQv D (kT cI cZ) A (wK cI ak a1 a2 a3 a4 (zk_removeRow K g1))) args s 0 0 A) (F0 m 0 ls [])
  have hts : ∀ q ∈ lw_g, q.before args s = true := fun q h => hts q (List.mem_cons_of_mem _ h)
  have hown : s.vm.findClass cnK = some m.cls := hown
  have hl : lv_has ls 3 [(0, .ref ak), (1, .int (nI g1))] := hl
  have hP : va_P D vwCl [(ak, .inr (2, [.ref a1, .ref a2, .ref a3, .ref a4, .int (nI K.1), .int K.2.1])), (a1, .inl (cI, 10, .inl K.2.2.1)), (a2, .inl (cI, 10, .inl K.2.2.2.1)), (a3, .inl (cI, 10, .inl K.2.2.2.2.1)), (a4, .inl (cI, 10, .inl K.2.2.2.2.2))] s.heap := hP
  have hD : va_D A [(ak, .inr (2, [.ref a1, .ref a2, .ref a3, .ref a4, .int (nI K.1), .int K.2.1])), (a1, .inl (cI, 10, .inl K.2.2.1)), (a2, .inl (cI, 10, .inl K.2.2.2.1)), (a3, .inl (cI, 10, .inl K.2.2.2.2.1)), (a4, .inl (cI, 10, .inl K.2.2.2.2.2))] := hD
  have L : ∀ (f : Nat) (i : Nat) (h : Nat → Int32) (u : Nat → Int32) (v : Nat → Int32) (w : Nat → Int32) (ls : Array Slot) (H : Heap) (locs : List Loc), (i + f = K.1 - 1) → (zk_shift (K.1 - 1 - g1) g1 K.2.2.1 = zk_shift f i h) → (zk_shift (K.1 - 1 - g1) g1 K.2.2.2.1 = zk_shift f i u) → (zk_shift (K.1 - 1 - g1) g1 K.2.2.2.2.1 = zk_shift f i v) → (zk_shift (K.1 - 1 - g1) g1 K.2.2.2.2.2 = zk_shift f i w) → lv_has ls 3 [(2, .int (nI i)), (0, .ref ak), (1, .int (nI g1))] → va_P D vwCl [(ak, .inr (2, [.ref a1, .ref a2, .ref a3, .ref a4, .int (nI K.1), .int K.2.1])), (a1, .inl (cI, 10, .inl h)), (a2, .inl (cI, 10, .inl u)), (a3, .inl (cI, 10, .inl v)), (a4, .inl (cI, 10, .inl w))] H → va_D A [(ak, .inr (2, [.ref a1, .ref a2, .ref a3, .ref a4, .int (nI K.1), .int K.2.1])), (a1, .inl (cI, 10, .inl h)), (a2, .inl (cI, 10, .inl u)), (a3, .inl (cI, 10, .inl v)), (a4, .inl (cI, 10, .inl w))] → va_S A s.heap H locs → W p l e (rmOf 0 0) s m args below meth c H locs 0 0 (MQ below (kQv D (kT cI cZ) A (wK cI ak a1 a2 a3 a4 (zk_removeRow K g1))) args s 0 0 A) (F0 m 2 ls []) := by
    intro f
    induction f with
    | zero =>
      intro i h u v w ls H locs hf e1 e2 e3 e4 hl hP hD hS
      refine lv_iload_n hx hb dK_removeRow_2 rfl (lv_at hl 0 rfl) ?_
      refine lv_aload_n hx hb dK_removeRow_3 rfl (lv_at hl 1 rfl) ?_
      refine va_get (D := D) (ci := 2) (v := .int (nI K.1)) (C := cnK) (T := ftK) (N := 6) hx hb hts inK hown hK hP 0 rfl rfl 4 (by decide) (hts _ mw64) (fun _ h9 => h9) rfl dK_removeRow_4 ?_
      refine lv_iconst (v := 1) hx hb dK_removeRow_7 (by decide) ?_
      refine lv_isub hx hb dK_removeRow_8 ?_
      refine kTop (y := (nI (K.1 - 1))) (kpred (by omega)) ?_
      refine lv_icmp_ge (tgt := 74) hx hb dK_removeRow_9 (by decide) (fun _ => ?_) (fun h => absurd (nI_le (by omega) (by omega)) h)
      refine lv_aload_n hx hb dK_removeRow_74 rfl (lv_at hl 1 rfl) ?_
      refine lv_dup hx hb dK_removeRow_75 rfl ?_
      refine va_get (D := D) (ci := 2) (v := .int (nI K.1)) (C := cnK) (T := ftK) (N := 6) hx hb hts inK hown hK hP 0 rfl rfl 4 (by decide) (hts _ mw64) (fun _ h9 => h9) rfl dK_removeRow_76 ?_
      refine lv_iconst (v := 1) hx hb dK_removeRow_79 (by decide) ?_
      refine lv_isub hx hb dK_removeRow_80 ?_
      refine kTop (y := (nI (K.1 - 1))) (kpred (by omega)) ?_
      refine va_put (D := D) (ci := 2) (v := .int (nI (K.1 - 1))) (ty := (.int)) (C := cnK) (T := ftK) (N := 6) hx hb hts inK tyK tyK_ok nmK hown hK hP hD hS 0 rfl rfl 4 (by decide) (hts _ mw64) (fun _ h9 => h9) rfl (by decide +kernel) rfl rfl (Nat.le_of_ble_eq_true rfl) dK_removeRow_81 (fun H locs hP hD hS => ?_)
      have hP : va_P D vwCl [(ak, .inr (2, [.ref a1, .ref a2, .ref a3, .ref a4, .int (nI (K.1 - 1)), .int K.2.1])), (a1, .inl (cI, 10, .inl h)), (a2, .inl (cI, 10, .inl u)), (a3, .inl (cI, 10, .inl v)), (a4, .inl (cI, 10, .inl w))] H := hP
      have hD : va_D A [(ak, .inr (2, [.ref a1, .ref a2, .ref a3, .ref a4, .int (nI (K.1 - 1)), .int K.2.1])), (a1, .inl (cI, 10, .inl h)), (a2, .inl (cI, 10, .inl u)), (a3, .inl (cI, 10, .inl v)), (a4, .inl (cI, 10, .inl w))] := hD
      exact kretV (wf := fun st => wK cI ak a1 a2 a3 a4 st) (st := ((K.1 - 1), K.2.1, h, u, v, w)) (by unfold zk_removeRow; rw [e1, e2, e3, e4]; rfl) hx hb hr hlk hS hP hD hK dK_removeRow_84
    | succ f ih =>
      intro i h u v w ls H locs hf e1 e2 e3 e4 hl hP hD hS
      refine lv_iload_n hx hb dK_removeRow_2 rfl (lv_at hl 0 rfl) ?_
      refine lv_aload_n hx hb dK_removeRow_3 rfl (lv_at hl 1 rfl) ?_
      refine va_get (D := D) (ci := 2) (v := .int (nI K.1)) (C := cnK) (T := ftK) (N := 6) hx hb hts inK hown hK hP 0 rfl rfl 4 (by decide) (hts _ mw64) (fun _ h9 => h9) rfl dK_removeRow_4 ?_
      refine lv_iconst (v := 1) hx hb dK_removeRow_7 (by decide) ?_
      refine lv_isub hx hb dK_removeRow_8 ?_
      refine kTop (y := (nI (K.1 - 1))) (kpred (by omega)) ?_
      refine lv_icmp_ge (tgt := 74) hx hb dK_removeRow_9 (by decide) (fun h => absurd h (nI_ge (by omega) (by omega))) (fun _ => ?_)
      refine lv_aload_n hx hb dK_removeRow_12 rfl (lv_at hl 1 rfl) ?_
      refine va_get (D := D) (ci := 2) (v := .ref a1) (C := cnK) (T := ftK) (N := 6) hx hb hts inK hown hK hP 0 rfl rfl 0 (by decide) (hts _ mw57) (fun _ h9 => h9) rfl dK_removeRow_13 ?_
      refine lv_iload_n hx hb dK_removeRow_16 rfl (lv_at hl 0 rfl) ?_
      refine lv_aload_n hx hb dK_removeRow_17 rfl (lv_at hl 1 rfl) ?_
      refine va_get (D := D) (ci := 2) (v := .ref a1) (C := cnK) (T := ftK) (N := 6) hx hb hts inK hown hK hP 0 rfl rfl 0 (by decide) (hts _ mw57) (fun _ h9 => h9) rfl dK_removeRow_18 ?_
      refine lv_iload_n hx hb dK_removeRow_21 rfl (lv_at hl 0 rfl) ?_
      refine lv_iconst (v := 1) hx hb dK_removeRow_22 (by decide) ?_
      refine lv_iadd hx hb dK_removeRow_23 ?_
      refine kTop (y := (nI (i + 1))) (nI_1 _) ?_
      refine va_iald hx hb hK hP 1 0 rfl rfl (vp_in_nI (by omega) (by decide)) dK_removeRow_24 ?_
      refine kTop (y := (h (i + 1))) (by rw [nI_clamp (by omega)]) ?_
      refine va_iast hx hb hK hP hD hS 1 0 rfl rfl (vp_in_nI (by omega) (by decide)) dK_removeRow_25 (fun H locs hP hD hS => ?_)
      rw [show Int32.toNatClampNeg (nI i) = i from nI_clamp (by omega)] at hP hD
      have hP : va_P D vwCl [(ak, .inr (2, [.ref a1, .ref a2, .ref a3, .ref a4, .int (nI K.1), .int K.2.1])), (a1, .inl (cI, 10, .inl (upd h i (h (i + 1))))), (a2, .inl (cI, 10, .inl u)), (a3, .inl (cI, 10, .inl v)), (a4, .inl (cI, 10, .inl w))] H := hP
      have hD : va_D A [(ak, .inr (2, [.ref a1, .ref a2, .ref a3, .ref a4, .int (nI K.1), .int K.2.1])), (a1, .inl (cI, 10, .inl (upd h i (h (i + 1))))), (a2, .inl (cI, 10, .inl u)), (a3, .inl (cI, 10, .inl v)), (a4, .inl (cI, 10, .inl w))] := hD
      refine lv_aload_n hx hb dK_removeRow_26 rfl (lv_at hl 1 rfl) ?_
      refine va_get (D := D) (ci := 2) (v := .ref a2) (C := cnK) (T := ftK) (N := 6) hx hb hts inK hown hK hP 0 rfl rfl 1 (by decide) (hts _ mw59) (fun _ h9 => h9) rfl dK_removeRow_27 ?_
      refine lv_iload_n hx hb dK_removeRow_30 rfl (lv_at hl 0 rfl) ?_
      refine lv_aload_n hx hb dK_removeRow_31 rfl (lv_at hl 1 rfl) ?_
      refine va_get (D := D) (ci := 2) (v := .ref a2) (C := cnK) (T := ftK) (N := 6) hx hb hts inK hown hK hP 0 rfl rfl 1 (by decide) (hts _ mw59) (fun _ h9 => h9) rfl dK_removeRow_32 ?_
      refine lv_iload_n hx hb dK_removeRow_35 rfl (lv_at hl 0 rfl) ?_
      refine lv_iconst (v := 1) hx hb dK_removeRow_36 (by decide) ?_
      refine lv_iadd hx hb dK_removeRow_37 ?_
      refine kTop (y := (nI (i + 1))) (nI_1 _) ?_
      refine va_iald hx hb hK hP 2 0 rfl rfl (vp_in_nI (by omega) (by decide)) dK_removeRow_38 ?_
      refine kTop (y := (u (i + 1))) (by rw [nI_clamp (by omega)]) ?_
      refine va_iast hx hb hK hP hD hS 2 0 rfl rfl (vp_in_nI (by omega) (by decide)) dK_removeRow_39 (fun H locs hP hD hS => ?_)
      rw [show Int32.toNatClampNeg (nI i) = i from nI_clamp (by omega)] at hP hD
      have hP : va_P D vwCl [(ak, .inr (2, [.ref a1, .ref a2, .ref a3, .ref a4, .int (nI K.1), .int K.2.1])), (a1, .inl (cI, 10, .inl (upd h i (h (i + 1))))), (a2, .inl (cI, 10, .inl (upd u i (u (i + 1))))), (a3, .inl (cI, 10, .inl v)), (a4, .inl (cI, 10, .inl w))] H := hP
      have hD : va_D A [(ak, .inr (2, [.ref a1, .ref a2, .ref a3, .ref a4, .int (nI K.1), .int K.2.1])), (a1, .inl (cI, 10, .inl (upd h i (h (i + 1))))), (a2, .inl (cI, 10, .inl (upd u i (u (i + 1))))), (a3, .inl (cI, 10, .inl v)), (a4, .inl (cI, 10, .inl w))] := hD
      refine lv_aload_n hx hb dK_removeRow_40 rfl (lv_at hl 1 rfl) ?_
      refine va_get (D := D) (ci := 2) (v := .ref a3) (C := cnK) (T := ftK) (N := 6) hx hb hts inK hown hK hP 0 rfl rfl 2 (by decide) (hts _ mw61) (fun _ h9 => h9) rfl dK_removeRow_41 ?_
      refine lv_iload_n hx hb dK_removeRow_44 rfl (lv_at hl 0 rfl) ?_
      refine lv_aload_n hx hb dK_removeRow_45 rfl (lv_at hl 1 rfl) ?_
      refine va_get (D := D) (ci := 2) (v := .ref a3) (C := cnK) (T := ftK) (N := 6) hx hb hts inK hown hK hP 0 rfl rfl 2 (by decide) (hts _ mw61) (fun _ h9 => h9) rfl dK_removeRow_46 ?_
      refine lv_iload_n hx hb dK_removeRow_49 rfl (lv_at hl 0 rfl) ?_
      refine lv_iconst (v := 1) hx hb dK_removeRow_50 (by decide) ?_
      refine lv_iadd hx hb dK_removeRow_51 ?_
      refine kTop (y := (nI (i + 1))) (nI_1 _) ?_
      refine va_iald hx hb hK hP 3 0 rfl rfl (vp_in_nI (by omega) (by decide)) dK_removeRow_52 ?_
      refine kTop (y := (v (i + 1))) (by rw [nI_clamp (by omega)]) ?_
      refine va_iast hx hb hK hP hD hS 3 0 rfl rfl (vp_in_nI (by omega) (by decide)) dK_removeRow_53 (fun H locs hP hD hS => ?_)
      rw [show Int32.toNatClampNeg (nI i) = i from nI_clamp (by omega)] at hP hD
      have hP : va_P D vwCl [(ak, .inr (2, [.ref a1, .ref a2, .ref a3, .ref a4, .int (nI K.1), .int K.2.1])), (a1, .inl (cI, 10, .inl (upd h i (h (i + 1))))), (a2, .inl (cI, 10, .inl (upd u i (u (i + 1))))), (a3, .inl (cI, 10, .inl (upd v i (v (i + 1))))), (a4, .inl (cI, 10, .inl w))] H := hP
      have hD : va_D A [(ak, .inr (2, [.ref a1, .ref a2, .ref a3, .ref a4, .int (nI K.1), .int K.2.1])), (a1, .inl (cI, 10, .inl (upd h i (h (i + 1))))), (a2, .inl (cI, 10, .inl (upd u i (u (i + 1))))), (a3, .inl (cI, 10, .inl (upd v i (v (i + 1))))), (a4, .inl (cI, 10, .inl w))] := hD
      refine lv_aload_n hx hb dK_removeRow_54 rfl (lv_at hl 1 rfl) ?_
      refine va_get (D := D) (ci := 2) (v := .ref a4) (C := cnK) (T := ftK) (N := 6) hx hb hts inK hown hK hP 0 rfl rfl 3 (by decide) (hts _ mw63) (fun _ h9 => h9) rfl dK_removeRow_55 ?_
      refine lv_iload_n hx hb dK_removeRow_58 rfl (lv_at hl 0 rfl) ?_
      refine lv_aload_n hx hb dK_removeRow_59 rfl (lv_at hl 1 rfl) ?_
      refine va_get (D := D) (ci := 2) (v := .ref a4) (C := cnK) (T := ftK) (N := 6) hx hb hts inK hown hK hP 0 rfl rfl 3 (by decide) (hts _ mw63) (fun _ h9 => h9) rfl dK_removeRow_60 ?_
      refine lv_iload_n hx hb dK_removeRow_63 rfl (lv_at hl 0 rfl) ?_
      refine lv_iconst (v := 1) hx hb dK_removeRow_64 (by decide) ?_
      refine lv_iadd hx hb dK_removeRow_65 ?_
      refine kTop (y := (nI (i + 1))) (nI_1 _) ?_
      refine va_iald hx hb hK hP 4 0 rfl rfl (vp_in_nI (by omega) (by decide)) dK_removeRow_66 ?_
      refine kTop (y := (w (i + 1))) (by rw [nI_clamp (by omega)]) ?_
      refine va_iast hx hb hK hP hD hS 4 0 rfl rfl (vp_in_nI (by omega) (by decide)) dK_removeRow_67 (fun H locs hP hD hS => ?_)
      rw [show Int32.toNatClampNeg (nI i) = i from nI_clamp (by omega)] at hP hD
      have hP : va_P D vwCl [(ak, .inr (2, [.ref a1, .ref a2, .ref a3, .ref a4, .int (nI K.1), .int K.2.1])), (a1, .inl (cI, 10, .inl (upd h i (h (i + 1))))), (a2, .inl (cI, 10, .inl (upd u i (u (i + 1))))), (a3, .inl (cI, 10, .inl (upd v i (v (i + 1))))), (a4, .inl (cI, 10, .inl (upd w i (w (i + 1)))))] H := hP
      have hD : va_D A [(ak, .inr (2, [.ref a1, .ref a2, .ref a3, .ref a4, .int (nI K.1), .int K.2.1])), (a1, .inl (cI, 10, .inl (upd h i (h (i + 1))))), (a2, .inl (cI, 10, .inl (upd u i (u (i + 1))))), (a3, .inl (cI, 10, .inl (upd v i (v (i + 1))))), (a4, .inl (cI, 10, .inl (upd w i (w (i + 1)))))] := hD
      refine lv_iinc (k := 0) (v := (nI (i + 1))) hx hb dK_removeRow_68 hl rfl (kincN1 _) (by decide) rfl (fun ls hl => ?_)
      have hl : lv_has ls 3 [(2, .int (nI (i + 1))), (0, .ref ak), (1, .int (nI g1))] := hl
      refine lv_goto hx hb dK_removeRow_71 (tgt := 2) (by decide) ?_
      exact ih (i + 1) (upd h i (h (i + 1))) (upd u i (u (i + 1))) (upd v i (v (i + 1))) (upd w i (w (i + 1))) _ _ _ (by omega) (e1) (e2) (e3) (e4) (lv_sub hl [0, 1, 2] rfl) hP hD hS
  refine lv_iload_n hx hb dK_removeRow_0 rfl (lv_at hl 1 rfl) ?_
  refine lv_istore_n hx hb dK_removeRow_1 rfl hl (by decide) rfl (fun ls hl => ?_)
  have hl : lv_has ls 3 [(2, .int (nI g1)), (0, .ref ak), (1, .int (nI g1))] := hl
  exact L (K.1 - 1 - g1) g1 _ _ _ _ _ _ _ (by omega) rfl rfl rfl rfl (lv_sub hl [0, 1, 2] rfl) hP hD hS

theorem klt10 {n : Nat} (hn : n ≤ 10) (h : nI n < 10) : n < 10 := by
  have h2 : nI n < nI 10 := h
  rwa [nI_ltI (by omega) (by decide)] at h2

def zk_add (K : KS) (g1 : Int32) (g2 : Int32) (g3 : Int32) : Int32 × KS := (if (nI K.1) < 10 then ((K.2.1 + 1), ((K.1 + 1), (K.2.1 + 1), (upd K.2.2.1 K.1 (K.2.1 + 1)), (upd K.2.2.2.1 K.1 g1), (upd K.2.2.2.2.1 K.1 g2), (upd K.2.2.2.2.2 K.1 (if (g1 &&& 1) = 0 then g3 else ((-1) : Int32))))) else ((-6), K))

set_option maxHeartbeats 4000000 in
set_option maxRecDepth 100000 in
theorem kk_add (l : Launch) (D : va_G) (cI cZ : ClassId) (ak a1 a2 a3 a4 : Nat) (K : KS) (g1 : Int32) (g2 : Int32) (g3 : Int32) (hn : K.1 ≤ 10) : kI l yK_add wsK_add (rmOf 0 0) D (kT cI cZ) [.ref ak, .int g1, .int g2, .int g3] (wK cI ak a1 a2 a3 a4 K) (zk_add K g1 g2 g3).1 (wK cI ak a1 a2 a3 a4 ((zk_add K g1 g2 g3).2)) := by
  intro sz
  refine kOf (Qc := fun A => kQi D (kT cI cZ) A (zk_add K g1 g2 g3).1 (wK cI ak a1 a2 a3 a4 ((zk_add K g1 g2 g3).2))) (cc := cK_add) (maxL := 4) (ret := some .int) (by decide) rfl (Nat.le_of_ble_eq_true rfl) ?_ sz
  intro p e s m args below meth c A ls hx hb hml hown hts hNw hr hlk hin hA hS hP hD hK hl
  show W p l e (rmOf 0 0) s m args below meth c s.heap [] 0 0 (MQ below (kQi D (kT cI cZ) A (zk_add K g1 g2 g3).1 (wK cI ak a1 a2 a3 a4 ((zk_add K g1 g2 g3).2))) args s 0 0 A) (F0 m 0 ls [])
  have hts : ∀ q ∈ lw_g, q.before args s = true := fun q h => hts q (List.mem_cons_of_mem _ h)
  have hown : s.vm.findClass cnK = some m.cls := hown
  have hl : lv_has ls 4 [(0, .ref ak), (1, .int g1), (2, .int g2), (3, .int g3)] := hl
  have hP : va_P D vwCl [(ak, .inr (2, [.ref a1, .ref a2, .ref a3, .ref a4, .int (nI K.1), .int K.2.1])), (a1, .inl (cI, 10, .inl K.2.2.1)), (a2, .inl (cI, 10, .inl K.2.2.2.1)), (a3, .inl (cI, 10, .inl K.2.2.2.2.1)), (a4, .inl (cI, 10, .inl K.2.2.2.2.2))] s.heap := hP
  have hD : va_D A [(ak, .inr (2, [.ref a1, .ref a2, .ref a3, .ref a4, .int (nI K.1), .int K.2.1])), (a1, .inl (cI, 10, .inl K.2.2.1)), (a2, .inl (cI, 10, .inl K.2.2.2.1)), (a3, .inl (cI, 10, .inl K.2.2.2.2.1)), (a4, .inl (cI, 10, .inl K.2.2.2.2.2))] := hD
  refine lv_aload_n hx hb dK_add_0 rfl (lv_at hl 0 rfl) ?_
  refine va_get (D := D) (ci := 2) (v := .int (nI K.1)) (C := cnK) (T := ftK) (N := 6) hx hb hts inK hown hK hP 0 rfl rfl 4 (by decide) (hts _ mw64) (fun _ h9 => h9) rfl dK_add_1 ?_
  refine lv_bipush (v := 10) hx hb dK_add_4 (by decide) ?_
  refine lv_icmp_lt (tgt := 12) hx hb dK_add_6 (by decide) (fun h1 => ?_) (fun h1 => ?_)
  ·
    refine lv_aload_n hx hb dK_add_12 rfl (lv_at hl 0 rfl) ?_
    refine lv_dup hx hb dK_add_13 rfl ?_
    refine va_get (D := D) (ci := 2) (v := .int K.2.1) (C := cnK) (T := ftK) (N := 6) hx hb hts inK hown hK hP 0 rfl rfl 5 (by decide) (hts _ mw66) (fun _ h9 => h9) rfl dK_add_14 ?_
    refine lv_iconst (v := 1) hx hb dK_add_17 (by decide) ?_
    refine lv_iadd hx hb dK_add_18 ?_
    refine va_put (D := D) (ci := 2) (v := .int (K.2.1 + 1)) (ty := (.int)) (C := cnK) (T := ftK) (N := 6) hx hb hts inK tyK tyK_ok nmK hown hK hP hD hS 0 rfl rfl 5 (by decide) (hts _ mw66) (fun _ h9 => h9) rfl (by decide +kernel) rfl rfl (Nat.le_of_ble_eq_true rfl) dK_add_19 (fun H locs hP hD hS => ?_)
    have hP : va_P D vwCl [(ak, .inr (2, [.ref a1, .ref a2, .ref a3, .ref a4, .int (nI K.1), .int (K.2.1 + 1)])), (a1, .inl (cI, 10, .inl K.2.2.1)), (a2, .inl (cI, 10, .inl K.2.2.2.1)), (a3, .inl (cI, 10, .inl K.2.2.2.2.1)), (a4, .inl (cI, 10, .inl K.2.2.2.2.2))] H := hP
    have hD : va_D A [(ak, .inr (2, [.ref a1, .ref a2, .ref a3, .ref a4, .int (nI K.1), .int (K.2.1 + 1)])), (a1, .inl (cI, 10, .inl K.2.2.1)), (a2, .inl (cI, 10, .inl K.2.2.2.1)), (a3, .inl (cI, 10, .inl K.2.2.2.2.1)), (a4, .inl (cI, 10, .inl K.2.2.2.2.2))] := hD
    refine lv_aload_n hx hb dK_add_22 rfl (lv_at hl 0 rfl) ?_
    refine va_get (D := D) (ci := 2) (v := .ref a1) (C := cnK) (T := ftK) (N := 6) hx hb hts inK hown hK hP 0 rfl rfl 0 (by decide) (hts _ mw57) (fun _ h9 => h9) rfl dK_add_23 ?_
    refine lv_aload_n hx hb dK_add_26 rfl (lv_at hl 0 rfl) ?_
    refine va_get (D := D) (ci := 2) (v := .int (nI K.1)) (C := cnK) (T := ftK) (N := 6) hx hb hts inK hown hK hP 0 rfl rfl 4 (by decide) (hts _ mw64) (fun _ h9 => h9) rfl dK_add_27 ?_
    refine lv_aload_n hx hb dK_add_30 rfl (lv_at hl 0 rfl) ?_
    refine va_get (D := D) (ci := 2) (v := .int (K.2.1 + 1)) (C := cnK) (T := ftK) (N := 6) hx hb hts inK hown hK hP 0 rfl rfl 5 (by decide) (hts _ mw66) (fun _ h9 => h9) rfl dK_add_31 ?_
    refine va_iast hx hb hK hP hD hS 1 0 rfl rfl (vp_in_nI (klt10 hn h1) (by decide)) dK_add_34 (fun H locs hP hD hS => ?_)
    rw [show Int32.toNatClampNeg (nI K.1) = K.1 from nI_clamp (by omega)] at hP hD
    have hP : va_P D vwCl [(ak, .inr (2, [.ref a1, .ref a2, .ref a3, .ref a4, .int (nI K.1), .int (K.2.1 + 1)])), (a1, .inl (cI, 10, .inl (upd K.2.2.1 K.1 (K.2.1 + 1)))), (a2, .inl (cI, 10, .inl K.2.2.2.1)), (a3, .inl (cI, 10, .inl K.2.2.2.2.1)), (a4, .inl (cI, 10, .inl K.2.2.2.2.2))] H := hP
    have hD : va_D A [(ak, .inr (2, [.ref a1, .ref a2, .ref a3, .ref a4, .int (nI K.1), .int (K.2.1 + 1)])), (a1, .inl (cI, 10, .inl (upd K.2.2.1 K.1 (K.2.1 + 1)))), (a2, .inl (cI, 10, .inl K.2.2.2.1)), (a3, .inl (cI, 10, .inl K.2.2.2.2.1)), (a4, .inl (cI, 10, .inl K.2.2.2.2.2))] := hD
    refine lv_aload_n hx hb dK_add_35 rfl (lv_at hl 0 rfl) ?_
    refine va_get (D := D) (ci := 2) (v := .ref a2) (C := cnK) (T := ftK) (N := 6) hx hb hts inK hown hK hP 0 rfl rfl 1 (by decide) (hts _ mw59) (fun _ h9 => h9) rfl dK_add_36 ?_
    refine lv_aload_n hx hb dK_add_39 rfl (lv_at hl 0 rfl) ?_
    refine va_get (D := D) (ci := 2) (v := .int (nI K.1)) (C := cnK) (T := ftK) (N := 6) hx hb hts inK hown hK hP 0 rfl rfl 4 (by decide) (hts _ mw64) (fun _ h9 => h9) rfl dK_add_40 ?_
    refine lv_iload_n hx hb dK_add_43 rfl (lv_at hl 1 rfl) ?_
    refine va_iast hx hb hK hP hD hS 2 0 rfl rfl (vp_in_nI (klt10 hn h1) (by decide)) dK_add_44 (fun H locs hP hD hS => ?_)
    rw [show Int32.toNatClampNeg (nI K.1) = K.1 from nI_clamp (by omega)] at hP hD
    have hP : va_P D vwCl [(ak, .inr (2, [.ref a1, .ref a2, .ref a3, .ref a4, .int (nI K.1), .int (K.2.1 + 1)])), (a1, .inl (cI, 10, .inl (upd K.2.2.1 K.1 (K.2.1 + 1)))), (a2, .inl (cI, 10, .inl (upd K.2.2.2.1 K.1 g1))), (a3, .inl (cI, 10, .inl K.2.2.2.2.1)), (a4, .inl (cI, 10, .inl K.2.2.2.2.2))] H := hP
    have hD : va_D A [(ak, .inr (2, [.ref a1, .ref a2, .ref a3, .ref a4, .int (nI K.1), .int (K.2.1 + 1)])), (a1, .inl (cI, 10, .inl (upd K.2.2.1 K.1 (K.2.1 + 1)))), (a2, .inl (cI, 10, .inl (upd K.2.2.2.1 K.1 g1))), (a3, .inl (cI, 10, .inl K.2.2.2.2.1)), (a4, .inl (cI, 10, .inl K.2.2.2.2.2))] := hD
    refine lv_aload_n hx hb dK_add_45 rfl (lv_at hl 0 rfl) ?_
    refine va_get (D := D) (ci := 2) (v := .ref a3) (C := cnK) (T := ftK) (N := 6) hx hb hts inK hown hK hP 0 rfl rfl 2 (by decide) (hts _ mw61) (fun _ h9 => h9) rfl dK_add_46 ?_
    refine lv_aload_n hx hb dK_add_49 rfl (lv_at hl 0 rfl) ?_
    refine va_get (D := D) (ci := 2) (v := .int (nI K.1)) (C := cnK) (T := ftK) (N := 6) hx hb hts inK hown hK hP 0 rfl rfl 4 (by decide) (hts _ mw64) (fun _ h9 => h9) rfl dK_add_50 ?_
    refine lv_iload_n hx hb dK_add_53 rfl (lv_at hl 2 rfl) ?_
    refine va_iast hx hb hK hP hD hS 3 0 rfl rfl (vp_in_nI (klt10 hn h1) (by decide)) dK_add_54 (fun H locs hP hD hS => ?_)
    rw [show Int32.toNatClampNeg (nI K.1) = K.1 from nI_clamp (by omega)] at hP hD
    have hP : va_P D vwCl [(ak, .inr (2, [.ref a1, .ref a2, .ref a3, .ref a4, .int (nI K.1), .int (K.2.1 + 1)])), (a1, .inl (cI, 10, .inl (upd K.2.2.1 K.1 (K.2.1 + 1)))), (a2, .inl (cI, 10, .inl (upd K.2.2.2.1 K.1 g1))), (a3, .inl (cI, 10, .inl (upd K.2.2.2.2.1 K.1 g2))), (a4, .inl (cI, 10, .inl K.2.2.2.2.2))] H := hP
    have hD : va_D A [(ak, .inr (2, [.ref a1, .ref a2, .ref a3, .ref a4, .int (nI K.1), .int (K.2.1 + 1)])), (a1, .inl (cI, 10, .inl (upd K.2.2.1 K.1 (K.2.1 + 1)))), (a2, .inl (cI, 10, .inl (upd K.2.2.2.1 K.1 g1))), (a3, .inl (cI, 10, .inl (upd K.2.2.2.2.1 K.1 g2))), (a4, .inl (cI, 10, .inl K.2.2.2.2.2))] := hD
    refine lv_aload_n hx hb dK_add_55 rfl (lv_at hl 0 rfl) ?_
    refine va_get (D := D) (ci := 2) (v := .ref a4) (C := cnK) (T := ftK) (N := 6) hx hb hts inK hown hK hP 0 rfl rfl 3 (by decide) (hts _ mw63) (fun _ h9 => h9) rfl dK_add_56 ?_
    refine lv_aload_n hx hb dK_add_59 rfl (lv_at hl 0 rfl) ?_
    refine va_get (D := D) (ci := 2) (v := .int (nI K.1)) (C := cnK) (T := ftK) (N := 6) hx hb hts inK hown hK hP 0 rfl rfl 4 (by decide) (hts _ mw64) (fun _ h9 => h9) rfl dK_add_60 ?_
    refine lv_iload_n hx hb dK_add_63 rfl (lv_at hl 1 rfl) ?_
    refine lv_iconst (v := 1) hx hb dK_add_64 (by decide) ?_
    refine lv_iand hx hb dK_add_65 ?_
    refine kJoin (pcJ := 74) (z := (if (g1 &&& 1) = 0 then g3 else ((-1) : Int32))) (ws := [(ak, .inr (2, [.ref a1, .ref a2, .ref a3, .ref a4, .int (nI K.1), .int (K.2.1 + 1)])), (a1, .inl (cI, 10, .inl (upd K.2.2.1 K.1 (K.2.1 + 1)))), (a2, .inl (cI, 10, .inl (upd K.2.2.2.1 K.1 g1))), (a3, .inl (cI, 10, .inl (upd K.2.2.2.2.1 K.1 g2))), (a4, .inl (cI, 10, .inl K.2.2.2.2.2))]) (rest := [.int (nI K.1), .ref a4]) (D := D) (A := A) (H0 := s.heap) (fun J74 => ?_) (fun H locs hP hD hS => ?_)
    ·
      refine lv_if_eq (tgt := 73) hx hb dK_add_66 (by decide) (fun h2 => ?_) (fun h2 => ?_)
      ·
        refine lv_iload_n hx hb dK_add_73 rfl (lv_at hl 3 rfl) ?_
        exact J74 _ _ hP hD hS _ ((if_pos h2).symm)
      ·
        refine lv_iconst (v := (-1)) hx hb dK_add_69 (by decide) ?_
        refine lv_goto hx hb dK_add_70 (tgt := 74) (by decide) ?_
        exact J74 _ _ hP hD hS _ ((if_neg h2).symm)
    refine va_iast hx hb hK hP hD hS 4 0 rfl rfl (vp_in_nI (klt10 hn h1) (by decide)) dK_add_74 (fun H locs hP hD hS => ?_)
    rw [show Int32.toNatClampNeg (nI K.1) = K.1 from nI_clamp (by omega)] at hP hD
    have hP : va_P D vwCl [(ak, .inr (2, [.ref a1, .ref a2, .ref a3, .ref a4, .int (nI K.1), .int (K.2.1 + 1)])), (a1, .inl (cI, 10, .inl (upd K.2.2.1 K.1 (K.2.1 + 1)))), (a2, .inl (cI, 10, .inl (upd K.2.2.2.1 K.1 g1))), (a3, .inl (cI, 10, .inl (upd K.2.2.2.2.1 K.1 g2))), (a4, .inl (cI, 10, .inl (upd K.2.2.2.2.2 K.1 (if (g1 &&& 1) = 0 then g3 else ((-1) : Int32)))))] H := hP
    have hD : va_D A [(ak, .inr (2, [.ref a1, .ref a2, .ref a3, .ref a4, .int (nI K.1), .int (K.2.1 + 1)])), (a1, .inl (cI, 10, .inl (upd K.2.2.1 K.1 (K.2.1 + 1)))), (a2, .inl (cI, 10, .inl (upd K.2.2.2.1 K.1 g1))), (a3, .inl (cI, 10, .inl (upd K.2.2.2.2.1 K.1 g2))), (a4, .inl (cI, 10, .inl (upd K.2.2.2.2.2 K.1 (if (g1 &&& 1) = 0 then g3 else ((-1) : Int32)))))] := hD
    refine lv_aload_n hx hb dK_add_75 rfl (lv_at hl 0 rfl) ?_
    refine lv_dup hx hb dK_add_76 rfl ?_
    refine va_get (D := D) (ci := 2) (v := .int (nI K.1)) (C := cnK) (T := ftK) (N := 6) hx hb hts inK hown hK hP 0 rfl rfl 4 (by decide) (hts _ mw64) (fun _ h9 => h9) rfl dK_add_77 ?_
    refine lv_iconst (v := 1) hx hb dK_add_80 (by decide) ?_
    refine lv_iadd hx hb dK_add_81 ?_
    refine kTop (y := (nI (K.1 + 1))) (nI_1 _) ?_
    refine va_put (D := D) (ci := 2) (v := .int (nI (K.1 + 1))) (ty := (.int)) (C := cnK) (T := ftK) (N := 6) hx hb hts inK tyK tyK_ok nmK hown hK hP hD hS 0 rfl rfl 4 (by decide) (hts _ mw64) (fun _ h9 => h9) rfl (by decide +kernel) rfl rfl (Nat.le_of_ble_eq_true rfl) dK_add_82 (fun H locs hP hD hS => ?_)
    have hP : va_P D vwCl [(ak, .inr (2, [.ref a1, .ref a2, .ref a3, .ref a4, .int (nI (K.1 + 1)), .int (K.2.1 + 1)])), (a1, .inl (cI, 10, .inl (upd K.2.2.1 K.1 (K.2.1 + 1)))), (a2, .inl (cI, 10, .inl (upd K.2.2.2.1 K.1 g1))), (a3, .inl (cI, 10, .inl (upd K.2.2.2.2.1 K.1 g2))), (a4, .inl (cI, 10, .inl (upd K.2.2.2.2.2 K.1 (if (g1 &&& 1) = 0 then g3 else ((-1) : Int32)))))] H := hP
    have hD : va_D A [(ak, .inr (2, [.ref a1, .ref a2, .ref a3, .ref a4, .int (nI (K.1 + 1)), .int (K.2.1 + 1)])), (a1, .inl (cI, 10, .inl (upd K.2.2.1 K.1 (K.2.1 + 1)))), (a2, .inl (cI, 10, .inl (upd K.2.2.2.1 K.1 g1))), (a3, .inl (cI, 10, .inl (upd K.2.2.2.2.1 K.1 g2))), (a4, .inl (cI, 10, .inl (upd K.2.2.2.2.2 K.1 (if (g1 &&& 1) = 0 then g3 else ((-1) : Int32)))))] := hD
    refine lv_aload_n hx hb dK_add_85 rfl (lv_at hl 0 rfl) ?_
    refine va_get (D := D) (ci := 2) (v := .int (K.2.1 + 1)) (C := cnK) (T := ftK) (N := 6) hx hb hts inK hown hK hP 0 rfl rfl 5 (by decide) (hts _ mw66) (fun _ h9 => h9) rfl dK_add_86 ?_
    exact kretI (wf := fun st => wK cI ak a1 a2 a3 a4 st) (st := ((K.1 + 1), (K.2.1 + 1), (upd K.2.2.1 K.1 (K.2.1 + 1)), (upd K.2.2.2.1 K.1 g1), (upd K.2.2.2.2.1 K.1 g2), (upd K.2.2.2.2.2 K.1 (if (g1 &&& 1) = 0 then g3 else ((-1) : Int32))))) (by first | (rw [zk_add, if_pos h1]; done) | exact (if_pos h1)) hx hb hr hlk hS hP hD hK dK_add_89
  ·
    refine lv_bipush (v := (-6)) hx hb dK_add_9 (by decide) ?_
    exact kretI (wf := fun st => wK cI ak a1 a2 a3 a4 st) (st := K) (by first | (rw [zk_add, if_neg h1]; done) | exact (if_neg h1)) hx hb hr hlk hS hP hD hK dK_add_11

def zk_rob (g1 : Int32) : Nat → KS → KS
  | 0, K => K
  | f + 1, K => zk_rob g1 f (if K.2.2.2.2.2 f = g1 then zk_removeRow K f else K)
def zk_removeOwnedBy (K : KS) (g1 : Int32) : KS := zk_rob g1 K.1 K
def zk_rps : Nat → KS → KS
  | 0, K => K
  | f + 1, K => zk_rps f (if zk_has K (nI f) 2 = 0 then K else if zk_has K (nI f) 1 = 0 then zk_removeRow K f else K)
def zk_removePrivate (K : KS) : KS := zk_rps K.1 K

set_option maxHeartbeats 4000000 in
set_option maxRecDepth 100000 in
theorem kk_removeOwnedBy (l : Launch) (D : va_G) (cI cZ : ClassId) (ak a1 a2 a3 a4 : Nat) (K : KS) (g1 : Int32) (hn : K.1 ≤ 10) : kV l yK_removeOwnedBy wsK_removeOwnedBy (rmOf 1 22) D (kT cI cZ) [.ref ak, .int g1] (wK cI ak a1 a2 a3 a4 K) (wK cI ak a1 a2 a3 a4 (zk_removeOwnedBy K g1)) := by
  intro sz
  refine kOf (Qc := fun A => kQv D (kT cI cZ) A (wK cI ak a1 a2 a3 a4 (zk_removeOwnedBy K g1))) (cc := cK_removeOwnedBy) (maxL := 3) (ret := none) (by decide) rfl (Nat.le_of_ble_eq_true rfl) ?_ sz
  intro p e s m args below meth c A ls hx hb hml hown hts hNw hr hlk hin hA hS hP hD hK hl
  show W p l e (rmOf 1 22) s m args below meth c s.heap [] 0 0 (MQ below (kQv D (kT cI cZ) A (wK cI ak a1 a2 a3 a4 (zk_removeOwnedBy K g1))) args s 0 0 A) (F0 m 0 ls [])
  have hts : ∀ q ∈ lw_g, q.before args s = true := fun q h => hts q (List.mem_cons_of_mem _ h)
  have hown : s.vm.findClass cnK = some m.cls := hown
  have hl : lv_has ls 3 [(0, .ref ak), (1, .int g1)] := hl
  have hP : va_P D vwCl [(ak, .inr (2, [.ref a1, .ref a2, .ref a3, .ref a4, .int (nI K.1), .int K.2.1])), (a1, .inl (cI, 10, .inl K.2.2.1)), (a2, .inl (cI, 10, .inl K.2.2.2.1)), (a3, .inl (cI, 10, .inl K.2.2.2.2.1)), (a4, .inl (cI, 10, .inl K.2.2.2.2.2))] s.heap := hP
  have hD : va_D A [(ak, .inr (2, [.ref a1, .ref a2, .ref a3, .ref a4, .int (nI K.1), .int K.2.1])), (a1, .inl (cI, 10, .inl K.2.2.1)), (a2, .inl (cI, 10, .inl K.2.2.2.1)), (a3, .inl (cI, 10, .inl K.2.2.2.2.1)), (a4, .inl (cI, 10, .inl K.2.2.2.2.2))] := hD
  have L : ∀ (f : Nat) (G : KS) (ls : Array Slot) (H : Heap) (locs : List Loc), (f ≤ G.1) → (G.1 ≤ 10) → (zk_removeOwnedBy K g1 = zk_rob g1 f G) → lv_has ls 3 [(2, .int ((nI f) - 1)), (0, .ref ak), (1, .int g1)] → va_P D vwCl [(ak, .inr (2, [.ref a1, .ref a2, .ref a3, .ref a4, .int (nI G.1), .int G.2.1])), (a1, .inl (cI, 10, .inl G.2.2.1)), (a2, .inl (cI, 10, .inl G.2.2.2.1)), (a3, .inl (cI, 10, .inl G.2.2.2.2.1)), (a4, .inl (cI, 10, .inl G.2.2.2.2.2))] H → va_D A [(ak, .inr (2, [.ref a1, .ref a2, .ref a3, .ref a4, .int (nI G.1), .int G.2.1])), (a1, .inl (cI, 10, .inl G.2.2.1)), (a2, .inl (cI, 10, .inl G.2.2.2.1)), (a3, .inl (cI, 10, .inl G.2.2.2.2.1)), (a4, .inl (cI, 10, .inl G.2.2.2.2.2))] → va_S A s.heap H locs → W p l e (rmOf 1 22) s m args below meth c H locs 0 0 (MQ below (kQv D (kT cI cZ) A (wK cI ak a1 a2 a3 a4 (zk_removeOwnedBy K g1))) args s 0 0 A) (F0 m 7 ls []) := by
    intro f
    induction f with
    | zero =>
      intro G ls H locs hG hT he hl hP hD hS
      refine lv_iload_n hx hb dK_removeOwnedBy_7 rfl (lv_at hl 0 rfl) ?_
      refine lv_if_lt (tgt := 32) hx hb dK_removeOwnedBy_8 (by decide) (fun _ => ?_) (fun h => absurd (by decide) h)
      exact kretV (wf := fun st => wK cI ak a1 a2 a3 a4 st) (st := G) (he) hx hb hr hlk hS hP hD hK dK_removeOwnedBy_32
    | succ f ih =>
      intro G ls H locs hG hT he hl hP hD hS
      have hl : lv_has ls 3 [(2, .int (nI f)), (0, .ref ak), (1, .int g1)] := by rw [← nI_pred f]; exact hl
      refine lv_iload_n hx hb dK_removeOwnedBy_7 rfl (lv_at hl 0 rfl) ?_
      refine lv_if_lt (tgt := 32) hx hb dK_removeOwnedBy_8 (by decide) (fun h => absurd h (nI_pos (by omega))) (fun _ => ?_)
      refine lv_aload_n hx hb dK_removeOwnedBy_11 rfl (lv_at hl 1 rfl) ?_
      refine va_get (D := D) (ci := 2) (v := .ref a4) (C := cnK) (T := ftK) (N := 6) hx hb hts inK hown hK hP 0 rfl rfl 3 (by decide) (hts _ mw63) (fun _ h9 => h9) rfl dK_removeOwnedBy_12 ?_
      refine lv_iload_n hx hb dK_removeOwnedBy_15 rfl (lv_at hl 0 rfl) ?_
      refine va_iald hx hb hK hP 4 0 rfl rfl (vp_in_nI (by omega) (by decide)) dK_removeOwnedBy_16 ?_
      refine kTop (y := (G.2.2.2.2.2 f)) (by rw [nI_clamp (by omega)]) ?_
      refine lv_iload_n hx hb dK_removeOwnedBy_17 rfl (lv_at hl 2 rfl) ?_
      refine lv_icmp_ne (tgt := 26) hx hb dK_removeOwnedBy_18 (by decide) (fun h1 => ?_) (fun h1 => ?_)
      ·
        refine lv_iinc (k := 0) (v := ((nI f) - 1)) hx hb dK_removeOwnedBy_26 hl rfl (kincm1 _) (by decide) rfl (fun ls hl => ?_)
        have hl : lv_has ls 3 [(2, .int ((nI f) - 1)), (0, .ref ak), (1, .int g1)] := hl
        refine lv_goto hx hb dK_removeOwnedBy_29 (tgt := 7) (by decide) ?_
        exact ih G _ _ _ (by omega) (hT) (by rw [he, zk_rob, if_neg h1]) (lv_sub hl [0, 1, 2] rfl) hP hD hS
      ·
        refine lv_aload_n hx hb dK_removeOwnedBy_21 rfl (lv_at hl 1 rfl) ?_
        refine lv_iload_n hx hb dK_removeOwnedBy_22 rfl (lv_at hl 0 rfl) ?_
        refine kcV (isR := []) (isC := [0, 1, 2, 3, 4]) (wr := []) (w2 := [(ak, .inr (2, [.ref a1, .ref a2, .ref a3, .ref a4, .int (nI (zk_removeRow G f).1), .int ((zk_removeRow G f).2.1)])), (a1, .inl (cI, 10, .inl ((zk_removeRow G f).2.2.1))), (a2, .inl (cI, 10, .inl ((zk_removeRow G f).2.2.2.1))), (a3, .inl (cI, 10, .inl ((zk_removeRow G f).2.2.2.2.1))), (a4, .inl (cI, 10, .inl ((zk_removeRow G f).2.2.2.2.2)))]) (va_runV (As := [.int (nI f)]) (rest := []) ⟨hx, hb, hml, hown, hts⟩ (kk_removeRow l D cI cZ ak a1 a2 a3 a4 G f (hT) (by omega) _) ⟨(callB_of 1 hts gd_yK_removeRow rfl rfl rfl (hts _ mw26) (hts _ mw120) (by decide +kernel) ⟨Nat.le_of_ble_eq_true rfl, Nat.le_of_ble_eq_true rfl⟩), hts _ mw122, hts _ mw2⟩ (kpreV hNw hP hD hK [0, 1, 2, 3, 4] rfl (by decide) 0 rfl (ci := 2) rfl) rfl rfl hl.1 rfl (lv_room (Nat.le_of_ble_eq_true rfl)) dK_removeOwnedBy_23 ⟨Nat.le_of_ble_eq_true rfl, Nat.le_of_ble_eq_true rfl⟩) hP hD hS hA [0, 1, 2, 3, 4] rfl rfl (by decide) (by decide) (by decide) rfl (fun H locs hP hD hS => ?_)
        refine lv_iinc (k := 0) (v := ((nI f) - 1)) hx hb dK_removeOwnedBy_26 hl rfl (kincm1 _) (by decide) rfl (fun ls hl => ?_)
        have hl : lv_has ls 3 [(2, .int ((nI f) - 1)), (0, .ref ak), (1, .int g1)] := hl
        refine lv_goto hx hb dK_removeOwnedBy_29 (tgt := 7) (by decide) ?_
        exact ih (zk_removeRow G f) _ _ _ (by show f ≤ G.1 - 1; omega) (by show G.1 - 1 ≤ 10; omega) (by rw [he, zk_rob, if_pos h1]) (lv_sub hl [0, 1, 2] rfl) hP hD hS
  refine lv_aload_n hx hb dK_removeOwnedBy_0 rfl (lv_at hl 0 rfl) ?_
  refine va_get (D := D) (ci := 2) (v := .int (nI K.1)) (C := cnK) (T := ftK) (N := 6) hx hb hts inK hown hK hP 0 rfl rfl 4 (by decide) (hts _ mw64) (fun _ h9 => h9) rfl dK_removeOwnedBy_1 ?_
  refine lv_iconst (v := 1) hx hb dK_removeOwnedBy_4 (by decide) ?_
  refine lv_isub hx hb dK_removeOwnedBy_5 ?_
  refine lv_istore_n hx hb dK_removeOwnedBy_6 rfl hl (by decide) rfl (fun ls hl => ?_)
  have hl : lv_has ls 3 [(2, .int ((nI K.1) - 1)), (0, .ref ak), (1, .int g1)] := hl
  exact L K.1 K _ _ _ (Nat.le_refl _) hn rfl hl hP hD hS

set_option maxHeartbeats 4000000 in
set_option maxRecDepth 100000 in
theorem kk_removePrivate (l : Launch) (D : va_G) (cI cZ : ClassId) (ak a1 a2 a3 a4 : Nat) (K : KS) (hn : K.1 ≤ 10) : kV l yK_removePrivateSessionKeys wsK_removePrivateSessionKeys (rmOf 1 22) D (kT cI cZ) [.ref ak] (wK cI ak a1 a2 a3 a4 K) (wK cI ak a1 a2 a3 a4 (zk_removePrivate K)) := by
  intro sz
  refine kOf (Qc := fun A => kQv D (kT cI cZ) A (wK cI ak a1 a2 a3 a4 (zk_removePrivate K))) (cc := cK_removePrivateSessionKeys) (maxL := 2) (ret := none) (by decide) rfl (Nat.le_of_ble_eq_true rfl) ?_ sz
  intro p e s m args below meth c A ls hx hb hml hown hts hNw hr hlk hin hA hS hP hD hK hl
  show W p l e (rmOf 1 22) s m args below meth c s.heap [] 0 0 (MQ below (kQv D (kT cI cZ) A (wK cI ak a1 a2 a3 a4 (zk_removePrivate K))) args s 0 0 A) (F0 m 0 ls [])
  have hts : ∀ q ∈ lw_g, q.before args s = true := fun q h => hts q (List.mem_cons_of_mem _ h)
  have hown : s.vm.findClass cnK = some m.cls := hown
  have hl : lv_has ls 2 [(0, .ref ak)] := hl
  have hP : va_P D vwCl [(ak, .inr (2, [.ref a1, .ref a2, .ref a3, .ref a4, .int (nI K.1), .int K.2.1])), (a1, .inl (cI, 10, .inl K.2.2.1)), (a2, .inl (cI, 10, .inl K.2.2.2.1)), (a3, .inl (cI, 10, .inl K.2.2.2.2.1)), (a4, .inl (cI, 10, .inl K.2.2.2.2.2))] s.heap := hP
  have hD : va_D A [(ak, .inr (2, [.ref a1, .ref a2, .ref a3, .ref a4, .int (nI K.1), .int K.2.1])), (a1, .inl (cI, 10, .inl K.2.2.1)), (a2, .inl (cI, 10, .inl K.2.2.2.1)), (a3, .inl (cI, 10, .inl K.2.2.2.2.1)), (a4, .inl (cI, 10, .inl K.2.2.2.2.2))] := hD
  have L : ∀ (f : Nat) (G : KS) (ls : Array Slot) (H : Heap) (locs : List Loc), (f ≤ G.1) → (G.1 ≤ 10) → (zk_removePrivate K = zk_rps f G) → lv_has ls 2 [(1, .int ((nI f) - 1)), (0, .ref ak)] → va_P D vwCl [(ak, .inr (2, [.ref a1, .ref a2, .ref a3, .ref a4, .int (nI G.1), .int G.2.1])), (a1, .inl (cI, 10, .inl G.2.2.1)), (a2, .inl (cI, 10, .inl G.2.2.2.1)), (a3, .inl (cI, 10, .inl G.2.2.2.2.1)), (a4, .inl (cI, 10, .inl G.2.2.2.2.2))] H → va_D A [(ak, .inr (2, [.ref a1, .ref a2, .ref a3, .ref a4, .int (nI G.1), .int G.2.1])), (a1, .inl (cI, 10, .inl G.2.2.1)), (a2, .inl (cI, 10, .inl G.2.2.2.1)), (a3, .inl (cI, 10, .inl G.2.2.2.2.1)), (a4, .inl (cI, 10, .inl G.2.2.2.2.2))] → va_S A s.heap H locs → W p l e (rmOf 1 22) s m args below meth c H locs 0 0 (MQ below (kQv D (kT cI cZ) A (wK cI ak a1 a2 a3 a4 (zk_removePrivate K))) args s 0 0 A) (F0 m 7 ls []) := by
    intro f
    induction f with
    | zero =>
      intro G ls H locs hG hT he hl hP hD hS
      refine lv_iload_n hx hb dK_removePrivateSessionKeys_7 rfl (lv_at hl 0 rfl) ?_
      refine lv_if_lt (tgt := 40) hx hb dK_removePrivateSessionKeys_8 (by decide) (fun _ => ?_) (fun h => absurd (by decide) h)
      exact kretV (wf := fun st => wK cI ak a1 a2 a3 a4 st) (st := G) (he) hx hb hr hlk hS hP hD hK dK_removePrivateSessionKeys_40
    | succ f ih =>
      intro G ls H locs hG hT he hl hP hD hS
      have hl : lv_has ls 2 [(1, .int (nI f)), (0, .ref ak)] := by rw [← nI_pred f]; exact hl
      refine lv_iload_n hx hb dK_removePrivateSessionKeys_7 rfl (lv_at hl 0 rfl) ?_
      refine lv_if_lt (tgt := 40) hx hb dK_removePrivateSessionKeys_8 (by decide) (fun h => absurd h (nI_pos (by omega))) (fun _ => ?_)
      refine lv_aload_n hx hb dK_removePrivateSessionKeys_11 rfl (lv_at hl 1 rfl) ?_
      refine lv_iload_n hx hb dK_removePrivateSessionKeys_12 rfl (lv_at hl 0 rfl) ?_
      refine lv_iconst (v := 2) hx hb dK_removePrivateSessionKeys_13 (by decide) ?_
      refine kcI (isR := []) (isC := [0, 1, 2, 3, 4]) (wr := []) (w2 := [(ak, .inr (2, [.ref a1, .ref a2, .ref a3, .ref a4, .int (nI G.1), .int G.2.1])), (a1, .inl (cI, 10, .inl G.2.2.1)), (a2, .inl (cI, 10, .inl G.2.2.2.1)), (a3, .inl (cI, 10, .inl G.2.2.2.2.1)), (a4, .inl (cI, 10, .inl G.2.2.2.2.2))]) (va_runV (As := [.int (nI f), .int 2]) (rest := []) ⟨hx, hb, hml, hown, hts⟩ (kk_has l D cI cZ ak a1 a2 a3 a4 G (nI f) 2 (hT) _) ⟨(callB_of 2 hts gd_yK_has rfl rfl rfl (hts _ mw26) (hts _ mw140) (by decide +kernel) ⟨Nat.le_of_ble_eq_true rfl, Nat.le_of_ble_eq_true rfl⟩), hts _ mw142, hts _ mw5⟩ (kpreV hNw hP hD hK [0, 1, 2, 3, 4] rfl (by decide) 0 rfl (ci := 2) rfl) rfl rfl hl.1 rfl (lv_room (Nat.le_of_ble_eq_true rfl)) dK_removePrivateSessionKeys_14 ⟨Nat.le_of_ble_eq_true rfl, Nat.le_of_ble_eq_true rfl⟩) hP hD hS hA [0, 1, 2, 3, 4] rfl rfl (by decide) (by decide) (by decide) rfl (fun H locs hP hD hS => ?_)
      refine lv_if_eq (tgt := 34) hx hb dK_removePrivateSessionKeys_17 (by decide) (fun h1 => ?_) (fun h1 => ?_)
      ·
        refine lv_iinc (k := 0) (v := ((nI f) - 1)) hx hb dK_removePrivateSessionKeys_34 hl rfl (kincm1 _) (by decide) rfl (fun ls hl => ?_)
        have hl : lv_has ls 2 [(1, .int ((nI f) - 1)), (0, .ref ak)] := hl
        refine lv_goto hx hb dK_removePrivateSessionKeys_37 (tgt := 7) (by decide) ?_
        exact ih G _ _ _ (by omega) (hT) (by rw [he, zk_rps, if_pos h1]) (lv_sub hl [0, 1] rfl) hP hD hS
      ·
        refine lv_aload_n hx hb dK_removePrivateSessionKeys_20 rfl (lv_at hl 1 rfl) ?_
        refine lv_iload_n hx hb dK_removePrivateSessionKeys_21 rfl (lv_at hl 0 rfl) ?_
        refine lv_iconst (v := 1) hx hb dK_removePrivateSessionKeys_22 (by decide) ?_
        refine kcI (isR := []) (isC := [0, 1, 2, 3, 4]) (wr := []) (w2 := [(ak, .inr (2, [.ref a1, .ref a2, .ref a3, .ref a4, .int (nI G.1), .int G.2.1])), (a1, .inl (cI, 10, .inl G.2.2.1)), (a2, .inl (cI, 10, .inl G.2.2.2.1)), (a3, .inl (cI, 10, .inl G.2.2.2.2.1)), (a4, .inl (cI, 10, .inl G.2.2.2.2.2))]) (va_runV (As := [.int (nI f), .int 1]) (rest := []) ⟨hx, hb, hml, hown, hts⟩ (kk_has l D cI cZ ak a1 a2 a3 a4 G (nI f) 1 (hT) _) ⟨(callB_of 2 hts gd_yK_has rfl rfl rfl (hts _ mw26) (hts _ mw140) (by decide +kernel) ⟨Nat.le_of_ble_eq_true rfl, Nat.le_of_ble_eq_true rfl⟩), hts _ mw142, hts _ mw5⟩ (kpreV hNw hP hD hK [0, 1, 2, 3, 4] rfl (by decide) 0 rfl (ci := 2) rfl) rfl rfl hl.1 rfl (lv_room (Nat.le_of_ble_eq_true rfl)) dK_removePrivateSessionKeys_23 ⟨Nat.le_of_ble_eq_true rfl, Nat.le_of_ble_eq_true rfl⟩) hP hD hS hA [0, 1, 2, 3, 4] rfl rfl (by decide) (by decide) (by decide) rfl (fun H locs hP hD hS => ?_)
        refine lv_if_ne (tgt := 34) hx hb dK_removePrivateSessionKeys_26 (by decide) (fun h2 => ?_) (fun h2 => ?_)
        ·
          refine lv_iinc (k := 0) (v := ((nI f) - 1)) hx hb dK_removePrivateSessionKeys_34 hl rfl (kincm1 _) (by decide) rfl (fun ls hl => ?_)
          have hl : lv_has ls 2 [(1, .int ((nI f) - 1)), (0, .ref ak)] := hl
          refine lv_goto hx hb dK_removePrivateSessionKeys_37 (tgt := 7) (by decide) ?_
          exact ih G _ _ _ (by omega) (hT) (by rw [he, zk_rps, if_neg h1, if_neg h2]) (lv_sub hl [0, 1] rfl) hP hD hS
        ·
          refine lv_aload_n hx hb dK_removePrivateSessionKeys_29 rfl (lv_at hl 1 rfl) ?_
          refine lv_iload_n hx hb dK_removePrivateSessionKeys_30 rfl (lv_at hl 0 rfl) ?_
          refine kcV (isR := []) (isC := [0, 1, 2, 3, 4]) (wr := []) (w2 := [(ak, .inr (2, [.ref a1, .ref a2, .ref a3, .ref a4, .int (nI (zk_removeRow G f).1), .int ((zk_removeRow G f).2.1)])), (a1, .inl (cI, 10, .inl ((zk_removeRow G f).2.2.1))), (a2, .inl (cI, 10, .inl ((zk_removeRow G f).2.2.2.1))), (a3, .inl (cI, 10, .inl ((zk_removeRow G f).2.2.2.2.1))), (a4, .inl (cI, 10, .inl ((zk_removeRow G f).2.2.2.2.2)))]) (va_runV (As := [.int (nI f)]) (rest := []) ⟨hx, hb, hml, hown, hts⟩ (kk_removeRow l D cI cZ ak a1 a2 a3 a4 G f (hT) (by omega) _) ⟨(callB_of 1 hts gd_yK_removeRow rfl rfl rfl (hts _ mw26) (hts _ mw120) (by decide +kernel) ⟨Nat.le_of_ble_eq_true rfl, Nat.le_of_ble_eq_true rfl⟩), hts _ mw122, hts _ mw2⟩ (kpreV hNw hP hD hK [0, 1, 2, 3, 4] rfl (by decide) 0 rfl (ci := 2) rfl) rfl rfl hl.1 rfl (lv_room (Nat.le_of_ble_eq_true rfl)) dK_removePrivateSessionKeys_31 ⟨Nat.le_of_ble_eq_true rfl, Nat.le_of_ble_eq_true rfl⟩) hP hD hS hA [0, 1, 2, 3, 4] rfl rfl (by decide) (by decide) (by decide) rfl (fun H locs hP hD hS => ?_)
          refine lv_iinc (k := 0) (v := ((nI f) - 1)) hx hb dK_removePrivateSessionKeys_34 hl rfl (kincm1 _) (by decide) rfl (fun ls hl => ?_)
          have hl : lv_has ls 2 [(1, .int ((nI f) - 1)), (0, .ref ak)] := hl
          refine lv_goto hx hb dK_removePrivateSessionKeys_37 (tgt := 7) (by decide) ?_
          exact ih (zk_removeRow G f) _ _ _ (by show f ≤ G.1 - 1; omega) (by show G.1 - 1 ≤ 10; omega) (by rw [he, zk_rps, if_neg h1, if_pos h2]) (lv_sub hl [0, 1] rfl) hP hD hS
  refine lv_aload_n hx hb dK_removePrivateSessionKeys_0 rfl (lv_at hl 0 rfl) ?_
  refine va_get (D := D) (ci := 2) (v := .int (nI K.1)) (C := cnK) (T := ftK) (N := 6) hx hb hts inK hown hK hP 0 rfl rfl 4 (by decide) (hts _ mw64) (fun _ h9 => h9) rfl dK_removePrivateSessionKeys_1 ?_
  refine lv_iconst (v := 1) hx hb dK_removePrivateSessionKeys_4 (by decide) ?_
  refine lv_isub hx hb dK_removePrivateSessionKeys_5 ?_
  refine lv_istore_n hx hb dK_removePrivateSessionKeys_6 rfl hl (by decide) rfl (fun ls hl => ?_)
  have hl : lv_has ls 2 [(1, .int ((nI K.1) - 1)), (0, .ref ak)] := hl
  exact L K.1 K _ _ _ (Nat.le_refl _) hn rfl hl hP hD hS
end
section
def zr_tryPin (r : RS) (g1 : Int32) : Int32 × RS := (if r.2 < 3 then (if g1 = r.1 then (0, (r.1, 0)) else ((-9), (r.1, (r.2 + 1)))) else ((-8), r))

set_option maxHeartbeats 4000000 in
set_option maxRecDepth 100000 in
theorem kr_tryPin (l : Launch) (D : va_G) (cI cZ : ClassId) (ra : Nat) (r : RS) (g1 : Int32) : kI l yR_tryPin wsR_tryPin (rmOf 0 0) D (kT cI cZ) [.ref ra, .int g1] (wR ra r) (zr_tryPin r g1).1 (wR ra ((zr_tryPin r g1).2)) := by
  intro sz
  refine kOf (Qc := fun A => kQi D (kT cI cZ) A (zr_tryPin r g1).1 (wR ra ((zr_tryPin r g1).2))) (cc := cR_tryPin) (maxL := 2) (ret := some .int) (by decide) rfl (Nat.le_of_ble_eq_true rfl) ?_ sz
  intro p e s m args below meth c A ls hx hb hml hown hts hNw hr hlk hin hA hS hP hD hK hl
  show W p l e (rmOf 0 0) s m args below meth c s.heap [] 0 0 (MQ below (kQi D (kT cI cZ) A (zr_tryPin r g1).1 (wR ra ((zr_tryPin r g1).2))) args s 0 0 A) (F0 m 0 ls [])
  have hts : ∀ q ∈ lw_g, q.before args s = true := fun q h => hts q (List.mem_cons_of_mem _ h)
  have hown : s.vm.findClass cnR = some m.cls := hown
  have hl : lv_has ls 2 [(0, .ref ra), (1, .int g1)] := hl
  have hP : va_P D vwCl [(ra, .inr (1, [.int r.1, .int r.2]))] s.heap := hP
  have hD : va_D A [(ra, .inr (1, [.int r.1, .int r.2]))] := hD
  refine lv_aload_n hx hb dR_tryPin_0 rfl (lv_at hl 0 rfl) ?_
  refine va_get (D := D) (ci := 1) (v := .int r.2) (C := cnR) (T := ftR) (N := 2) hx hb hts inR hown hK hP 0 rfl rfl 1 (by decide) (hts _ mw44) (fun _ h9 => h9) rfl dR_tryPin_1 ?_
  refine lv_iconst (v := 3) hx hb dR_tryPin_4 (by decide) ?_
  refine lv_icmp_lt (tgt := 11) hx hb dR_tryPin_5 (by decide) (fun h1 => ?_) (fun h1 => ?_)
  ·
    refine lv_iload_n hx hb dR_tryPin_11 rfl (lv_at hl 1 rfl) ?_
    refine lv_aload_n hx hb dR_tryPin_12 rfl (lv_at hl 0 rfl) ?_
    refine va_get (D := D) (ci := 1) (v := .int r.1) (C := cnR) (T := ftR) (N := 2) hx hb hts inR hown hK hP 0 rfl rfl 0 (by decide) (hts _ mw43) (fun _ h9 => h9) rfl dR_tryPin_13 ?_
    refine lv_icmp_eq (tgt := 32) hx hb dR_tryPin_16 (by decide) (fun h2 => ?_) (fun h2 => ?_)
    ·
      refine lv_aload_n hx hb dR_tryPin_32 rfl (lv_at hl 0 rfl) ?_
      refine lv_iconst (v := 0) hx hb dR_tryPin_33 (by decide) ?_
      refine va_put (D := D) (ci := 1) (v := .int 0) (ty := (.int)) (C := cnR) (T := ftR) (N := 2) hx hb hts inR tyR tyR_ok nmR hown hK hP hD hS 0 rfl rfl 1 (by decide) (hts _ mw44) (fun _ h9 => h9) rfl (by decide +kernel) rfl rfl (Nat.le_of_ble_eq_true rfl) dR_tryPin_34 (fun H locs hP hD hS => ?_)
      have hP : va_P D vwCl [(ra, .inr (1, [.int r.1, .int 0]))] H := hP
      have hD : va_D A [(ra, .inr (1, [.int r.1, .int 0]))] := hD
      refine lv_iconst (v := 0) hx hb dR_tryPin_37 (by decide) ?_
      exact kretI (wf := fun st => wR ra st) (st := (r.1, 0)) (by first | (rw [zr_tryPin, if_pos h1, if_pos h2]; done) | exact ((if_pos h1).trans (if_pos h2))) hx hb hr hlk hS hP hD hK dR_tryPin_38
    ·
      refine lv_aload_n hx hb dR_tryPin_19 rfl (lv_at hl 0 rfl) ?_
      refine lv_dup hx hb dR_tryPin_20 rfl ?_
      refine va_get (D := D) (ci := 1) (v := .int r.2) (C := cnR) (T := ftR) (N := 2) hx hb hts inR hown hK hP 0 rfl rfl 1 (by decide) (hts _ mw44) (fun _ h9 => h9) rfl dR_tryPin_21 ?_
      refine lv_iconst (v := 1) hx hb dR_tryPin_24 (by decide) ?_
      refine lv_iadd hx hb dR_tryPin_25 ?_
      refine va_put (D := D) (ci := 1) (v := .int (r.2 + 1)) (ty := (.int)) (C := cnR) (T := ftR) (N := 2) hx hb hts inR tyR tyR_ok nmR hown hK hP hD hS 0 rfl rfl 1 (by decide) (hts _ mw44) (fun _ h9 => h9) rfl (by decide +kernel) rfl rfl (Nat.le_of_ble_eq_true rfl) dR_tryPin_26 (fun H locs hP hD hS => ?_)
      have hP : va_P D vwCl [(ra, .inr (1, [.int r.1, .int (r.2 + 1)]))] H := hP
      have hD : va_D A [(ra, .inr (1, [.int r.1, .int (r.2 + 1)]))] := hD
      refine lv_bipush (v := (-9)) hx hb dR_tryPin_29 (by decide) ?_
      exact kretI (wf := fun st => wR ra st) (st := (r.1, (r.2 + 1))) (by first | (rw [zr_tryPin, if_pos h1, if_neg h2]; done) | exact ((if_pos h1).trans (if_neg h2))) hx hb hr hlk hS hP hD hK dR_tryPin_31
  ·
    refine lv_bipush (v := (-8)) hx hb dR_tryPin_8 (by decide) ?_
    exact kretI (wf := fun st => wR ra st) (st := r) (by first | (rw [zr_tryPin, if_neg h1]; done) | exact (if_neg h1)) hx hb hr hlk hS hP hD hK dR_tryPin_10

def zr_renew (r : RS) (g1 : Int32) : RS := (g1, 0)

set_option maxHeartbeats 4000000 in
set_option maxRecDepth 100000 in
theorem kr_renew (l : Launch) (D : va_G) (cI cZ : ClassId) (ra : Nat) (r : RS) (g1 : Int32) : kV l yR_renew wsR_renew (rmOf 0 0) D (kT cI cZ) [.ref ra, .int g1] (wR ra r) (wR ra (zr_renew r g1)) := by
  intro sz
  refine kOf (Qc := fun A => kQv D (kT cI cZ) A (wR ra (zr_renew r g1))) (cc := cR_renew) (maxL := 2) (ret := none) (by decide) rfl (Nat.le_of_ble_eq_true rfl) ?_ sz
  intro p e s m args below meth c A ls hx hb hml hown hts hNw hr hlk hin hA hS hP hD hK hl
  show W p l e (rmOf 0 0) s m args below meth c s.heap [] 0 0 (MQ below (kQv D (kT cI cZ) A (wR ra (zr_renew r g1))) args s 0 0 A) (F0 m 0 ls [])
  have hts : ∀ q ∈ lw_g, q.before args s = true := fun q h => hts q (List.mem_cons_of_mem _ h)
  have hown : s.vm.findClass cnR = some m.cls := hown
  have hl : lv_has ls 2 [(0, .ref ra), (1, .int g1)] := hl
  have hP : va_P D vwCl [(ra, .inr (1, [.int r.1, .int r.2]))] s.heap := hP
  have hD : va_D A [(ra, .inr (1, [.int r.1, .int r.2]))] := hD
  refine lv_aload_n hx hb dR_renew_0 rfl (lv_at hl 0 rfl) ?_
  refine lv_iload_n hx hb dR_renew_1 rfl (lv_at hl 1 rfl) ?_
  refine va_put (D := D) (ci := 1) (v := .int g1) (ty := (.int)) (C := cnR) (T := ftR) (N := 2) hx hb hts inR tyR tyR_ok nmR hown hK hP hD hS 0 rfl rfl 0 (by decide) (hts _ mw43) (fun _ h9 => h9) rfl (by decide +kernel) rfl rfl (Nat.le_of_ble_eq_true rfl) dR_renew_2 (fun H locs hP hD hS => ?_)
  have hP : va_P D vwCl [(ra, .inr (1, [.int g1, .int r.2]))] H := hP
  have hD : va_D A [(ra, .inr (1, [.int g1, .int r.2]))] := hD
  refine lv_aload_n hx hb dR_renew_5 rfl (lv_at hl 0 rfl) ?_
  refine lv_iconst (v := 0) hx hb dR_renew_6 (by decide) ?_
  refine va_put (D := D) (ci := 1) (v := .int 0) (ty := (.int)) (C := cnR) (T := ftR) (N := 2) hx hb hts inR tyR tyR_ok nmR hown hK hP hD hS 0 rfl rfl 1 (by decide) (hts _ mw44) (fun _ h9 => h9) rfl (by decide +kernel) rfl rfl (Nat.le_of_ble_eq_true rfl) dR_renew_7 (fun H locs hP hD hS => ?_)
  have hP : va_P D vwCl [(ra, .inr (1, [.int g1, .int 0]))] H := hP
  have hD : va_D A [(ra, .inr (1, [.int g1, .int 0]))] := hD
  exact kretV (wf := fun st => wR ra st) (st := (g1, 0)) (rfl) hx hb hr hlk hS hP hD hK dR_renew_10

def zt_isOpen (x : XS) (g1 : Int32) : Int32 := (if g1 < 0 then (0 : Int32) else (if 3 ≤ g1 then (0 : Int32) else (if (x.2.2.2.2.1 &&& ((1 : Int32) <<< (g1 &&& 31))) = 0 then (0 : Int32) else (1 : Int32))))

set_option maxHeartbeats 4000000 in
set_option maxRecDepth 100000 in
theorem kt_isOpen (l : Launch) (D : va_G) (cI cZ : ClassId) (ao au af ak a1 a2 a3 a4 : Nat) (x : XS) (g1 : Int32) : kI l yT_isOpen wsT_isOpen (rmOf 0 0) D (kT cI cZ) [.ref ao, .int g1] (wX cI ao au af ak a1 a2 a3 a4 x) (zt_isOpen x g1) (wX cI ao au af ak a1 a2 a3 a4 x) := by
  intro sz
  refine kOf (Qc := fun A => kQi D (kT cI cZ) A (zt_isOpen x g1) (wX cI ao au af ak a1 a2 a3 a4 x)) (cc := cT_isOpen) (maxL := 2) (ret := some .boolean) (by decide) rfl (Nat.le_of_ble_eq_true rfl) ?_ sz
  intro p e s m args below meth c A ls hx hb hml hown hts hNw hr hlk hin hA hS hP hD hK hl
  show W p l e (rmOf 0 0) s m args below meth c s.heap [] 0 0 (MQ below (kQi D (kT cI cZ) A (zt_isOpen x g1) (wX cI ao au af ak a1 a2 a3 a4 x)) args s 0 0 A) (F0 m 0 ls [])
  have hts : ∀ q ∈ lw_g, q.before args s = true := fun q h => hts q (List.mem_cons_of_mem _ h)
  have hown : s.vm.findClass cnT = some m.cls := hown
  have hl : lv_has ls 2 [(0, .ref ao), (1, .int g1)] := hl
  have hP : va_P D vwCl [(ao, .inr (0, [.ref au, .ref af, .ref ak, .int x.2.2.1, .int x.2.2.2.1, .int x.2.2.2.2.1, .int x.2.2.2.2.2.1])), (au, .inr (1, [.int x.1.1, .int x.1.2])), (af, .inr (1, [.int x.2.1.1, .int x.2.1.2])), (ak, .inr (2, [.ref a1, .ref a2, .ref a3, .ref a4, .int (nI x.2.2.2.2.2.2.1), .int x.2.2.2.2.2.2.2.1])), (a1, .inl (cI, 10, .inl x.2.2.2.2.2.2.2.2.1)), (a2, .inl (cI, 10, .inl x.2.2.2.2.2.2.2.2.2.1)), (a3, .inl (cI, 10, .inl x.2.2.2.2.2.2.2.2.2.2.1)), (a4, .inl (cI, 10, .inl x.2.2.2.2.2.2.2.2.2.2.2))] s.heap := hP
  have hD : va_D A [(ao, .inr (0, [.ref au, .ref af, .ref ak, .int x.2.2.1, .int x.2.2.2.1, .int x.2.2.2.2.1, .int x.2.2.2.2.2.1])), (au, .inr (1, [.int x.1.1, .int x.1.2])), (af, .inr (1, [.int x.2.1.1, .int x.2.1.2])), (ak, .inr (2, [.ref a1, .ref a2, .ref a3, .ref a4, .int (nI x.2.2.2.2.2.2.1), .int x.2.2.2.2.2.2.2.1])), (a1, .inl (cI, 10, .inl x.2.2.2.2.2.2.2.2.1)), (a2, .inl (cI, 10, .inl x.2.2.2.2.2.2.2.2.2.1)), (a3, .inl (cI, 10, .inl x.2.2.2.2.2.2.2.2.2.2.1)), (a4, .inl (cI, 10, .inl x.2.2.2.2.2.2.2.2.2.2.2))] := hD
  refine lv_iload_n hx hb dT_isOpen_0 rfl (lv_at hl 1 rfl) ?_
  refine kJoin (pcJ := 25) (z := (if g1 < 0 then (0 : Int32) else (if 3 ≤ g1 then (0 : Int32) else (if (x.2.2.2.2.1 &&& ((1 : Int32) <<< (g1 &&& 31))) = 0 then (0 : Int32) else (1 : Int32))))) (ws := [(ao, .inr (0, [.ref au, .ref af, .ref ak, .int x.2.2.1, .int x.2.2.2.1, .int x.2.2.2.2.1, .int x.2.2.2.2.2.1])), (au, .inr (1, [.int x.1.1, .int x.1.2])), (af, .inr (1, [.int x.2.1.1, .int x.2.1.2])), (ak, .inr (2, [.ref a1, .ref a2, .ref a3, .ref a4, .int (nI x.2.2.2.2.2.2.1), .int x.2.2.2.2.2.2.2.1])), (a1, .inl (cI, 10, .inl x.2.2.2.2.2.2.2.2.1)), (a2, .inl (cI, 10, .inl x.2.2.2.2.2.2.2.2.2.1)), (a3, .inl (cI, 10, .inl x.2.2.2.2.2.2.2.2.2.2.1)), (a4, .inl (cI, 10, .inl x.2.2.2.2.2.2.2.2.2.2.2))]) (rest := []) (D := D) (A := A) (H0 := s.heap) (fun J25 => ?_) (fun H locs hP hD hS => ?_)
  ·
    refine lv_if_lt (tgt := 24) hx hb dT_isOpen_1 (by decide) (fun h1 => ?_) (fun h1 => ?_)
    ·
      refine lv_iconst (v := 0) hx hb dT_isOpen_24 (by decide) ?_
      exact J25 _ _ hP hD hS _ ((if_pos h1).symm)
    ·
      refine lv_iload_n hx hb dT_isOpen_4 rfl (lv_at hl 1 rfl) ?_
      refine lv_iconst (v := 3) hx hb dT_isOpen_5 (by decide) ?_
      refine lv_icmp_ge (tgt := 24) hx hb dT_isOpen_6 (by decide) (fun h2 => ?_) (fun h2 => ?_)
      ·
        refine lv_iconst (v := 0) hx hb dT_isOpen_24 (by decide) ?_
        exact J25 _ _ hP hD hS _ (((if_neg h1).trans (if_pos h2)).symm)
      ·
        refine lv_aload_n hx hb dT_isOpen_9 rfl (lv_at hl 0 rfl) ?_
        refine va_get (D := D) (ci := 0) (v := .int x.2.2.2.2.1) (C := cnT) (T := ftT) (N := 7) hx hb hts inT hown hK hP 0 rfl rfl 5 (by decide) (hts _ mw87) (fun _ h9 => h9) rfl dT_isOpen_10 ?_
        refine lv_iconst (v := 1) hx hb dT_isOpen_13 (by decide) ?_
        refine lv_iload_n hx hb dT_isOpen_14 rfl (lv_at hl 1 rfl) ?_
        refine lv_ishl hx hb dT_isOpen_15 ?_
        refine lv_iand hx hb dT_isOpen_16 ?_
        refine lv_if_eq (tgt := 24) hx hb dT_isOpen_17 (by decide) (fun h3 => ?_) (fun h3 => ?_)
        ·
          refine lv_iconst (v := 0) hx hb dT_isOpen_24 (by decide) ?_
          exact J25 _ _ hP hD hS _ (((if_neg h1).trans ((if_neg h2).trans (if_pos h3))).symm)
        ·
          refine lv_iconst (v := 1) hx hb dT_isOpen_20 (by decide) ?_
          refine lv_goto hx hb dT_isOpen_21 (tgt := 25) (by decide) ?_
          exact J25 _ _ hP hD hS _ (((if_neg h1).trans ((if_neg h2).trans (if_neg h3))).symm)
  exact kretZ (rfl) (kz_ite kz0 (kz_ite kz0 (kz_ite kz0 kz1))) hx hb hr hlk hS hP hD hK dT_isOpen_25

def zt_isReadWrite (x : XS) (g1 : Int32) : Int32 := (if (zt_isOpen x g1) = 0 then (0 : Int32) else (if (x.2.2.2.2.2.1 &&& ((1 : Int32) <<< (g1 &&& 31))) = 0 then (0 : Int32) else (1 : Int32)))

set_option maxHeartbeats 4000000 in
set_option maxRecDepth 100000 in
theorem kt_isReadWrite (l : Launch) (D : va_G) (cI cZ : ClassId) (ao au af ak a1 a2 a3 a4 : Nat) (x : XS) (g1 : Int32) : kI l yT_isReadWrite wsT_isReadWrite (rmOf 1 21) D (kT cI cZ) [.ref ao, .int g1] (wX cI ao au af ak a1 a2 a3 a4 x) (zt_isReadWrite x g1) (wX cI ao au af ak a1 a2 a3 a4 x) := by
  intro sz
  refine kOf (Qc := fun A => kQi D (kT cI cZ) A (zt_isReadWrite x g1) (wX cI ao au af ak a1 a2 a3 a4 x)) (cc := cT_isReadWrite) (maxL := 2) (ret := some .boolean) (by decide) rfl (Nat.le_of_ble_eq_true rfl) ?_ sz
  intro p e s m args below meth c A ls hx hb hml hown hts hNw hr hlk hin hA hS hP hD hK hl
  show W p l e (rmOf 1 21) s m args below meth c s.heap [] 0 0 (MQ below (kQi D (kT cI cZ) A (zt_isReadWrite x g1) (wX cI ao au af ak a1 a2 a3 a4 x)) args s 0 0 A) (F0 m 0 ls [])
  have hts : ∀ q ∈ lw_g, q.before args s = true := fun q h => hts q (List.mem_cons_of_mem _ h)
  have hown : s.vm.findClass cnT = some m.cls := hown
  have hl : lv_has ls 2 [(0, .ref ao), (1, .int g1)] := hl
  have hP : va_P D vwCl [(ao, .inr (0, [.ref au, .ref af, .ref ak, .int x.2.2.1, .int x.2.2.2.1, .int x.2.2.2.2.1, .int x.2.2.2.2.2.1])), (au, .inr (1, [.int x.1.1, .int x.1.2])), (af, .inr (1, [.int x.2.1.1, .int x.2.1.2])), (ak, .inr (2, [.ref a1, .ref a2, .ref a3, .ref a4, .int (nI x.2.2.2.2.2.2.1), .int x.2.2.2.2.2.2.2.1])), (a1, .inl (cI, 10, .inl x.2.2.2.2.2.2.2.2.1)), (a2, .inl (cI, 10, .inl x.2.2.2.2.2.2.2.2.2.1)), (a3, .inl (cI, 10, .inl x.2.2.2.2.2.2.2.2.2.2.1)), (a4, .inl (cI, 10, .inl x.2.2.2.2.2.2.2.2.2.2.2))] s.heap := hP
  have hD : va_D A [(ao, .inr (0, [.ref au, .ref af, .ref ak, .int x.2.2.1, .int x.2.2.2.1, .int x.2.2.2.2.1, .int x.2.2.2.2.2.1])), (au, .inr (1, [.int x.1.1, .int x.1.2])), (af, .inr (1, [.int x.2.1.1, .int x.2.1.2])), (ak, .inr (2, [.ref a1, .ref a2, .ref a3, .ref a4, .int (nI x.2.2.2.2.2.2.1), .int x.2.2.2.2.2.2.2.1])), (a1, .inl (cI, 10, .inl x.2.2.2.2.2.2.2.2.1)), (a2, .inl (cI, 10, .inl x.2.2.2.2.2.2.2.2.2.1)), (a3, .inl (cI, 10, .inl x.2.2.2.2.2.2.2.2.2.2.1)), (a4, .inl (cI, 10, .inl x.2.2.2.2.2.2.2.2.2.2.2))] := hD
  refine lv_aload_n hx hb dT_isReadWrite_0 rfl (lv_at hl 0 rfl) ?_
  refine lv_iload_n hx hb dT_isReadWrite_1 rfl (lv_at hl 1 rfl) ?_
  refine kcI (isR := []) (isC := [0, 1, 2, 3, 4, 5, 6, 7]) (wr := []) (w2 := [(ao, .inr (0, [.ref au, .ref af, .ref ak, .int x.2.2.1, .int x.2.2.2.1, .int x.2.2.2.2.1, .int x.2.2.2.2.2.1])), (au, .inr (1, [.int x.1.1, .int x.1.2])), (af, .inr (1, [.int x.2.1.1, .int x.2.1.2])), (ak, .inr (2, [.ref a1, .ref a2, .ref a3, .ref a4, .int (nI x.2.2.2.2.2.2.1), .int x.2.2.2.2.2.2.2.1])), (a1, .inl (cI, 10, .inl x.2.2.2.2.2.2.2.2.1)), (a2, .inl (cI, 10, .inl x.2.2.2.2.2.2.2.2.2.1)), (a3, .inl (cI, 10, .inl x.2.2.2.2.2.2.2.2.2.2.1)), (a4, .inl (cI, 10, .inl x.2.2.2.2.2.2.2.2.2.2.2))]) (va_runV (As := [.int g1]) (rest := []) ⟨hx, hb, hml, hown, hts⟩ (kt_isOpen l D cI cZ ao au af ak a1 a2 a3 a4 x g1 _) ⟨(callB_of 1 hts gd_yT_isOpen rfl rfl rfl (hts _ mw24) (hts _ mw108) (by decide +kernel) ⟨Nat.le_of_ble_eq_true rfl, Nat.le_of_ble_eq_true rfl⟩), hts _ mw110, hts _ mw0⟩ (kpreV hNw hP hD hK [0, 1, 2, 3, 4, 5, 6, 7] rfl (by decide) 0 rfl (ci := 0) rfl) rfl rfl hl.1 rfl (lv_room (Nat.le_of_ble_eq_true rfl)) dT_isReadWrite_2 ⟨Nat.le_of_ble_eq_true rfl, Nat.le_of_ble_eq_true rfl⟩) hP hD hS hA [0, 1, 2, 3, 4, 5, 6, 7] rfl rfl (by decide) (by decide) (by decide) rfl (fun H locs hP hD hS => ?_)
  refine kJoin (pcJ := 24) (z := (if (zt_isOpen x g1) = 0 then (0 : Int32) else (if (x.2.2.2.2.2.1 &&& ((1 : Int32) <<< (g1 &&& 31))) = 0 then (0 : Int32) else (1 : Int32)))) (ws := [(ao, .inr (0, [.ref au, .ref af, .ref ak, .int x.2.2.1, .int x.2.2.2.1, .int x.2.2.2.2.1, .int x.2.2.2.2.2.1])), (au, .inr (1, [.int x.1.1, .int x.1.2])), (af, .inr (1, [.int x.2.1.1, .int x.2.1.2])), (ak, .inr (2, [.ref a1, .ref a2, .ref a3, .ref a4, .int (nI x.2.2.2.2.2.2.1), .int x.2.2.2.2.2.2.2.1])), (a1, .inl (cI, 10, .inl x.2.2.2.2.2.2.2.2.1)), (a2, .inl (cI, 10, .inl x.2.2.2.2.2.2.2.2.2.1)), (a3, .inl (cI, 10, .inl x.2.2.2.2.2.2.2.2.2.2.1)), (a4, .inl (cI, 10, .inl x.2.2.2.2.2.2.2.2.2.2.2))]) (rest := []) (D := D) (A := A) (H0 := s.heap) (fun J24 => ?_) (fun H locs hP hD hS => ?_)
  ·
    refine lv_if_eq (tgt := 23) hx hb dT_isReadWrite_5 (by decide) (fun h1 => ?_) (fun h1 => ?_)
    ·
      refine lv_iconst (v := 0) hx hb dT_isReadWrite_23 (by decide) ?_
      exact J24 _ _ hP hD hS _ ((if_pos h1).symm)
    ·
      refine lv_aload_n hx hb dT_isReadWrite_8 rfl (lv_at hl 0 rfl) ?_
      refine va_get (D := D) (ci := 0) (v := .int x.2.2.2.2.2.1) (C := cnT) (T := ftT) (N := 7) hx hb hts inT hown hK hP 0 rfl rfl 6 (by decide) (hts _ mw88) (fun _ h9 => h9) rfl dT_isReadWrite_9 ?_
      refine lv_iconst (v := 1) hx hb dT_isReadWrite_12 (by decide) ?_
      refine lv_iload_n hx hb dT_isReadWrite_13 rfl (lv_at hl 1 rfl) ?_
      refine lv_ishl hx hb dT_isReadWrite_14 ?_
      refine lv_iand hx hb dT_isReadWrite_15 ?_
      refine lv_if_eq (tgt := 23) hx hb dT_isReadWrite_16 (by decide) (fun h2 => ?_) (fun h2 => ?_)
      ·
        refine lv_iconst (v := 0) hx hb dT_isReadWrite_23 (by decide) ?_
        exact J24 _ _ hP hD hS _ (((if_neg h1).trans (if_pos h2)).symm)
      ·
        refine lv_iconst (v := 1) hx hb dT_isReadWrite_19 (by decide) ?_
        refine lv_goto hx hb dT_isReadWrite_20 (tgt := 24) (by decide) ?_
        exact J24 _ _ hP hD hS _ (((if_neg h1).trans (if_neg h2)).symm)
  exact kretZ (rfl) (kz_ite kz0 (kz_ite kz0 kz1)) hx hb hr hlk hS hP hD hK dT_isReadWrite_24

def zt_isVisible (x : XS) (g1 : Int32) : Int32 := (if x.2.2.1 = 1 then (1 : Int32) else (if (zk_has x.2.2.2.2.2.2 g1 2) = 0 then (1 : Int32) else (0 : Int32)))

set_option maxHeartbeats 4000000 in
set_option maxRecDepth 100000 in
theorem kt_isVisible (l : Launch) (D : va_G) (cI cZ : ClassId) (ao au af ak a1 a2 a3 a4 : Nat) (x : XS) (g1 : Int32) (hn : x.2.2.2.2.2.2.1 ≤ 10) : kI l yT_isVisible wsT_isVisible (rmOf 1 22) D (kT cI cZ) [.ref ao, .int g1] (wX cI ao au af ak a1 a2 a3 a4 x) (zt_isVisible x g1) (wX cI ao au af ak a1 a2 a3 a4 x) := by
  intro sz
  refine kOf (Qc := fun A => kQi D (kT cI cZ) A (zt_isVisible x g1) (wX cI ao au af ak a1 a2 a3 a4 x)) (cc := cT_isVisible) (maxL := 2) (ret := some .boolean) (by decide) rfl (Nat.le_of_ble_eq_true rfl) ?_ sz
  intro p e s m args below meth c A ls hx hb hml hown hts hNw hr hlk hin hA hS hP hD hK hl
  show W p l e (rmOf 1 22) s m args below meth c s.heap [] 0 0 (MQ below (kQi D (kT cI cZ) A (zt_isVisible x g1) (wX cI ao au af ak a1 a2 a3 a4 x)) args s 0 0 A) (F0 m 0 ls [])
  have hts : ∀ q ∈ lw_g, q.before args s = true := fun q h => hts q (List.mem_cons_of_mem _ h)
  have hown : s.vm.findClass cnT = some m.cls := hown
  have hl : lv_has ls 2 [(0, .ref ao), (1, .int g1)] := hl
  have hP : va_P D vwCl [(ao, .inr (0, [.ref au, .ref af, .ref ak, .int x.2.2.1, .int x.2.2.2.1, .int x.2.2.2.2.1, .int x.2.2.2.2.2.1])), (au, .inr (1, [.int x.1.1, .int x.1.2])), (af, .inr (1, [.int x.2.1.1, .int x.2.1.2])), (ak, .inr (2, [.ref a1, .ref a2, .ref a3, .ref a4, .int (nI x.2.2.2.2.2.2.1), .int x.2.2.2.2.2.2.2.1])), (a1, .inl (cI, 10, .inl x.2.2.2.2.2.2.2.2.1)), (a2, .inl (cI, 10, .inl x.2.2.2.2.2.2.2.2.2.1)), (a3, .inl (cI, 10, .inl x.2.2.2.2.2.2.2.2.2.2.1)), (a4, .inl (cI, 10, .inl x.2.2.2.2.2.2.2.2.2.2.2))] s.heap := hP
  have hD : va_D A [(ao, .inr (0, [.ref au, .ref af, .ref ak, .int x.2.2.1, .int x.2.2.2.1, .int x.2.2.2.2.1, .int x.2.2.2.2.2.1])), (au, .inr (1, [.int x.1.1, .int x.1.2])), (af, .inr (1, [.int x.2.1.1, .int x.2.1.2])), (ak, .inr (2, [.ref a1, .ref a2, .ref a3, .ref a4, .int (nI x.2.2.2.2.2.2.1), .int x.2.2.2.2.2.2.2.1])), (a1, .inl (cI, 10, .inl x.2.2.2.2.2.2.2.2.1)), (a2, .inl (cI, 10, .inl x.2.2.2.2.2.2.2.2.2.1)), (a3, .inl (cI, 10, .inl x.2.2.2.2.2.2.2.2.2.2.1)), (a4, .inl (cI, 10, .inl x.2.2.2.2.2.2.2.2.2.2.2))] := hD
  refine lv_aload_n hx hb dT_isVisible_0 rfl (lv_at hl 0 rfl) ?_
  refine va_get (D := D) (ci := 0) (v := .int x.2.2.1) (C := cnT) (T := ftT) (N := 7) hx hb hts inT hown hK hP 0 rfl rfl 3 (by decide) (hts _ mw85) (fun _ h9 => h9) rfl dT_isVisible_1 ?_
  refine lv_iconst (v := 1) hx hb dT_isVisible_4 (by decide) ?_
  refine kJoin (pcJ := 25) (z := (if x.2.2.1 = 1 then (1 : Int32) else (if (zk_has x.2.2.2.2.2.2 g1 2) = 0 then (1 : Int32) else (0 : Int32)))) (ws := [(ao, .inr (0, [.ref au, .ref af, .ref ak, .int x.2.2.1, .int x.2.2.2.1, .int x.2.2.2.2.1, .int x.2.2.2.2.2.1])), (au, .inr (1, [.int x.1.1, .int x.1.2])), (af, .inr (1, [.int x.2.1.1, .int x.2.1.2])), (ak, .inr (2, [.ref a1, .ref a2, .ref a3, .ref a4, .int (nI x.2.2.2.2.2.2.1), .int x.2.2.2.2.2.2.2.1])), (a1, .inl (cI, 10, .inl x.2.2.2.2.2.2.2.2.1)), (a2, .inl (cI, 10, .inl x.2.2.2.2.2.2.2.2.2.1)), (a3, .inl (cI, 10, .inl x.2.2.2.2.2.2.2.2.2.2.1)), (a4, .inl (cI, 10, .inl x.2.2.2.2.2.2.2.2.2.2.2))]) (rest := []) (D := D) (A := A) (H0 := s.heap) (fun J25 => ?_) (fun H locs hP hD hS => ?_)
  ·
    refine lv_icmp_eq (tgt := 20) hx hb dT_isVisible_5 (by decide) (fun h1 => ?_) (fun h1 => ?_)
    ·
      refine lv_iconst (v := 1) hx hb dT_isVisible_20 (by decide) ?_
      refine lv_goto hx hb dT_isVisible_21 (tgt := 25) (by decide) ?_
      exact J25 _ _ hP hD hS _ ((if_pos h1).symm)
    ·
      refine lv_aload_n hx hb dT_isVisible_8 rfl (lv_at hl 0 rfl) ?_
      refine va_get (D := D) (ci := 0) (v := .ref ak) (C := cnT) (T := ftT) (N := 7) hx hb hts inT hown hK hP 0 rfl rfl 2 (by decide) (hts _ mw84) (fun _ h9 => h9) rfl dT_isVisible_9 ?_
      refine lv_iload_n hx hb dT_isVisible_12 rfl (lv_at hl 1 rfl) ?_
      refine lv_iconst (v := 2) hx hb dT_isVisible_13 (by decide) ?_
      refine kcI (isR := [0, 1, 2]) (isC := [3, 4, 5, 6, 7]) (wr := [(ao, .inr (0, [.ref au, .ref af, .ref ak, .int x.2.2.1, .int x.2.2.2.1, .int x.2.2.2.2.1, .int x.2.2.2.2.2.1])), (au, .inr (1, [.int x.1.1, .int x.1.2])), (af, .inr (1, [.int x.2.1.1, .int x.2.1.2]))]) (w2 := [(ao, .inr (0, [.ref au, .ref af, .ref ak, .int x.2.2.1, .int x.2.2.2.1, .int x.2.2.2.2.1, .int x.2.2.2.2.2.1])), (au, .inr (1, [.int x.1.1, .int x.1.2])), (af, .inr (1, [.int x.2.1.1, .int x.2.1.2])), (ak, .inr (2, [.ref a1, .ref a2, .ref a3, .ref a4, .int (nI x.2.2.2.2.2.2.1), .int x.2.2.2.2.2.2.2.1])), (a1, .inl (cI, 10, .inl x.2.2.2.2.2.2.2.2.1)), (a2, .inl (cI, 10, .inl x.2.2.2.2.2.2.2.2.2.1)), (a3, .inl (cI, 10, .inl x.2.2.2.2.2.2.2.2.2.2.1)), (a4, .inl (cI, 10, .inl x.2.2.2.2.2.2.2.2.2.2.2))]) (va_runVN (As := [.int g1, .int 2]) (rest := []) ⟨hx, hb, hml, hown, hts⟩ (kk_has l D cI cZ ak a1 a2 a3 a4 x.2.2.2.2.2.2 g1 2 (hn) _) ⟨(va_cnB 2 hts gd_yK_has rfl rfl rfl (hNw _ mw205) (hts _ mw26) (by decide +kernel) ⟨Nat.le_of_ble_eq_true rfl, Nat.le_of_ble_eq_true rfl⟩), hts _ mw142, hts _ mw5⟩ (kpreV hNw hP hD hK [3, 4, 5, 6, 7] rfl (by decide) 3 rfl (ci := 2) rfl) rfl rfl hl.1 rfl (lv_room (Nat.le_of_ble_eq_true rfl)) dT_isVisible_14 ⟨Nat.le_of_ble_eq_true rfl, Nat.le_of_ble_eq_true rfl⟩) hP hD hS hA [0, 1, 2, 3, 4, 5, 6, 7] rfl rfl (by decide) (by decide) (by decide) rfl (fun H locs hP hD hS => ?_)
      refine lv_if_ne (tgt := 24) hx hb dT_isVisible_17 (by decide) (fun h2 => ?_) (fun h2 => ?_)
      ·
        refine lv_iconst (v := 0) hx hb dT_isVisible_24 (by decide) ?_
        exact J25 _ _ hP hD hS _ (((if_neg h1).trans (if_neg h2)).symm)
      ·
        refine lv_iconst (v := 1) hx hb dT_isVisible_20 (by decide) ?_
        refine lv_goto hx hb dT_isVisible_21 (tgt := 25) (by decide) ?_
        exact J25 _ _ hP hD hS _ (((if_neg h1).trans (if_pos h2)).symm)
  exact kretZ (rfl) (kz_ite kz1 (kz_ite kz1 kz0)) hx hb hr hlk hS hP hD hK dT_isVisible_25

def zt_isFixedFor (x : XS) (g1 : Int32) (g2 : Int32) : Int32 := (if (zk_has x.2.2.2.2.2.2 g2 1) = 0 then (0 : Int32) else (if (zt_isReadWrite x g1) = 0 then (1 : Int32) else (0 : Int32)))

set_option maxHeartbeats 4000000 in
set_option maxRecDepth 100000 in
theorem kt_isFixedFor (l : Launch) (D : va_G) (cI cZ : ClassId) (ao au af ak a1 a2 a3 a4 : Nat) (x : XS) (g1 : Int32) (g2 : Int32) (hn : x.2.2.2.2.2.2.1 ≤ 10) : kI l yT_isFixedFor wsT_isFixedFor (rmOf 2 42) D (kT cI cZ) [.ref ao, .int g1, .int g2] (wX cI ao au af ak a1 a2 a3 a4 x) (zt_isFixedFor x g1 g2) (wX cI ao au af ak a1 a2 a3 a4 x) := by
  intro sz
  refine kOf (Qc := fun A => kQi D (kT cI cZ) A (zt_isFixedFor x g1 g2) (wX cI ao au af ak a1 a2 a3 a4 x)) (cc := cT_isFixedFor) (maxL := 3) (ret := some .boolean) (by decide) rfl (Nat.le_of_ble_eq_true rfl) ?_ sz
  intro p e s m args below meth c A ls hx hb hml hown hts hNw hr hlk hin hA hS hP hD hK hl
  show W p l e (rmOf 2 42) s m args below meth c s.heap [] 0 0 (MQ below (kQi D (kT cI cZ) A (zt_isFixedFor x g1 g2) (wX cI ao au af ak a1 a2 a3 a4 x)) args s 0 0 A) (F0 m 0 ls [])
  have hts : ∀ q ∈ lw_g, q.before args s = true := fun q h => hts q (List.mem_cons_of_mem _ h)
  have hown : s.vm.findClass cnT = some m.cls := hown
  have hl : lv_has ls 3 [(0, .ref ao), (1, .int g1), (2, .int g2)] := hl
  have hP : va_P D vwCl [(ao, .inr (0, [.ref au, .ref af, .ref ak, .int x.2.2.1, .int x.2.2.2.1, .int x.2.2.2.2.1, .int x.2.2.2.2.2.1])), (au, .inr (1, [.int x.1.1, .int x.1.2])), (af, .inr (1, [.int x.2.1.1, .int x.2.1.2])), (ak, .inr (2, [.ref a1, .ref a2, .ref a3, .ref a4, .int (nI x.2.2.2.2.2.2.1), .int x.2.2.2.2.2.2.2.1])), (a1, .inl (cI, 10, .inl x.2.2.2.2.2.2.2.2.1)), (a2, .inl (cI, 10, .inl x.2.2.2.2.2.2.2.2.2.1)), (a3, .inl (cI, 10, .inl x.2.2.2.2.2.2.2.2.2.2.1)), (a4, .inl (cI, 10, .inl x.2.2.2.2.2.2.2.2.2.2.2))] s.heap := hP
  have hD : va_D A [(ao, .inr (0, [.ref au, .ref af, .ref ak, .int x.2.2.1, .int x.2.2.2.1, .int x.2.2.2.2.1, .int x.2.2.2.2.2.1])), (au, .inr (1, [.int x.1.1, .int x.1.2])), (af, .inr (1, [.int x.2.1.1, .int x.2.1.2])), (ak, .inr (2, [.ref a1, .ref a2, .ref a3, .ref a4, .int (nI x.2.2.2.2.2.2.1), .int x.2.2.2.2.2.2.2.1])), (a1, .inl (cI, 10, .inl x.2.2.2.2.2.2.2.2.1)), (a2, .inl (cI, 10, .inl x.2.2.2.2.2.2.2.2.2.1)), (a3, .inl (cI, 10, .inl x.2.2.2.2.2.2.2.2.2.2.1)), (a4, .inl (cI, 10, .inl x.2.2.2.2.2.2.2.2.2.2.2))] := hD
  refine lv_aload_n hx hb dT_isFixedFor_0 rfl (lv_at hl 0 rfl) ?_
  refine va_get (D := D) (ci := 0) (v := .ref ak) (C := cnT) (T := ftT) (N := 7) hx hb hts inT hown hK hP 0 rfl rfl 2 (by decide) (hts _ mw84) (fun _ h9 => h9) rfl dT_isFixedFor_1 ?_
  refine lv_iload_n hx hb dT_isFixedFor_4 rfl (lv_at hl 2 rfl) ?_
  refine lv_iconst (v := 1) hx hb dT_isFixedFor_5 (by decide) ?_
  refine kcI (isR := [0, 1, 2]) (isC := [3, 4, 5, 6, 7]) (wr := [(ao, .inr (0, [.ref au, .ref af, .ref ak, .int x.2.2.1, .int x.2.2.2.1, .int x.2.2.2.2.1, .int x.2.2.2.2.2.1])), (au, .inr (1, [.int x.1.1, .int x.1.2])), (af, .inr (1, [.int x.2.1.1, .int x.2.1.2]))]) (w2 := [(ao, .inr (0, [.ref au, .ref af, .ref ak, .int x.2.2.1, .int x.2.2.2.1, .int x.2.2.2.2.1, .int x.2.2.2.2.2.1])), (au, .inr (1, [.int x.1.1, .int x.1.2])), (af, .inr (1, [.int x.2.1.1, .int x.2.1.2])), (ak, .inr (2, [.ref a1, .ref a2, .ref a3, .ref a4, .int (nI x.2.2.2.2.2.2.1), .int x.2.2.2.2.2.2.2.1])), (a1, .inl (cI, 10, .inl x.2.2.2.2.2.2.2.2.1)), (a2, .inl (cI, 10, .inl x.2.2.2.2.2.2.2.2.2.1)), (a3, .inl (cI, 10, .inl x.2.2.2.2.2.2.2.2.2.2.1)), (a4, .inl (cI, 10, .inl x.2.2.2.2.2.2.2.2.2.2.2))]) (va_runVN (As := [.int g2, .int 1]) (rest := []) ⟨hx, hb, hml, hown, hts⟩ (kk_has l D cI cZ ak a1 a2 a3 a4 x.2.2.2.2.2.2 g2 1 (hn) _) ⟨(va_cnB 2 hts gd_yK_has rfl rfl rfl (hNw _ mw205) (hts _ mw26) (by decide +kernel) ⟨Nat.le_of_ble_eq_true rfl, Nat.le_of_ble_eq_true rfl⟩), hts _ mw142, hts _ mw5⟩ (kpreV hNw hP hD hK [3, 4, 5, 6, 7] rfl (by decide) 3 rfl (ci := 2) rfl) rfl rfl hl.1 rfl (lv_room (Nat.le_of_ble_eq_true rfl)) dT_isFixedFor_6 ⟨Nat.le_of_ble_eq_true rfl, Nat.le_of_ble_eq_true rfl⟩) hP hD hS hA [0, 1, 2, 3, 4, 5, 6, 7] rfl rfl (by decide) (by decide) (by decide) rfl (fun H locs hP hD hS => ?_)
  refine kJoin (pcJ := 25) (z := (if (zk_has x.2.2.2.2.2.2 g2 1) = 0 then (0 : Int32) else (if (zt_isReadWrite x g1) = 0 then (1 : Int32) else (0 : Int32)))) (ws := [(ao, .inr (0, [.ref au, .ref af, .ref ak, .int x.2.2.1, .int x.2.2.2.1, .int x.2.2.2.2.1, .int x.2.2.2.2.2.1])), (au, .inr (1, [.int x.1.1, .int x.1.2])), (af, .inr (1, [.int x.2.1.1, .int x.2.1.2])), (ak, .inr (2, [.ref a1, .ref a2, .ref a3, .ref a4, .int (nI x.2.2.2.2.2.2.1), .int x.2.2.2.2.2.2.2.1])), (a1, .inl (cI, 10, .inl x.2.2.2.2.2.2.2.2.1)), (a2, .inl (cI, 10, .inl x.2.2.2.2.2.2.2.2.2.1)), (a3, .inl (cI, 10, .inl x.2.2.2.2.2.2.2.2.2.2.1)), (a4, .inl (cI, 10, .inl x.2.2.2.2.2.2.2.2.2.2.2))]) (rest := []) (D := D) (A := A) (H0 := s.heap) (fun J25 => ?_) (fun H locs hP hD hS => ?_)
  ·
    refine lv_if_eq (tgt := 24) hx hb dT_isFixedFor_9 (by decide) (fun h1 => ?_) (fun h1 => ?_)
    ·
      refine lv_iconst (v := 0) hx hb dT_isFixedFor_24 (by decide) ?_
      exact J25 _ _ hP hD hS _ ((if_pos h1).symm)
    ·
      refine lv_aload_n hx hb dT_isFixedFor_12 rfl (lv_at hl 0 rfl) ?_
      refine lv_iload_n hx hb dT_isFixedFor_13 rfl (lv_at hl 1 rfl) ?_
      refine kcI (isR := []) (isC := [0, 1, 2, 3, 4, 5, 6, 7]) (wr := []) (w2 := [(ao, .inr (0, [.ref au, .ref af, .ref ak, .int x.2.2.1, .int x.2.2.2.1, .int x.2.2.2.2.1, .int x.2.2.2.2.2.1])), (au, .inr (1, [.int x.1.1, .int x.1.2])), (af, .inr (1, [.int x.2.1.1, .int x.2.1.2])), (ak, .inr (2, [.ref a1, .ref a2, .ref a3, .ref a4, .int (nI x.2.2.2.2.2.2.1), .int x.2.2.2.2.2.2.2.1])), (a1, .inl (cI, 10, .inl x.2.2.2.2.2.2.2.2.1)), (a2, .inl (cI, 10, .inl x.2.2.2.2.2.2.2.2.2.1)), (a3, .inl (cI, 10, .inl x.2.2.2.2.2.2.2.2.2.2.1)), (a4, .inl (cI, 10, .inl x.2.2.2.2.2.2.2.2.2.2.2))]) (va_runV (As := [.int g1]) (rest := []) ⟨hx, hb, hml, hown, hts⟩ (kt_isReadWrite l D cI cZ ao au af ak a1 a2 a3 a4 x g1 _) ⟨(callB_of 1 hts gd_yT_isReadWrite rfl rfl rfl (hts _ mw24) (hts _ mw160) (by decide +kernel) ⟨Nat.le_of_ble_eq_true rfl, Nat.le_of_ble_eq_true rfl⟩), hts _ mw162, hts _ mw8⟩ (kpreV hNw hP hD hK [0, 1, 2, 3, 4, 5, 6, 7] rfl (by decide) 0 rfl (ci := 0) rfl) rfl rfl hl.1 rfl (lv_room (Nat.le_of_ble_eq_true rfl)) dT_isFixedFor_14 ⟨Nat.le_of_ble_eq_true rfl, Nat.le_of_ble_eq_true rfl⟩) hP hD hS hA [0, 1, 2, 3, 4, 5, 6, 7] rfl rfl (by decide) (by decide) (by decide) rfl (fun H locs hP hD hS => ?_)
      refine lv_if_ne (tgt := 24) hx hb dT_isFixedFor_17 (by decide) (fun h2 => ?_) (fun h2 => ?_)
      ·
        refine lv_iconst (v := 0) hx hb dT_isFixedFor_24 (by decide) ?_
        exact J25 _ _ hP hD hS _ (((if_neg h1).trans (if_neg h2)).symm)
      ·
        refine lv_iconst (v := 1) hx hb dT_isFixedFor_20 (by decide) ?_
        refine lv_goto hx hb dT_isFixedFor_21 (tgt := 25) (by decide) ?_
        exact J25 _ _ hP hD hS _ (((if_neg h1).trans (if_pos h2)).symm)
  exact kretZ (rfl) (kz_ite kz0 (kz_ite kz1 kz0)) hx hb hr hlk hS hP hD hK dT_isFixedFor_25

def zt_row (x : XS) (g1 : Int32) (g2 : Int32) : Int32 := (if (zt_isOpen x g1) = 0 then (-1) else (if (zk_rowWith x.2.2.2.2.2.2 g2) < 0 then ((-2) : Int32) else (if (zt_isVisible x (zk_rowWith x.2.2.2.2.2.2 g2)) = 0 then ((-2) : Int32) else (zk_rowWith x.2.2.2.2.2.2 g2))))

set_option maxHeartbeats 4000000 in
set_option maxRecDepth 100000 in
theorem kt_row (l : Launch) (D : va_G) (cI cZ : ClassId) (ao au af ak a1 a2 a3 a4 : Nat) (x : XS) (g1 : Int32) (g2 : Int32) (hn : x.2.2.2.2.2.2.1 ≤ 10) : kI l yT_rowOrRefusal wsT_rowOrRefusal (rmOf 2 43) D (kT cI cZ) [.ref ao, .int g1, .int g2] (wX cI ao au af ak a1 a2 a3 a4 x) (zt_row x g1 g2) (wX cI ao au af ak a1 a2 a3 a4 x) := by
  intro sz
  refine kOf (Qc := fun A => kQi D (kT cI cZ) A (zt_row x g1 g2) (wX cI ao au af ak a1 a2 a3 a4 x)) (cc := cT_rowOrRefusal) (maxL := 4) (ret := some .int) (by decide) rfl (Nat.le_of_ble_eq_true rfl) ?_ sz
  intro p e s m args below meth c A ls hx hb hml hown hts hNw hr hlk hin hA hS hP hD hK hl
  show W p l e (rmOf 2 43) s m args below meth c s.heap [] 0 0 (MQ below (kQi D (kT cI cZ) A (zt_row x g1 g2) (wX cI ao au af ak a1 a2 a3 a4 x)) args s 0 0 A) (F0 m 0 ls [])
  have hts : ∀ q ∈ lw_g, q.before args s = true := fun q h => hts q (List.mem_cons_of_mem _ h)
  have hown : s.vm.findClass cnT = some m.cls := hown
  have hl : lv_has ls 4 [(0, .ref ao), (1, .int g1), (2, .int g2)] := hl
  have hP : va_P D vwCl [(ao, .inr (0, [.ref au, .ref af, .ref ak, .int x.2.2.1, .int x.2.2.2.1, .int x.2.2.2.2.1, .int x.2.2.2.2.2.1])), (au, .inr (1, [.int x.1.1, .int x.1.2])), (af, .inr (1, [.int x.2.1.1, .int x.2.1.2])), (ak, .inr (2, [.ref a1, .ref a2, .ref a3, .ref a4, .int (nI x.2.2.2.2.2.2.1), .int x.2.2.2.2.2.2.2.1])), (a1, .inl (cI, 10, .inl x.2.2.2.2.2.2.2.2.1)), (a2, .inl (cI, 10, .inl x.2.2.2.2.2.2.2.2.2.1)), (a3, .inl (cI, 10, .inl x.2.2.2.2.2.2.2.2.2.2.1)), (a4, .inl (cI, 10, .inl x.2.2.2.2.2.2.2.2.2.2.2))] s.heap := hP
  have hD : va_D A [(ao, .inr (0, [.ref au, .ref af, .ref ak, .int x.2.2.1, .int x.2.2.2.1, .int x.2.2.2.2.1, .int x.2.2.2.2.2.1])), (au, .inr (1, [.int x.1.1, .int x.1.2])), (af, .inr (1, [.int x.2.1.1, .int x.2.1.2])), (ak, .inr (2, [.ref a1, .ref a2, .ref a3, .ref a4, .int (nI x.2.2.2.2.2.2.1), .int x.2.2.2.2.2.2.2.1])), (a1, .inl (cI, 10, .inl x.2.2.2.2.2.2.2.2.1)), (a2, .inl (cI, 10, .inl x.2.2.2.2.2.2.2.2.2.1)), (a3, .inl (cI, 10, .inl x.2.2.2.2.2.2.2.2.2.2.1)), (a4, .inl (cI, 10, .inl x.2.2.2.2.2.2.2.2.2.2.2))] := hD
  refine lv_aload_n hx hb dT_rowOrRefusal_0 rfl (lv_at hl 0 rfl) ?_
  refine lv_iload_n hx hb dT_rowOrRefusal_1 rfl (lv_at hl 1 rfl) ?_
  refine kcI (isR := []) (isC := [0, 1, 2, 3, 4, 5, 6, 7]) (wr := []) (w2 := [(ao, .inr (0, [.ref au, .ref af, .ref ak, .int x.2.2.1, .int x.2.2.2.1, .int x.2.2.2.2.1, .int x.2.2.2.2.2.1])), (au, .inr (1, [.int x.1.1, .int x.1.2])), (af, .inr (1, [.int x.2.1.1, .int x.2.1.2])), (ak, .inr (2, [.ref a1, .ref a2, .ref a3, .ref a4, .int (nI x.2.2.2.2.2.2.1), .int x.2.2.2.2.2.2.2.1])), (a1, .inl (cI, 10, .inl x.2.2.2.2.2.2.2.2.1)), (a2, .inl (cI, 10, .inl x.2.2.2.2.2.2.2.2.2.1)), (a3, .inl (cI, 10, .inl x.2.2.2.2.2.2.2.2.2.2.1)), (a4, .inl (cI, 10, .inl x.2.2.2.2.2.2.2.2.2.2.2))]) (va_runV (As := [.int g1]) (rest := []) ⟨hx, hb, hml, hown, hts⟩ (kt_isOpen l D cI cZ ao au af ak a1 a2 a3 a4 x g1 _) ⟨(callB_of 1 hts gd_yT_isOpen rfl rfl rfl (hts _ mw24) (hts _ mw108) (by decide +kernel) ⟨Nat.le_of_ble_eq_true rfl, Nat.le_of_ble_eq_true rfl⟩), hts _ mw110, hts _ mw0⟩ (kpreV hNw hP hD hK [0, 1, 2, 3, 4, 5, 6, 7] rfl (by decide) 0 rfl (ci := 0) rfl) rfl rfl hl.1 rfl (lv_room (Nat.le_of_ble_eq_true rfl)) dT_rowOrRefusal_2 ⟨Nat.le_of_ble_eq_true rfl, Nat.le_of_ble_eq_true rfl⟩) hP hD hS hA [0, 1, 2, 3, 4, 5, 6, 7] rfl rfl (by decide) (by decide) (by decide) rfl (fun H locs hP hD hS => ?_)
  refine lv_if_ne (tgt := 10) hx hb dT_rowOrRefusal_5 (by decide) (fun h1 => ?_) (fun h1 => ?_)
  ·
    refine lv_aload_n hx hb dT_rowOrRefusal_10 rfl (lv_at hl 0 rfl) ?_
    refine va_get (D := D) (ci := 0) (v := .ref ak) (C := cnT) (T := ftT) (N := 7) hx hb hts inT hown hK hP 0 rfl rfl 2 (by decide) (hts _ mw84) (fun _ h9 => h9) rfl dT_rowOrRefusal_11 ?_
    refine lv_iload_n hx hb dT_rowOrRefusal_14 rfl (lv_at hl 2 rfl) ?_
    refine kcI (isR := [0, 1, 2]) (isC := [3, 4, 5, 6, 7]) (wr := [(ao, .inr (0, [.ref au, .ref af, .ref ak, .int x.2.2.1, .int x.2.2.2.1, .int x.2.2.2.2.1, .int x.2.2.2.2.2.1])), (au, .inr (1, [.int x.1.1, .int x.1.2])), (af, .inr (1, [.int x.2.1.1, .int x.2.1.2]))]) (w2 := [(ao, .inr (0, [.ref au, .ref af, .ref ak, .int x.2.2.1, .int x.2.2.2.1, .int x.2.2.2.2.1, .int x.2.2.2.2.2.1])), (au, .inr (1, [.int x.1.1, .int x.1.2])), (af, .inr (1, [.int x.2.1.1, .int x.2.1.2])), (ak, .inr (2, [.ref a1, .ref a2, .ref a3, .ref a4, .int (nI x.2.2.2.2.2.2.1), .int x.2.2.2.2.2.2.2.1])), (a1, .inl (cI, 10, .inl x.2.2.2.2.2.2.2.2.1)), (a2, .inl (cI, 10, .inl x.2.2.2.2.2.2.2.2.2.1)), (a3, .inl (cI, 10, .inl x.2.2.2.2.2.2.2.2.2.2.1)), (a4, .inl (cI, 10, .inl x.2.2.2.2.2.2.2.2.2.2.2))]) (va_runVN (As := [.int g2]) (rest := []) ⟨hx, hb, hml, hown, hts⟩ (kk_rowWith l D cI cZ ak a1 a2 a3 a4 x.2.2.2.2.2.2 g2 (hn) _) ⟨(va_cnB 1 hts gd_yK_rowWith rfl rfl rfl (hNw _ mw197) (hts _ mw26) (by decide +kernel) ⟨Nat.le_of_ble_eq_true rfl, Nat.le_of_ble_eq_true rfl⟩), hts _ mw199, hts _ mw11⟩ (kpreV hNw hP hD hK [3, 4, 5, 6, 7] rfl (by decide) 3 rfl (ci := 2) rfl) rfl rfl hl.1 rfl (lv_room (Nat.le_of_ble_eq_true rfl)) dT_rowOrRefusal_15 ⟨Nat.le_of_ble_eq_true rfl, Nat.le_of_ble_eq_true rfl⟩) hP hD hS hA [0, 1, 2, 3, 4, 5, 6, 7] rfl rfl (by decide) (by decide) (by decide) rfl (fun H locs hP hD hS => ?_)
    refine lv_istore_n hx hb dT_rowOrRefusal_18 rfl hl (by decide) rfl (fun ls hl => ?_)
    have hl : lv_has ls 4 [(3, .int (zk_rowWith x.2.2.2.2.2.2 g2)), (0, .ref ao), (1, .int g1), (2, .int g2)] := hl
    refine lv_iload_n hx hb dT_rowOrRefusal_19 rfl (lv_at hl 0 rfl) ?_
    refine kJoin (pcJ := 37) (z := (if (zk_rowWith x.2.2.2.2.2.2 g2) < 0 then ((-2) : Int32) else (if (zt_isVisible x (zk_rowWith x.2.2.2.2.2.2 g2)) = 0 then ((-2) : Int32) else (zk_rowWith x.2.2.2.2.2.2 g2)))) (ws := [(ao, .inr (0, [.ref au, .ref af, .ref ak, .int x.2.2.1, .int x.2.2.2.1, .int x.2.2.2.2.1, .int x.2.2.2.2.2.1])), (au, .inr (1, [.int x.1.1, .int x.1.2])), (af, .inr (1, [.int x.2.1.1, .int x.2.1.2])), (ak, .inr (2, [.ref a1, .ref a2, .ref a3, .ref a4, .int (nI x.2.2.2.2.2.2.1), .int x.2.2.2.2.2.2.2.1])), (a1, .inl (cI, 10, .inl x.2.2.2.2.2.2.2.2.1)), (a2, .inl (cI, 10, .inl x.2.2.2.2.2.2.2.2.2.1)), (a3, .inl (cI, 10, .inl x.2.2.2.2.2.2.2.2.2.2.1)), (a4, .inl (cI, 10, .inl x.2.2.2.2.2.2.2.2.2.2.2))]) (rest := []) (D := D) (A := A) (H0 := s.heap) (fun J37 => ?_) (fun H locs hP hD hS => ?_)
    ·
      refine lv_if_lt (tgt := 35) hx hb dT_rowOrRefusal_20 (by decide) (fun h2 => ?_) (fun h2 => ?_)
      ·
        refine lv_bipush (v := (-2)) hx hb dT_rowOrRefusal_35 (by decide) ?_
        exact J37 _ _ hP hD hS _ ((if_pos h2).symm)
      ·
        refine lv_aload_n hx hb dT_rowOrRefusal_23 rfl (lv_at hl 1 rfl) ?_
        refine lv_iload_n hx hb dT_rowOrRefusal_24 rfl (lv_at hl 0 rfl) ?_
        refine kcI (isR := []) (isC := [0, 1, 2, 3, 4, 5, 6, 7]) (wr := []) (w2 := [(ao, .inr (0, [.ref au, .ref af, .ref ak, .int x.2.2.1, .int x.2.2.2.1, .int x.2.2.2.2.1, .int x.2.2.2.2.2.1])), (au, .inr (1, [.int x.1.1, .int x.1.2])), (af, .inr (1, [.int x.2.1.1, .int x.2.1.2])), (ak, .inr (2, [.ref a1, .ref a2, .ref a3, .ref a4, .int (nI x.2.2.2.2.2.2.1), .int x.2.2.2.2.2.2.2.1])), (a1, .inl (cI, 10, .inl x.2.2.2.2.2.2.2.2.1)), (a2, .inl (cI, 10, .inl x.2.2.2.2.2.2.2.2.2.1)), (a3, .inl (cI, 10, .inl x.2.2.2.2.2.2.2.2.2.2.1)), (a4, .inl (cI, 10, .inl x.2.2.2.2.2.2.2.2.2.2.2))]) (va_runV (As := [.int (zk_rowWith x.2.2.2.2.2.2 g2)]) (rest := []) ⟨hx, hb, hml, hown, hts⟩ (kt_isVisible l D cI cZ ao au af ak a1 a2 a3 a4 x (zk_rowWith x.2.2.2.2.2.2 g2) (hn) _) ⟨(callB_of 1 hts gd_yT_isVisible rfl rfl rfl (hts _ mw24) (hts _ mw201) (by decide +kernel) ⟨Nat.le_of_ble_eq_true rfl, Nat.le_of_ble_eq_true rfl⟩), hts _ mw203, hts _ mw12⟩ (kpreV hNw hP hD hK [0, 1, 2, 3, 4, 5, 6, 7] rfl (by decide) 0 rfl (ci := 0) rfl) rfl rfl hl.1 rfl (lv_room (Nat.le_of_ble_eq_true rfl)) dT_rowOrRefusal_25 ⟨Nat.le_of_ble_eq_true rfl, Nat.le_of_ble_eq_true rfl⟩) hP hD hS hA [0, 1, 2, 3, 4, 5, 6, 7] rfl rfl (by decide) (by decide) (by decide) rfl (fun H locs hP hD hS => ?_)
        refine lv_if_eq (tgt := 35) hx hb dT_rowOrRefusal_28 (by decide) (fun h3 => ?_) (fun h3 => ?_)
        ·
          refine lv_bipush (v := (-2)) hx hb dT_rowOrRefusal_35 (by decide) ?_
          exact J37 _ _ hP hD hS _ (((if_neg h2).trans (if_pos h3)).symm)
        ·
          refine lv_iload_n hx hb dT_rowOrRefusal_31 rfl (lv_at hl 0 rfl) ?_
          refine lv_goto hx hb dT_rowOrRefusal_32 (tgt := 37) (by decide) ?_
          exact J37 _ _ hP hD hS _ (((if_neg h2).trans (if_neg h3)).symm)
    exact kretP (by first | (rw [zt_row, if_neg h1]; done) | exact (if_neg h1)) hx hb hr hlk hS hP hD hK dT_rowOrRefusal_37
  ·
    refine lv_iconst (v := (-1)) hx hb dT_rowOrRefusal_8 (by decide) ?_
    exact kretP (by first | (rw [zt_row, if_pos h1]; done) | exact (if_pos h1)) hx hb hr hlk hS hP hD hK dT_rowOrRefusal_9

def zt_use (x : XS) (g1 : Int32) (g2 : Int32) (g3 : Int32) : Int32 := (if (zt_row x g1 g2) < 0 then (zt_row x g1 g2) else (if (zk_has x.2.2.2.2.2.2 (zt_row x g1 g2) g3) = 0 then ((-5) : Int32) else (zt_row x g1 g2)))

set_option maxHeartbeats 4000000 in
set_option maxRecDepth 100000 in
theorem kt_use (l : Launch) (D : va_G) (cI cZ : ClassId) (ao au af ak a1 a2 a3 a4 : Nat) (x : XS) (g1 : Int32) (g2 : Int32) (g3 : Int32) (hn : x.2.2.2.2.2.2.1 ≤ 10) : kI l yT_rowForUse wsT_rowForUse (rmOf 3 66) D (kT cI cZ) [.ref ao, .int g1, .int g2, .int g3] (wX cI ao au af ak a1 a2 a3 a4 x) (zt_use x g1 g2 g3) (wX cI ao au af ak a1 a2 a3 a4 x) := by
  intro sz
  refine kOf (Qc := fun A => kQi D (kT cI cZ) A (zt_use x g1 g2 g3) (wX cI ao au af ak a1 a2 a3 a4 x)) (cc := cT_rowForUse) (maxL := 5) (ret := some .int) (by decide) rfl (Nat.le_of_ble_eq_true rfl) ?_ sz
  intro p e s m args below meth c A ls hx hb hml hown hts hNw hr hlk hin hA hS hP hD hK hl
  show W p l e (rmOf 3 66) s m args below meth c s.heap [] 0 0 (MQ below (kQi D (kT cI cZ) A (zt_use x g1 g2 g3) (wX cI ao au af ak a1 a2 a3 a4 x)) args s 0 0 A) (F0 m 0 ls [])
  have hts : ∀ q ∈ lw_g, q.before args s = true := fun q h => hts q (List.mem_cons_of_mem _ h)
  have hown : s.vm.findClass cnT = some m.cls := hown
  have hl : lv_has ls 5 [(0, .ref ao), (1, .int g1), (2, .int g2), (3, .int g3)] := hl
  have hP : va_P D vwCl [(ao, .inr (0, [.ref au, .ref af, .ref ak, .int x.2.2.1, .int x.2.2.2.1, .int x.2.2.2.2.1, .int x.2.2.2.2.2.1])), (au, .inr (1, [.int x.1.1, .int x.1.2])), (af, .inr (1, [.int x.2.1.1, .int x.2.1.2])), (ak, .inr (2, [.ref a1, .ref a2, .ref a3, .ref a4, .int (nI x.2.2.2.2.2.2.1), .int x.2.2.2.2.2.2.2.1])), (a1, .inl (cI, 10, .inl x.2.2.2.2.2.2.2.2.1)), (a2, .inl (cI, 10, .inl x.2.2.2.2.2.2.2.2.2.1)), (a3, .inl (cI, 10, .inl x.2.2.2.2.2.2.2.2.2.2.1)), (a4, .inl (cI, 10, .inl x.2.2.2.2.2.2.2.2.2.2.2))] s.heap := hP
  have hD : va_D A [(ao, .inr (0, [.ref au, .ref af, .ref ak, .int x.2.2.1, .int x.2.2.2.1, .int x.2.2.2.2.1, .int x.2.2.2.2.2.1])), (au, .inr (1, [.int x.1.1, .int x.1.2])), (af, .inr (1, [.int x.2.1.1, .int x.2.1.2])), (ak, .inr (2, [.ref a1, .ref a2, .ref a3, .ref a4, .int (nI x.2.2.2.2.2.2.1), .int x.2.2.2.2.2.2.2.1])), (a1, .inl (cI, 10, .inl x.2.2.2.2.2.2.2.2.1)), (a2, .inl (cI, 10, .inl x.2.2.2.2.2.2.2.2.2.1)), (a3, .inl (cI, 10, .inl x.2.2.2.2.2.2.2.2.2.2.1)), (a4, .inl (cI, 10, .inl x.2.2.2.2.2.2.2.2.2.2.2))] := hD
  refine lv_aload_n hx hb dT_rowForUse_0 rfl (lv_at hl 0 rfl) ?_
  refine lv_iload_n hx hb dT_rowForUse_1 rfl (lv_at hl 1 rfl) ?_
  refine lv_iload_n hx hb dT_rowForUse_2 rfl (lv_at hl 2 rfl) ?_
  refine kcI (isR := []) (isC := [0, 1, 2, 3, 4, 5, 6, 7]) (wr := []) (w2 := [(ao, .inr (0, [.ref au, .ref af, .ref ak, .int x.2.2.1, .int x.2.2.2.1, .int x.2.2.2.2.1, .int x.2.2.2.2.2.1])), (au, .inr (1, [.int x.1.1, .int x.1.2])), (af, .inr (1, [.int x.2.1.1, .int x.2.1.2])), (ak, .inr (2, [.ref a1, .ref a2, .ref a3, .ref a4, .int (nI x.2.2.2.2.2.2.1), .int x.2.2.2.2.2.2.2.1])), (a1, .inl (cI, 10, .inl x.2.2.2.2.2.2.2.2.1)), (a2, .inl (cI, 10, .inl x.2.2.2.2.2.2.2.2.2.1)), (a3, .inl (cI, 10, .inl x.2.2.2.2.2.2.2.2.2.2.1)), (a4, .inl (cI, 10, .inl x.2.2.2.2.2.2.2.2.2.2.2))]) (va_runV (As := [.int g1, .int g2]) (rest := []) ⟨hx, hb, hml, hown, hts⟩ (kt_row l D cI cZ ao au af ak a1 a2 a3 a4 x g1 g2 (hn) _) ⟨(callB_of 2 hts gd_yT_rowOrRefusal rfl rfl rfl (hts _ mw24) (hts _ mw193) (by decide +kernel) ⟨Nat.le_of_ble_eq_true rfl, Nat.le_of_ble_eq_true rfl⟩), hts _ mw195, hts _ mw10⟩ (kpreV hNw hP hD hK [0, 1, 2, 3, 4, 5, 6, 7] rfl (by decide) 0 rfl (ci := 0) rfl) rfl rfl hl.1 rfl (lv_room (Nat.le_of_ble_eq_true rfl)) dT_rowForUse_3 ⟨Nat.le_of_ble_eq_true rfl, Nat.le_of_ble_eq_true rfl⟩) hP hD hS hA [0, 1, 2, 3, 4, 5, 6, 7] rfl rfl (by decide) (by decide) (by decide) rfl (fun H locs hP hD hS => ?_)
  refine lv_istore hx hb dT_rowForUse_6 hl (by decide) rfl (fun ls hl => ?_)
  have hl : lv_has ls 5 [(4, .int (zt_row x g1 g2)), (0, .ref ao), (1, .int g1), (2, .int g2), (3, .int g3)] := hl
  refine lv_iload hx hb dT_rowForUse_8 (lv_at hl 0 rfl) ?_
  refine kJoin (pcJ := 33) (z := (if (zt_row x g1 g2) < 0 then (zt_row x g1 g2) else (if (zk_has x.2.2.2.2.2.2 (zt_row x g1 g2) g3) = 0 then ((-5) : Int32) else (zt_row x g1 g2)))) (ws := [(ao, .inr (0, [.ref au, .ref af, .ref ak, .int x.2.2.1, .int x.2.2.2.1, .int x.2.2.2.2.1, .int x.2.2.2.2.2.1])), (au, .inr (1, [.int x.1.1, .int x.1.2])), (af, .inr (1, [.int x.2.1.1, .int x.2.1.2])), (ak, .inr (2, [.ref a1, .ref a2, .ref a3, .ref a4, .int (nI x.2.2.2.2.2.2.1), .int x.2.2.2.2.2.2.2.1])), (a1, .inl (cI, 10, .inl x.2.2.2.2.2.2.2.2.1)), (a2, .inl (cI, 10, .inl x.2.2.2.2.2.2.2.2.2.1)), (a3, .inl (cI, 10, .inl x.2.2.2.2.2.2.2.2.2.2.1)), (a4, .inl (cI, 10, .inl x.2.2.2.2.2.2.2.2.2.2.2))]) (rest := []) (D := D) (A := A) (H0 := s.heap) (fun J33 => ?_) (fun H locs hP hD hS => ?_)
  ·
    refine lv_if_lt (tgt := 31) hx hb dT_rowForUse_10 (by decide) (fun h1 => ?_) (fun h1 => ?_)
    ·
      refine lv_iload hx hb dT_rowForUse_31 (lv_at hl 0 rfl) ?_
      exact J33 _ _ hP hD hS _ ((if_pos h1).symm)
    ·
      refine lv_aload_n hx hb dT_rowForUse_13 rfl (lv_at hl 1 rfl) ?_
      refine va_get (D := D) (ci := 0) (v := .ref ak) (C := cnT) (T := ftT) (N := 7) hx hb hts inT hown hK hP 0 rfl rfl 2 (by decide) (hts _ mw84) (fun _ h9 => h9) rfl dT_rowForUse_14 ?_
      refine lv_iload hx hb dT_rowForUse_17 (lv_at hl 0 rfl) ?_
      refine lv_iload_n hx hb dT_rowForUse_19 rfl (lv_at hl 4 rfl) ?_
      refine kcI (isR := [0, 1, 2]) (isC := [3, 4, 5, 6, 7]) (wr := [(ao, .inr (0, [.ref au, .ref af, .ref ak, .int x.2.2.1, .int x.2.2.2.1, .int x.2.2.2.2.1, .int x.2.2.2.2.2.1])), (au, .inr (1, [.int x.1.1, .int x.1.2])), (af, .inr (1, [.int x.2.1.1, .int x.2.1.2]))]) (w2 := [(ao, .inr (0, [.ref au, .ref af, .ref ak, .int x.2.2.1, .int x.2.2.2.1, .int x.2.2.2.2.1, .int x.2.2.2.2.2.1])), (au, .inr (1, [.int x.1.1, .int x.1.2])), (af, .inr (1, [.int x.2.1.1, .int x.2.1.2])), (ak, .inr (2, [.ref a1, .ref a2, .ref a3, .ref a4, .int (nI x.2.2.2.2.2.2.1), .int x.2.2.2.2.2.2.2.1])), (a1, .inl (cI, 10, .inl x.2.2.2.2.2.2.2.2.1)), (a2, .inl (cI, 10, .inl x.2.2.2.2.2.2.2.2.2.1)), (a3, .inl (cI, 10, .inl x.2.2.2.2.2.2.2.2.2.2.1)), (a4, .inl (cI, 10, .inl x.2.2.2.2.2.2.2.2.2.2.2))]) (va_runVN (As := [.int (zt_row x g1 g2), .int g3]) (rest := []) ⟨hx, hb, hml, hown, hts⟩ (kk_has l D cI cZ ak a1 a2 a3 a4 x.2.2.2.2.2.2 (zt_row x g1 g2) g3 (hn) _) ⟨(va_cnB 2 hts gd_yK_has rfl rfl rfl (hNw _ mw205) (hts _ mw26) (by decide +kernel) ⟨Nat.le_of_ble_eq_true rfl, Nat.le_of_ble_eq_true rfl⟩), hts _ mw142, hts _ mw5⟩ (kpreV hNw hP hD hK [3, 4, 5, 6, 7] rfl (by decide) 3 rfl (ci := 2) rfl) rfl rfl hl.1 rfl (lv_room (Nat.le_of_ble_eq_true rfl)) dT_rowForUse_20 ⟨Nat.le_of_ble_eq_true rfl, Nat.le_of_ble_eq_true rfl⟩) hP hD hS hA [0, 1, 2, 3, 4, 5, 6, 7] rfl rfl (by decide) (by decide) (by decide) rfl (fun H locs hP hD hS => ?_)
      refine lv_if_ne (tgt := 31) hx hb dT_rowForUse_23 (by decide) (fun h2 => ?_) (fun h2 => ?_)
      ·
        refine lv_iload hx hb dT_rowForUse_31 (lv_at hl 0 rfl) ?_
        exact J33 _ _ hP hD hS _ (((if_neg h1).trans (if_neg h2)).symm)
      ·
        refine lv_bipush (v := (-5)) hx hb dT_rowForUse_26 (by decide) ?_
        refine lv_goto hx hb dT_rowForUse_28 (tgt := 33) (by decide) ?_
        exact J33 _ _ hP hD hS _ (((if_neg h1).trans (if_pos h2)).symm)
  exact kretP (rfl) hx hb hr hlk hS hP hD hK dT_rowForUse_33

def zt_refusal (x : XS) (g1 : Int32) (g2 : Int32) (g3 : Int32) : Int32 := (if (zt_isOpen x g1) = 0 then (-1) else (if (g2 &&& 2) = 0 then (if (g2 &&& 1) = 0 then (if g3 = 0 then (-5) else (if (zt_areGood g2) = 0 then (-5) else (if (nI x.2.2.2.2.2.2.1) < 10 then (0 : Int32) else ((-6) : Int32)))) else (if (zt_isReadWrite x g1) = 0 then (-4) else (if g3 = 0 then (-5) else (if (zt_areGood g2) = 0 then (-5) else (if (nI x.2.2.2.2.2.2.1) < 10 then (0 : Int32) else ((-6) : Int32)))))) else (if x.2.2.1 = 1 then (if (g2 &&& 1) = 0 then (if g3 = 0 then (-5) else (if (zt_areGood g2) = 0 then (-5) else (if (nI x.2.2.2.2.2.2.1) < 10 then (0 : Int32) else ((-6) : Int32)))) else (if (zt_isReadWrite x g1) = 0 then (-4) else (if g3 = 0 then (-5) else (if (zt_areGood g2) = 0 then (-5) else (if (nI x.2.2.2.2.2.2.1) < 10 then (0 : Int32) else ((-6) : Int32)))))) else (-3))))

set_option maxHeartbeats 4000000 in
set_option maxRecDepth 100000 in
theorem kt_refusal (l : Launch) (D : va_G) (cI cZ : ClassId) (ao au af ak a1 a2 a3 a4 : Nat) (x : XS) (g1 : Int32) (g2 : Int32) (g3 : Int32) (hn : x.2.2.2.2.2.2.1 ≤ 10) : kI l yT_refusalToMake wsT_refusalToMake (rmOf 2 42) D (kT cI cZ) [.ref ao, .int g1, .int g2, .int g3] (wX cI ao au af ak a1 a2 a3 a4 x) (zt_refusal x g1 g2 g3) (wX cI ao au af ak a1 a2 a3 a4 x) := by
  intro sz
  refine kOf (Qc := fun A => kQi D (kT cI cZ) A (zt_refusal x g1 g2 g3) (wX cI ao au af ak a1 a2 a3 a4 x)) (cc := cT_refusalToMake) (maxL := 4) (ret := some .int) (by decide) rfl (Nat.le_of_ble_eq_true rfl) ?_ sz
  intro p e s m args below meth c A ls hx hb hml hown hts hNw hr hlk hin hA hS hP hD hK hl
  show W p l e (rmOf 2 42) s m args below meth c s.heap [] 0 0 (MQ below (kQi D (kT cI cZ) A (zt_refusal x g1 g2 g3) (wX cI ao au af ak a1 a2 a3 a4 x)) args s 0 0 A) (F0 m 0 ls [])
  have hts : ∀ q ∈ lw_g, q.before args s = true := fun q h => hts q (List.mem_cons_of_mem _ h)
  have hown : s.vm.findClass cnT = some m.cls := hown
  have hl : lv_has ls 4 [(0, .ref ao), (1, .int g1), (2, .int g2), (3, .int g3)] := hl
  have hP : va_P D vwCl [(ao, .inr (0, [.ref au, .ref af, .ref ak, .int x.2.2.1, .int x.2.2.2.1, .int x.2.2.2.2.1, .int x.2.2.2.2.2.1])), (au, .inr (1, [.int x.1.1, .int x.1.2])), (af, .inr (1, [.int x.2.1.1, .int x.2.1.2])), (ak, .inr (2, [.ref a1, .ref a2, .ref a3, .ref a4, .int (nI x.2.2.2.2.2.2.1), .int x.2.2.2.2.2.2.2.1])), (a1, .inl (cI, 10, .inl x.2.2.2.2.2.2.2.2.1)), (a2, .inl (cI, 10, .inl x.2.2.2.2.2.2.2.2.2.1)), (a3, .inl (cI, 10, .inl x.2.2.2.2.2.2.2.2.2.2.1)), (a4, .inl (cI, 10, .inl x.2.2.2.2.2.2.2.2.2.2.2))] s.heap := hP
  have hD : va_D A [(ao, .inr (0, [.ref au, .ref af, .ref ak, .int x.2.2.1, .int x.2.2.2.1, .int x.2.2.2.2.1, .int x.2.2.2.2.2.1])), (au, .inr (1, [.int x.1.1, .int x.1.2])), (af, .inr (1, [.int x.2.1.1, .int x.2.1.2])), (ak, .inr (2, [.ref a1, .ref a2, .ref a3, .ref a4, .int (nI x.2.2.2.2.2.2.1), .int x.2.2.2.2.2.2.2.1])), (a1, .inl (cI, 10, .inl x.2.2.2.2.2.2.2.2.1)), (a2, .inl (cI, 10, .inl x.2.2.2.2.2.2.2.2.2.1)), (a3, .inl (cI, 10, .inl x.2.2.2.2.2.2.2.2.2.2.1)), (a4, .inl (cI, 10, .inl x.2.2.2.2.2.2.2.2.2.2.2))] := hD
  refine lv_aload_n hx hb dT_refusalToMake_0 rfl (lv_at hl 0 rfl) ?_
  refine lv_iload_n hx hb dT_refusalToMake_1 rfl (lv_at hl 1 rfl) ?_
  refine kcI (isR := []) (isC := [0, 1, 2, 3, 4, 5, 6, 7]) (wr := []) (w2 := [(ao, .inr (0, [.ref au, .ref af, .ref ak, .int x.2.2.1, .int x.2.2.2.1, .int x.2.2.2.2.1, .int x.2.2.2.2.2.1])), (au, .inr (1, [.int x.1.1, .int x.1.2])), (af, .inr (1, [.int x.2.1.1, .int x.2.1.2])), (ak, .inr (2, [.ref a1, .ref a2, .ref a3, .ref a4, .int (nI x.2.2.2.2.2.2.1), .int x.2.2.2.2.2.2.2.1])), (a1, .inl (cI, 10, .inl x.2.2.2.2.2.2.2.2.1)), (a2, .inl (cI, 10, .inl x.2.2.2.2.2.2.2.2.2.1)), (a3, .inl (cI, 10, .inl x.2.2.2.2.2.2.2.2.2.2.1)), (a4, .inl (cI, 10, .inl x.2.2.2.2.2.2.2.2.2.2.2))]) (va_runV (As := [.int g1]) (rest := []) ⟨hx, hb, hml, hown, hts⟩ (kt_isOpen l D cI cZ ao au af ak a1 a2 a3 a4 x g1 _) ⟨(callB_of 1 hts gd_yT_isOpen rfl rfl rfl (hts _ mw24) (hts _ mw108) (by decide +kernel) ⟨Nat.le_of_ble_eq_true rfl, Nat.le_of_ble_eq_true rfl⟩), hts _ mw110, hts _ mw0⟩ (kpreV hNw hP hD hK [0, 1, 2, 3, 4, 5, 6, 7] rfl (by decide) 0 rfl (ci := 0) rfl) rfl rfl hl.1 rfl (lv_room (Nat.le_of_ble_eq_true rfl)) dT_refusalToMake_2 ⟨Nat.le_of_ble_eq_true rfl, Nat.le_of_ble_eq_true rfl⟩) hP hD hS hA [0, 1, 2, 3, 4, 5, 6, 7] rfl rfl (by decide) (by decide) (by decide) rfl (fun H locs hP hD hS => ?_)
  refine lv_if_ne (tgt := 10) hx hb dT_refusalToMake_5 (by decide) (fun h1 => ?_) (fun h1 => ?_)
  ·
    refine lv_iload_n hx hb dT_refusalToMake_10 rfl (lv_at hl 2 rfl) ?_
    refine lv_iconst (v := 2) hx hb dT_refusalToMake_11 (by decide) ?_
    refine lv_iand hx hb dT_refusalToMake_12 ?_
    refine lv_if_eq (tgt := 27) hx hb dT_refusalToMake_13 (by decide) (fun h2 => ?_) (fun h2 => ?_)
    ·
      refine lv_iload_n hx hb dT_refusalToMake_27 rfl (lv_at hl 2 rfl) ?_
      refine lv_iconst (v := 1) hx hb dT_refusalToMake_28 (by decide) ?_
      refine lv_iand hx hb dT_refusalToMake_29 ?_
      refine lv_if_eq (tgt := 44) hx hb dT_refusalToMake_30 (by decide) (fun h3 => ?_) (fun h3 => ?_)
      ·
        refine lv_iload_n hx hb dT_refusalToMake_44 rfl (lv_at hl 3 rfl) ?_
        refine lv_if_eq (tgt := 55) hx hb dT_refusalToMake_45 (by decide) (fun h4 => ?_) (fun h4 => ?_)
        ·
          refine lv_bipush (v := (-5)) hx hb dT_refusalToMake_55 (by decide) ?_
          exact kretP (by first | (rw [zt_refusal, if_neg h1, if_pos h2, if_pos h3, if_pos h4]; done) | exact ((if_neg h1).trans ((if_pos h2).trans ((if_pos h3).trans (if_pos h4))))) hx hb hr hlk hS hP hD hK dT_refusalToMake_57
        ·
          refine lv_iload_n hx hb dT_refusalToMake_48 rfl (lv_at hl 2 rfl) ?_
          refine kcI (isR := [0, 1, 2, 3, 4, 5, 6, 7]) (isC := []) (wr := [(ao, .inr (0, [.ref au, .ref af, .ref ak, .int x.2.2.1, .int x.2.2.2.1, .int x.2.2.2.2.1, .int x.2.2.2.2.2.1])), (au, .inr (1, [.int x.1.1, .int x.1.2])), (af, .inr (1, [.int x.2.1.1, .int x.2.1.2])), (ak, .inr (2, [.ref a1, .ref a2, .ref a3, .ref a4, .int (nI x.2.2.2.2.2.2.1), .int x.2.2.2.2.2.2.2.1])), (a1, .inl (cI, 10, .inl x.2.2.2.2.2.2.2.2.1)), (a2, .inl (cI, 10, .inl x.2.2.2.2.2.2.2.2.2.1)), (a3, .inl (cI, 10, .inl x.2.2.2.2.2.2.2.2.2.2.1)), (a4, .inl (cI, 10, .inl x.2.2.2.2.2.2.2.2.2.2.2))]) (w2 := [(ao, .inr (0, [.ref au, .ref af, .ref ak, .int x.2.2.1, .int x.2.2.2.1, .int x.2.2.2.2.1, .int x.2.2.2.2.2.1])), (au, .inr (1, [.int x.1.1, .int x.1.2])), (af, .inr (1, [.int x.2.1.1, .int x.2.1.2])), (ak, .inr (2, [.ref a1, .ref a2, .ref a3, .ref a4, .int (nI x.2.2.2.2.2.2.1), .int x.2.2.2.2.2.2.2.1])), (a1, .inl (cI, 10, .inl x.2.2.2.2.2.2.2.2.1)), (a2, .inl (cI, 10, .inl x.2.2.2.2.2.2.2.2.2.1)), (a3, .inl (cI, 10, .inl x.2.2.2.2.2.2.2.2.2.2.1)), (a4, .inl (cI, 10, .inl x.2.2.2.2.2.2.2.2.2.2.2))]) (va_runS (As := [.int g2]) (rest := []) ⟨hx, hb, hml, hown, hts⟩ (kt_areGood l D cI cZ g2 _) ⟨(callB_of 1 hts gd_yT_areGood rfl rfl rfl (hts _ mw24) (hts _ mw164) (by decide +kernel) ⟨Nat.le_of_ble_eq_true rfl, Nat.le_of_ble_eq_true rfl⟩), hts _ mw165⟩ (kpreS hNw hP hD hK [] rfl (by decide)) rfl rfl hl.1 rfl (lv_room (Nat.le_of_ble_eq_true rfl)) dT_refusalToMake_49 ⟨Nat.le_of_ble_eq_true rfl, Nat.le_of_ble_eq_true rfl⟩) hP hD hS hA [0, 1, 2, 3, 4, 5, 6, 7] rfl rfl (by decide) (by decide) (by decide) rfl (fun H locs hP hD hS => ?_)
          refine lv_if_ne (tgt := 58) hx hb dT_refusalToMake_52 (by decide) (fun h5 => ?_) (fun h5 => ?_)
          ·
            refine lv_aload_n hx hb dT_refusalToMake_58 rfl (lv_at hl 0 rfl) ?_
            refine va_get (D := D) (ci := 0) (v := .ref ak) (C := cnT) (T := ftT) (N := 7) hx hb hts inT hown hK hP 0 rfl rfl 2 (by decide) (hts _ mw84) (fun _ h9 => h9) rfl dT_refusalToMake_59 ?_
            refine va_getN (D := D) (ci := 2) (v := .int (nI x.2.2.2.2.2.2.1)) (C := cnK) (T := ftK) (N := 6) hx hb hts inK hown hK hP 3 rfl rfl 4 (by decide) (va_Nw.use rfl (hNw _ mw65)) (fun _ h9 => h9) rfl dT_refusalToMake_62 ?_
            refine lv_bipush (v := 10) hx hb dT_refusalToMake_65 (by decide) ?_
            refine kJoin (pcJ := 76) (z := (if (nI x.2.2.2.2.2.2.1) < 10 then (0 : Int32) else ((-6) : Int32))) (ws := [(ao, .inr (0, [.ref au, .ref af, .ref ak, .int x.2.2.1, .int x.2.2.2.1, .int x.2.2.2.2.1, .int x.2.2.2.2.2.1])), (au, .inr (1, [.int x.1.1, .int x.1.2])), (af, .inr (1, [.int x.2.1.1, .int x.2.1.2])), (ak, .inr (2, [.ref a1, .ref a2, .ref a3, .ref a4, .int (nI x.2.2.2.2.2.2.1), .int x.2.2.2.2.2.2.2.1])), (a1, .inl (cI, 10, .inl x.2.2.2.2.2.2.2.2.1)), (a2, .inl (cI, 10, .inl x.2.2.2.2.2.2.2.2.2.1)), (a3, .inl (cI, 10, .inl x.2.2.2.2.2.2.2.2.2.2.1)), (a4, .inl (cI, 10, .inl x.2.2.2.2.2.2.2.2.2.2.2))]) (rest := []) (D := D) (A := A) (H0 := s.heap) (fun J76 => ?_) (fun H locs hP hD hS => ?_)
            ·
              refine lv_icmp_lt (tgt := 75) hx hb dT_refusalToMake_67 (by decide) (fun h6 => ?_) (fun h6 => ?_)
              ·
                refine lv_iconst (v := 0) hx hb dT_refusalToMake_75 (by decide) ?_
                exact J76 _ _ hP hD hS _ ((if_pos h6).symm)
              ·
                refine lv_bipush (v := (-6)) hx hb dT_refusalToMake_70 (by decide) ?_
                refine lv_goto hx hb dT_refusalToMake_72 (tgt := 76) (by decide) ?_
                exact J76 _ _ hP hD hS _ ((if_neg h6).symm)
            exact kretP (by first | (rw [zt_refusal, if_neg h1, if_pos h2, if_pos h3, if_neg h4, if_neg h5]; done) | exact ((if_neg h1).trans ((if_pos h2).trans ((if_pos h3).trans ((if_neg h4).trans (if_neg h5)))))) hx hb hr hlk hS hP hD hK dT_refusalToMake_76
          ·
            refine lv_bipush (v := (-5)) hx hb dT_refusalToMake_55 (by decide) ?_
            exact kretP (by first | (rw [zt_refusal, if_neg h1, if_pos h2, if_pos h3, if_neg h4, if_pos h5]; done) | exact ((if_neg h1).trans ((if_pos h2).trans ((if_pos h3).trans ((if_neg h4).trans (if_pos h5)))))) hx hb hr hlk hS hP hD hK dT_refusalToMake_57
      ·
        refine lv_aload_n hx hb dT_refusalToMake_33 rfl (lv_at hl 0 rfl) ?_
        refine lv_iload_n hx hb dT_refusalToMake_34 rfl (lv_at hl 1 rfl) ?_
        refine kcI (isR := []) (isC := [0, 1, 2, 3, 4, 5, 6, 7]) (wr := []) (w2 := [(ao, .inr (0, [.ref au, .ref af, .ref ak, .int x.2.2.1, .int x.2.2.2.1, .int x.2.2.2.2.1, .int x.2.2.2.2.2.1])), (au, .inr (1, [.int x.1.1, .int x.1.2])), (af, .inr (1, [.int x.2.1.1, .int x.2.1.2])), (ak, .inr (2, [.ref a1, .ref a2, .ref a3, .ref a4, .int (nI x.2.2.2.2.2.2.1), .int x.2.2.2.2.2.2.2.1])), (a1, .inl (cI, 10, .inl x.2.2.2.2.2.2.2.2.1)), (a2, .inl (cI, 10, .inl x.2.2.2.2.2.2.2.2.2.1)), (a3, .inl (cI, 10, .inl x.2.2.2.2.2.2.2.2.2.2.1)), (a4, .inl (cI, 10, .inl x.2.2.2.2.2.2.2.2.2.2.2))]) (va_runV (As := [.int g1]) (rest := []) ⟨hx, hb, hml, hown, hts⟩ (kt_isReadWrite l D cI cZ ao au af ak a1 a2 a3 a4 x g1 _) ⟨(callB_of 1 hts gd_yT_isReadWrite rfl rfl rfl (hts _ mw24) (hts _ mw160) (by decide +kernel) ⟨Nat.le_of_ble_eq_true rfl, Nat.le_of_ble_eq_true rfl⟩), hts _ mw162, hts _ mw8⟩ (kpreV hNw hP hD hK [0, 1, 2, 3, 4, 5, 6, 7] rfl (by decide) 0 rfl (ci := 0) rfl) rfl rfl hl.1 rfl (lv_room (Nat.le_of_ble_eq_true rfl)) dT_refusalToMake_35 ⟨Nat.le_of_ble_eq_true rfl, Nat.le_of_ble_eq_true rfl⟩) hP hD hS hA [0, 1, 2, 3, 4, 5, 6, 7] rfl rfl (by decide) (by decide) (by decide) rfl (fun H locs hP hD hS => ?_)
        refine lv_if_ne (tgt := 44) hx hb dT_refusalToMake_38 (by decide) (fun h7 => ?_) (fun h7 => ?_)
        ·
          refine lv_iload_n hx hb dT_refusalToMake_44 rfl (lv_at hl 3 rfl) ?_
          refine lv_if_eq (tgt := 55) hx hb dT_refusalToMake_45 (by decide) (fun h8 => ?_) (fun h8 => ?_)
          ·
            refine lv_bipush (v := (-5)) hx hb dT_refusalToMake_55 (by decide) ?_
            exact kretP (by first | (rw [zt_refusal, if_neg h1, if_pos h2, if_neg h3, if_neg h7, if_pos h8]; done) | exact ((if_neg h1).trans ((if_pos h2).trans ((if_neg h3).trans ((if_neg h7).trans (if_pos h8)))))) hx hb hr hlk hS hP hD hK dT_refusalToMake_57
          ·
            refine lv_iload_n hx hb dT_refusalToMake_48 rfl (lv_at hl 2 rfl) ?_
            refine kcI (isR := [0, 1, 2, 3, 4, 5, 6, 7]) (isC := []) (wr := [(ao, .inr (0, [.ref au, .ref af, .ref ak, .int x.2.2.1, .int x.2.2.2.1, .int x.2.2.2.2.1, .int x.2.2.2.2.2.1])), (au, .inr (1, [.int x.1.1, .int x.1.2])), (af, .inr (1, [.int x.2.1.1, .int x.2.1.2])), (ak, .inr (2, [.ref a1, .ref a2, .ref a3, .ref a4, .int (nI x.2.2.2.2.2.2.1), .int x.2.2.2.2.2.2.2.1])), (a1, .inl (cI, 10, .inl x.2.2.2.2.2.2.2.2.1)), (a2, .inl (cI, 10, .inl x.2.2.2.2.2.2.2.2.2.1)), (a3, .inl (cI, 10, .inl x.2.2.2.2.2.2.2.2.2.2.1)), (a4, .inl (cI, 10, .inl x.2.2.2.2.2.2.2.2.2.2.2))]) (w2 := [(ao, .inr (0, [.ref au, .ref af, .ref ak, .int x.2.2.1, .int x.2.2.2.1, .int x.2.2.2.2.1, .int x.2.2.2.2.2.1])), (au, .inr (1, [.int x.1.1, .int x.1.2])), (af, .inr (1, [.int x.2.1.1, .int x.2.1.2])), (ak, .inr (2, [.ref a1, .ref a2, .ref a3, .ref a4, .int (nI x.2.2.2.2.2.2.1), .int x.2.2.2.2.2.2.2.1])), (a1, .inl (cI, 10, .inl x.2.2.2.2.2.2.2.2.1)), (a2, .inl (cI, 10, .inl x.2.2.2.2.2.2.2.2.2.1)), (a3, .inl (cI, 10, .inl x.2.2.2.2.2.2.2.2.2.2.1)), (a4, .inl (cI, 10, .inl x.2.2.2.2.2.2.2.2.2.2.2))]) (va_runS (As := [.int g2]) (rest := []) ⟨hx, hb, hml, hown, hts⟩ (kt_areGood l D cI cZ g2 _) ⟨(callB_of 1 hts gd_yT_areGood rfl rfl rfl (hts _ mw24) (hts _ mw164) (by decide +kernel) ⟨Nat.le_of_ble_eq_true rfl, Nat.le_of_ble_eq_true rfl⟩), hts _ mw165⟩ (kpreS hNw hP hD hK [] rfl (by decide)) rfl rfl hl.1 rfl (lv_room (Nat.le_of_ble_eq_true rfl)) dT_refusalToMake_49 ⟨Nat.le_of_ble_eq_true rfl, Nat.le_of_ble_eq_true rfl⟩) hP hD hS hA [0, 1, 2, 3, 4, 5, 6, 7] rfl rfl (by decide) (by decide) (by decide) rfl (fun H locs hP hD hS => ?_)
            refine lv_if_ne (tgt := 58) hx hb dT_refusalToMake_52 (by decide) (fun h9 => ?_) (fun h9 => ?_)
            ·
              refine lv_aload_n hx hb dT_refusalToMake_58 rfl (lv_at hl 0 rfl) ?_
              refine va_get (D := D) (ci := 0) (v := .ref ak) (C := cnT) (T := ftT) (N := 7) hx hb hts inT hown hK hP 0 rfl rfl 2 (by decide) (hts _ mw84) (fun _ h9 => h9) rfl dT_refusalToMake_59 ?_
              refine va_getN (D := D) (ci := 2) (v := .int (nI x.2.2.2.2.2.2.1)) (C := cnK) (T := ftK) (N := 6) hx hb hts inK hown hK hP 3 rfl rfl 4 (by decide) (va_Nw.use rfl (hNw _ mw65)) (fun _ h9 => h9) rfl dT_refusalToMake_62 ?_
              refine lv_bipush (v := 10) hx hb dT_refusalToMake_65 (by decide) ?_
              refine kJoin (pcJ := 76) (z := (if (nI x.2.2.2.2.2.2.1) < 10 then (0 : Int32) else ((-6) : Int32))) (ws := [(ao, .inr (0, [.ref au, .ref af, .ref ak, .int x.2.2.1, .int x.2.2.2.1, .int x.2.2.2.2.1, .int x.2.2.2.2.2.1])), (au, .inr (1, [.int x.1.1, .int x.1.2])), (af, .inr (1, [.int x.2.1.1, .int x.2.1.2])), (ak, .inr (2, [.ref a1, .ref a2, .ref a3, .ref a4, .int (nI x.2.2.2.2.2.2.1), .int x.2.2.2.2.2.2.2.1])), (a1, .inl (cI, 10, .inl x.2.2.2.2.2.2.2.2.1)), (a2, .inl (cI, 10, .inl x.2.2.2.2.2.2.2.2.2.1)), (a3, .inl (cI, 10, .inl x.2.2.2.2.2.2.2.2.2.2.1)), (a4, .inl (cI, 10, .inl x.2.2.2.2.2.2.2.2.2.2.2))]) (rest := []) (D := D) (A := A) (H0 := s.heap) (fun J76 => ?_) (fun H locs hP hD hS => ?_)
              ·
                refine lv_icmp_lt (tgt := 75) hx hb dT_refusalToMake_67 (by decide) (fun h10 => ?_) (fun h10 => ?_)
                ·
                  refine lv_iconst (v := 0) hx hb dT_refusalToMake_75 (by decide) ?_
                  exact J76 _ _ hP hD hS _ ((if_pos h10).symm)
                ·
                  refine lv_bipush (v := (-6)) hx hb dT_refusalToMake_70 (by decide) ?_
                  refine lv_goto hx hb dT_refusalToMake_72 (tgt := 76) (by decide) ?_
                  exact J76 _ _ hP hD hS _ ((if_neg h10).symm)
              exact kretP (by first | (rw [zt_refusal, if_neg h1, if_pos h2, if_neg h3, if_neg h7, if_neg h8, if_neg h9]; done) | exact ((if_neg h1).trans ((if_pos h2).trans ((if_neg h3).trans ((if_neg h7).trans ((if_neg h8).trans (if_neg h9))))))) hx hb hr hlk hS hP hD hK dT_refusalToMake_76
            ·
              refine lv_bipush (v := (-5)) hx hb dT_refusalToMake_55 (by decide) ?_
              exact kretP (by first | (rw [zt_refusal, if_neg h1, if_pos h2, if_neg h3, if_neg h7, if_neg h8, if_pos h9]; done) | exact ((if_neg h1).trans ((if_pos h2).trans ((if_neg h3).trans ((if_neg h7).trans ((if_neg h8).trans (if_pos h9))))))) hx hb hr hlk hS hP hD hK dT_refusalToMake_57
        ·
          refine lv_bipush (v := (-4)) hx hb dT_refusalToMake_41 (by decide) ?_
          exact kretP (by first | (rw [zt_refusal, if_neg h1, if_pos h2, if_neg h3, if_pos h7]; done) | exact ((if_neg h1).trans ((if_pos h2).trans ((if_neg h3).trans (if_pos h7))))) hx hb hr hlk hS hP hD hK dT_refusalToMake_43
    ·
      refine lv_aload_n hx hb dT_refusalToMake_16 rfl (lv_at hl 0 rfl) ?_
      refine va_get (D := D) (ci := 0) (v := .int x.2.2.1) (C := cnT) (T := ftT) (N := 7) hx hb hts inT hown hK hP 0 rfl rfl 3 (by decide) (hts _ mw85) (fun _ h9 => h9) rfl dT_refusalToMake_17 ?_
      refine lv_iconst (v := 1) hx hb dT_refusalToMake_20 (by decide) ?_
      refine lv_icmp_eq (tgt := 27) hx hb dT_refusalToMake_21 (by decide) (fun h11 => ?_) (fun h11 => ?_)
      ·
        refine lv_iload_n hx hb dT_refusalToMake_27 rfl (lv_at hl 2 rfl) ?_
        refine lv_iconst (v := 1) hx hb dT_refusalToMake_28 (by decide) ?_
        refine lv_iand hx hb dT_refusalToMake_29 ?_
        refine lv_if_eq (tgt := 44) hx hb dT_refusalToMake_30 (by decide) (fun h12 => ?_) (fun h12 => ?_)
        ·
          refine lv_iload_n hx hb dT_refusalToMake_44 rfl (lv_at hl 3 rfl) ?_
          refine lv_if_eq (tgt := 55) hx hb dT_refusalToMake_45 (by decide) (fun h13 => ?_) (fun h13 => ?_)
          ·
            refine lv_bipush (v := (-5)) hx hb dT_refusalToMake_55 (by decide) ?_
            exact kretP (by first | (rw [zt_refusal, if_neg h1, if_neg h2, if_pos h11, if_pos h12, if_pos h13]; done) | exact ((if_neg h1).trans ((if_neg h2).trans ((if_pos h11).trans ((if_pos h12).trans (if_pos h13)))))) hx hb hr hlk hS hP hD hK dT_refusalToMake_57
          ·
            refine lv_iload_n hx hb dT_refusalToMake_48 rfl (lv_at hl 2 rfl) ?_
            refine kcI (isR := [0, 1, 2, 3, 4, 5, 6, 7]) (isC := []) (wr := [(ao, .inr (0, [.ref au, .ref af, .ref ak, .int x.2.2.1, .int x.2.2.2.1, .int x.2.2.2.2.1, .int x.2.2.2.2.2.1])), (au, .inr (1, [.int x.1.1, .int x.1.2])), (af, .inr (1, [.int x.2.1.1, .int x.2.1.2])), (ak, .inr (2, [.ref a1, .ref a2, .ref a3, .ref a4, .int (nI x.2.2.2.2.2.2.1), .int x.2.2.2.2.2.2.2.1])), (a1, .inl (cI, 10, .inl x.2.2.2.2.2.2.2.2.1)), (a2, .inl (cI, 10, .inl x.2.2.2.2.2.2.2.2.2.1)), (a3, .inl (cI, 10, .inl x.2.2.2.2.2.2.2.2.2.2.1)), (a4, .inl (cI, 10, .inl x.2.2.2.2.2.2.2.2.2.2.2))]) (w2 := [(ao, .inr (0, [.ref au, .ref af, .ref ak, .int x.2.2.1, .int x.2.2.2.1, .int x.2.2.2.2.1, .int x.2.2.2.2.2.1])), (au, .inr (1, [.int x.1.1, .int x.1.2])), (af, .inr (1, [.int x.2.1.1, .int x.2.1.2])), (ak, .inr (2, [.ref a1, .ref a2, .ref a3, .ref a4, .int (nI x.2.2.2.2.2.2.1), .int x.2.2.2.2.2.2.2.1])), (a1, .inl (cI, 10, .inl x.2.2.2.2.2.2.2.2.1)), (a2, .inl (cI, 10, .inl x.2.2.2.2.2.2.2.2.2.1)), (a3, .inl (cI, 10, .inl x.2.2.2.2.2.2.2.2.2.2.1)), (a4, .inl (cI, 10, .inl x.2.2.2.2.2.2.2.2.2.2.2))]) (va_runS (As := [.int g2]) (rest := []) ⟨hx, hb, hml, hown, hts⟩ (kt_areGood l D cI cZ g2 _) ⟨(callB_of 1 hts gd_yT_areGood rfl rfl rfl (hts _ mw24) (hts _ mw164) (by decide +kernel) ⟨Nat.le_of_ble_eq_true rfl, Nat.le_of_ble_eq_true rfl⟩), hts _ mw165⟩ (kpreS hNw hP hD hK [] rfl (by decide)) rfl rfl hl.1 rfl (lv_room (Nat.le_of_ble_eq_true rfl)) dT_refusalToMake_49 ⟨Nat.le_of_ble_eq_true rfl, Nat.le_of_ble_eq_true rfl⟩) hP hD hS hA [0, 1, 2, 3, 4, 5, 6, 7] rfl rfl (by decide) (by decide) (by decide) rfl (fun H locs hP hD hS => ?_)
            refine lv_if_ne (tgt := 58) hx hb dT_refusalToMake_52 (by decide) (fun h14 => ?_) (fun h14 => ?_)
            ·
              refine lv_aload_n hx hb dT_refusalToMake_58 rfl (lv_at hl 0 rfl) ?_
              refine va_get (D := D) (ci := 0) (v := .ref ak) (C := cnT) (T := ftT) (N := 7) hx hb hts inT hown hK hP 0 rfl rfl 2 (by decide) (hts _ mw84) (fun _ h9 => h9) rfl dT_refusalToMake_59 ?_
              refine va_getN (D := D) (ci := 2) (v := .int (nI x.2.2.2.2.2.2.1)) (C := cnK) (T := ftK) (N := 6) hx hb hts inK hown hK hP 3 rfl rfl 4 (by decide) (va_Nw.use rfl (hNw _ mw65)) (fun _ h9 => h9) rfl dT_refusalToMake_62 ?_
              refine lv_bipush (v := 10) hx hb dT_refusalToMake_65 (by decide) ?_
              refine kJoin (pcJ := 76) (z := (if (nI x.2.2.2.2.2.2.1) < 10 then (0 : Int32) else ((-6) : Int32))) (ws := [(ao, .inr (0, [.ref au, .ref af, .ref ak, .int x.2.2.1, .int x.2.2.2.1, .int x.2.2.2.2.1, .int x.2.2.2.2.2.1])), (au, .inr (1, [.int x.1.1, .int x.1.2])), (af, .inr (1, [.int x.2.1.1, .int x.2.1.2])), (ak, .inr (2, [.ref a1, .ref a2, .ref a3, .ref a4, .int (nI x.2.2.2.2.2.2.1), .int x.2.2.2.2.2.2.2.1])), (a1, .inl (cI, 10, .inl x.2.2.2.2.2.2.2.2.1)), (a2, .inl (cI, 10, .inl x.2.2.2.2.2.2.2.2.2.1)), (a3, .inl (cI, 10, .inl x.2.2.2.2.2.2.2.2.2.2.1)), (a4, .inl (cI, 10, .inl x.2.2.2.2.2.2.2.2.2.2.2))]) (rest := []) (D := D) (A := A) (H0 := s.heap) (fun J76 => ?_) (fun H locs hP hD hS => ?_)
              ·
                refine lv_icmp_lt (tgt := 75) hx hb dT_refusalToMake_67 (by decide) (fun h15 => ?_) (fun h15 => ?_)
                ·
                  refine lv_iconst (v := 0) hx hb dT_refusalToMake_75 (by decide) ?_
                  exact J76 _ _ hP hD hS _ ((if_pos h15).symm)
                ·
                  refine lv_bipush (v := (-6)) hx hb dT_refusalToMake_70 (by decide) ?_
                  refine lv_goto hx hb dT_refusalToMake_72 (tgt := 76) (by decide) ?_
                  exact J76 _ _ hP hD hS _ ((if_neg h15).symm)
              exact kretP (by first | (rw [zt_refusal, if_neg h1, if_neg h2, if_pos h11, if_pos h12, if_neg h13, if_neg h14]; done) | exact ((if_neg h1).trans ((if_neg h2).trans ((if_pos h11).trans ((if_pos h12).trans ((if_neg h13).trans (if_neg h14))))))) hx hb hr hlk hS hP hD hK dT_refusalToMake_76
            ·
              refine lv_bipush (v := (-5)) hx hb dT_refusalToMake_55 (by decide) ?_
              exact kretP (by first | (rw [zt_refusal, if_neg h1, if_neg h2, if_pos h11, if_pos h12, if_neg h13, if_pos h14]; done) | exact ((if_neg h1).trans ((if_neg h2).trans ((if_pos h11).trans ((if_pos h12).trans ((if_neg h13).trans (if_pos h14))))))) hx hb hr hlk hS hP hD hK dT_refusalToMake_57
        ·
          refine lv_aload_n hx hb dT_refusalToMake_33 rfl (lv_at hl 0 rfl) ?_
          refine lv_iload_n hx hb dT_refusalToMake_34 rfl (lv_at hl 1 rfl) ?_
          refine kcI (isR := []) (isC := [0, 1, 2, 3, 4, 5, 6, 7]) (wr := []) (w2 := [(ao, .inr (0, [.ref au, .ref af, .ref ak, .int x.2.2.1, .int x.2.2.2.1, .int x.2.2.2.2.1, .int x.2.2.2.2.2.1])), (au, .inr (1, [.int x.1.1, .int x.1.2])), (af, .inr (1, [.int x.2.1.1, .int x.2.1.2])), (ak, .inr (2, [.ref a1, .ref a2, .ref a3, .ref a4, .int (nI x.2.2.2.2.2.2.1), .int x.2.2.2.2.2.2.2.1])), (a1, .inl (cI, 10, .inl x.2.2.2.2.2.2.2.2.1)), (a2, .inl (cI, 10, .inl x.2.2.2.2.2.2.2.2.2.1)), (a3, .inl (cI, 10, .inl x.2.2.2.2.2.2.2.2.2.2.1)), (a4, .inl (cI, 10, .inl x.2.2.2.2.2.2.2.2.2.2.2))]) (va_runV (As := [.int g1]) (rest := []) ⟨hx, hb, hml, hown, hts⟩ (kt_isReadWrite l D cI cZ ao au af ak a1 a2 a3 a4 x g1 _) ⟨(callB_of 1 hts gd_yT_isReadWrite rfl rfl rfl (hts _ mw24) (hts _ mw160) (by decide +kernel) ⟨Nat.le_of_ble_eq_true rfl, Nat.le_of_ble_eq_true rfl⟩), hts _ mw162, hts _ mw8⟩ (kpreV hNw hP hD hK [0, 1, 2, 3, 4, 5, 6, 7] rfl (by decide) 0 rfl (ci := 0) rfl) rfl rfl hl.1 rfl (lv_room (Nat.le_of_ble_eq_true rfl)) dT_refusalToMake_35 ⟨Nat.le_of_ble_eq_true rfl, Nat.le_of_ble_eq_true rfl⟩) hP hD hS hA [0, 1, 2, 3, 4, 5, 6, 7] rfl rfl (by decide) (by decide) (by decide) rfl (fun H locs hP hD hS => ?_)
          refine lv_if_ne (tgt := 44) hx hb dT_refusalToMake_38 (by decide) (fun h16 => ?_) (fun h16 => ?_)
          ·
            refine lv_iload_n hx hb dT_refusalToMake_44 rfl (lv_at hl 3 rfl) ?_
            refine lv_if_eq (tgt := 55) hx hb dT_refusalToMake_45 (by decide) (fun h17 => ?_) (fun h17 => ?_)
            ·
              refine lv_bipush (v := (-5)) hx hb dT_refusalToMake_55 (by decide) ?_
              exact kretP (by first | (rw [zt_refusal, if_neg h1, if_neg h2, if_pos h11, if_neg h12, if_neg h16, if_pos h17]; done) | exact ((if_neg h1).trans ((if_neg h2).trans ((if_pos h11).trans ((if_neg h12).trans ((if_neg h16).trans (if_pos h17))))))) hx hb hr hlk hS hP hD hK dT_refusalToMake_57
            ·
              refine lv_iload_n hx hb dT_refusalToMake_48 rfl (lv_at hl 2 rfl) ?_
              refine kcI (isR := [0, 1, 2, 3, 4, 5, 6, 7]) (isC := []) (wr := [(ao, .inr (0, [.ref au, .ref af, .ref ak, .int x.2.2.1, .int x.2.2.2.1, .int x.2.2.2.2.1, .int x.2.2.2.2.2.1])), (au, .inr (1, [.int x.1.1, .int x.1.2])), (af, .inr (1, [.int x.2.1.1, .int x.2.1.2])), (ak, .inr (2, [.ref a1, .ref a2, .ref a3, .ref a4, .int (nI x.2.2.2.2.2.2.1), .int x.2.2.2.2.2.2.2.1])), (a1, .inl (cI, 10, .inl x.2.2.2.2.2.2.2.2.1)), (a2, .inl (cI, 10, .inl x.2.2.2.2.2.2.2.2.2.1)), (a3, .inl (cI, 10, .inl x.2.2.2.2.2.2.2.2.2.2.1)), (a4, .inl (cI, 10, .inl x.2.2.2.2.2.2.2.2.2.2.2))]) (w2 := [(ao, .inr (0, [.ref au, .ref af, .ref ak, .int x.2.2.1, .int x.2.2.2.1, .int x.2.2.2.2.1, .int x.2.2.2.2.2.1])), (au, .inr (1, [.int x.1.1, .int x.1.2])), (af, .inr (1, [.int x.2.1.1, .int x.2.1.2])), (ak, .inr (2, [.ref a1, .ref a2, .ref a3, .ref a4, .int (nI x.2.2.2.2.2.2.1), .int x.2.2.2.2.2.2.2.1])), (a1, .inl (cI, 10, .inl x.2.2.2.2.2.2.2.2.1)), (a2, .inl (cI, 10, .inl x.2.2.2.2.2.2.2.2.2.1)), (a3, .inl (cI, 10, .inl x.2.2.2.2.2.2.2.2.2.2.1)), (a4, .inl (cI, 10, .inl x.2.2.2.2.2.2.2.2.2.2.2))]) (va_runS (As := [.int g2]) (rest := []) ⟨hx, hb, hml, hown, hts⟩ (kt_areGood l D cI cZ g2 _) ⟨(callB_of 1 hts gd_yT_areGood rfl rfl rfl (hts _ mw24) (hts _ mw164) (by decide +kernel) ⟨Nat.le_of_ble_eq_true rfl, Nat.le_of_ble_eq_true rfl⟩), hts _ mw165⟩ (kpreS hNw hP hD hK [] rfl (by decide)) rfl rfl hl.1 rfl (lv_room (Nat.le_of_ble_eq_true rfl)) dT_refusalToMake_49 ⟨Nat.le_of_ble_eq_true rfl, Nat.le_of_ble_eq_true rfl⟩) hP hD hS hA [0, 1, 2, 3, 4, 5, 6, 7] rfl rfl (by decide) (by decide) (by decide) rfl (fun H locs hP hD hS => ?_)
              refine lv_if_ne (tgt := 58) hx hb dT_refusalToMake_52 (by decide) (fun h18 => ?_) (fun h18 => ?_)
              ·
                refine lv_aload_n hx hb dT_refusalToMake_58 rfl (lv_at hl 0 rfl) ?_
                refine va_get (D := D) (ci := 0) (v := .ref ak) (C := cnT) (T := ftT) (N := 7) hx hb hts inT hown hK hP 0 rfl rfl 2 (by decide) (hts _ mw84) (fun _ h9 => h9) rfl dT_refusalToMake_59 ?_
                refine va_getN (D := D) (ci := 2) (v := .int (nI x.2.2.2.2.2.2.1)) (C := cnK) (T := ftK) (N := 6) hx hb hts inK hown hK hP 3 rfl rfl 4 (by decide) (va_Nw.use rfl (hNw _ mw65)) (fun _ h9 => h9) rfl dT_refusalToMake_62 ?_
                refine lv_bipush (v := 10) hx hb dT_refusalToMake_65 (by decide) ?_
                refine kJoin (pcJ := 76) (z := (if (nI x.2.2.2.2.2.2.1) < 10 then (0 : Int32) else ((-6) : Int32))) (ws := [(ao, .inr (0, [.ref au, .ref af, .ref ak, .int x.2.2.1, .int x.2.2.2.1, .int x.2.2.2.2.1, .int x.2.2.2.2.2.1])), (au, .inr (1, [.int x.1.1, .int x.1.2])), (af, .inr (1, [.int x.2.1.1, .int x.2.1.2])), (ak, .inr (2, [.ref a1, .ref a2, .ref a3, .ref a4, .int (nI x.2.2.2.2.2.2.1), .int x.2.2.2.2.2.2.2.1])), (a1, .inl (cI, 10, .inl x.2.2.2.2.2.2.2.2.1)), (a2, .inl (cI, 10, .inl x.2.2.2.2.2.2.2.2.2.1)), (a3, .inl (cI, 10, .inl x.2.2.2.2.2.2.2.2.2.2.1)), (a4, .inl (cI, 10, .inl x.2.2.2.2.2.2.2.2.2.2.2))]) (rest := []) (D := D) (A := A) (H0 := s.heap) (fun J76 => ?_) (fun H locs hP hD hS => ?_)
                ·
                  refine lv_icmp_lt (tgt := 75) hx hb dT_refusalToMake_67 (by decide) (fun h19 => ?_) (fun h19 => ?_)
                  ·
                    refine lv_iconst (v := 0) hx hb dT_refusalToMake_75 (by decide) ?_
                    exact J76 _ _ hP hD hS _ ((if_pos h19).symm)
                  ·
                    refine lv_bipush (v := (-6)) hx hb dT_refusalToMake_70 (by decide) ?_
                    refine lv_goto hx hb dT_refusalToMake_72 (tgt := 76) (by decide) ?_
                    exact J76 _ _ hP hD hS _ ((if_neg h19).symm)
                exact kretP (by first | (rw [zt_refusal, if_neg h1, if_neg h2, if_pos h11, if_neg h12, if_neg h16, if_neg h17, if_neg h18]; done) | exact ((if_neg h1).trans ((if_neg h2).trans ((if_pos h11).trans ((if_neg h12).trans ((if_neg h16).trans ((if_neg h17).trans (if_neg h18)))))))) hx hb hr hlk hS hP hD hK dT_refusalToMake_76
              ·
                refine lv_bipush (v := (-5)) hx hb dT_refusalToMake_55 (by decide) ?_
                exact kretP (by first | (rw [zt_refusal, if_neg h1, if_neg h2, if_pos h11, if_neg h12, if_neg h16, if_neg h17, if_pos h18]; done) | exact ((if_neg h1).trans ((if_neg h2).trans ((if_pos h11).trans ((if_neg h12).trans ((if_neg h16).trans ((if_neg h17).trans (if_pos h18)))))))) hx hb hr hlk hS hP hD hK dT_refusalToMake_57
          ·
            refine lv_bipush (v := (-4)) hx hb dT_refusalToMake_41 (by decide) ?_
            exact kretP (by first | (rw [zt_refusal, if_neg h1, if_neg h2, if_pos h11, if_neg h12, if_pos h16]; done) | exact ((if_neg h1).trans ((if_neg h2).trans ((if_pos h11).trans ((if_neg h12).trans (if_pos h16)))))) hx hb hr hlk hS hP hD hK dT_refusalToMake_43
      ·
        refine lv_bipush (v := (-3)) hx hb dT_refusalToMake_24 (by decide) ?_
        exact kretP (by first | (rw [zt_refusal, if_neg h1, if_neg h2, if_neg h11]; done) | exact ((if_neg h1).trans ((if_neg h2).trans (if_neg h11)))) hx hb hr hlk hS hP hD hK dT_refusalToMake_26
  ·
    refine lv_iconst (v := (-1)) hx hb dT_refusalToMake_8 (by decide) ?_
    exact kretP (by first | (rw [zt_refusal, if_pos h1]; done) | exact (if_pos h1)) hx hb hr hlk hS hP hD hK dT_refusalToMake_9

theorem zk_find_in (hs : Nat → Int32) (g : Int32) : ∀ f i, zk_find hs g f i = -1 ∨ ∃ j, i ≤ j ∧ j < i + f ∧ zk_find hs g f i = nI j := by
  intro f
  induction f with
  | zero => intro i; exact Or.inl rfl
  | succ f ih =>
    intro i
    rw [zk_find]
    by_cases h : hs i = g
    · rw [if_pos h]; exact Or.inr ⟨i, by omega, by omega, rfl⟩
    · rw [if_neg h]
      rcases ih (i + 1) with e | ⟨j, h1, h2, e⟩
      · exact Or.inl e
      · exact Or.inr ⟨j, by omega, by omega, e⟩
theorem zk_row_in {K : KS} {g : Int32} (hn : K.1 ≤ 10) (h : 0 ≤ zk_rowWith K g) : ∃ j, j < K.1 ∧ zk_rowWith K g = nI j := by
  rcases zk_find_in K.2.2.1 g K.1 0 with e | ⟨j, h1, h2, e⟩
  · rw [zk_rowWith, e] at h; exact absurd h (by decide)
  · exact ⟨j, by omega, e⟩
theorem zt_row_j {x : XS} {g1 g2 : Int32} (hn : x.2.2.2.2.2.2.1 ≤ 10) (h : 0 ≤ zt_row x g1 g2) : ∃ j, j < x.2.2.2.2.2.2.1 ∧ zt_row x g1 g2 = nI j ∧ zk_rowWith x.2.2.2.2.2.2 g2 = nI j := by
  unfold zt_row at h ⊢
  by_cases h1 : zt_isOpen x g1 = 0
  · rw [if_pos h1] at h; exact absurd h (by decide)
  · rw [if_neg h1] at h ⊢
    by_cases h2 : zk_rowWith x.2.2.2.2.2.2 g2 < 0
    · rw [if_pos h2] at h; exact absurd h (by decide)
    · rw [if_neg h2] at h ⊢
      by_cases h3 : zt_isVisible x (zk_rowWith x.2.2.2.2.2.2 g2) = 0
      · rw [if_pos h3] at h; exact absurd h (by decide)
      · rw [if_neg h3] at h ⊢
        obtain ⟨j, a, b⟩ := zk_row_in hn h
        exact ⟨j, a, b, b⟩
theorem zt_row_in {x : XS} {g1 g2 : Int32} (hn : x.2.2.2.2.2.2.1 ≤ 10) (h : 0 ≤ zt_row x g1 g2) : vp_in (zt_row x g1 g2) 10 := by
  obtain ⟨j, a, b, -⟩ := zt_row_j hn h
  rw [b]
  exact vp_in_nI (by omega) (by decide)
theorem zt_use_in {x : XS} {g1 g2 g3 : Int32} (hn : x.2.2.2.2.2.2.1 ≤ 10) (h : 0 ≤ zt_use x g1 g2 g3) : vp_in (zt_use x g1 g2 g3) 10 := by
  have e : zt_use x g1 g2 g3 = -5 ∨ zt_use x g1 g2 g3 = zt_row x g1 g2 := by
    unfold zt_use
    repeat' split
    all_goals first | exact Or.inl rfl | exact Or.inr rfl
  rcases e with e | e
  · rw [e] at h; exact absurd h (by decide)
  · rw [e] at h ⊢; exact zt_row_in hn h

theorem zt_row_nI {x : XS} {g1 g2 : Int32} (hn : x.2.2.2.2.2.2.1 ≤ 10) (h : 0 ≤ zt_row x g1 g2) : zt_row x g1 g2 = nI (Int32.toNatClampNeg (zt_row x g1 g2)) := by
  obtain ⟨j, a, b, -⟩ := zt_row_j hn h
  rw [b, nI_clamp (by omega)]
theorem zt_row_lt {x : XS} {g1 g2 : Int32} (hn : x.2.2.2.2.2.2.1 ≤ 10) (h : 0 ≤ zt_row x g1 g2) : Int32.toNatClampNeg (zt_row x g1 g2) < x.2.2.2.2.2.2.1 := by
  obtain ⟨j, a, b, -⟩ := zt_row_j hn h
  rw [b, nI_clamp (by omega)]
  exact a
theorem ksw6 {g : Int32} (h0 : ¬ g = 0) (h1 : ¬ g = 1) (h2 : ¬ g = 2) (h3 : ¬ g = 3) (h4 : ¬ g = 4) (h5 : ¬ g = 5) : g.toInt < 0 ∨ 5 < g.toInt := by
  have a0 := lv_neT (a := 0) h0 (by decide)
  have a1 := lv_neT (a := 1) h1 (by decide)
  have a2 := lv_neT (a := 2) h2 (by decide)
  have a3 := lv_neT (a := 3) h3 (by decide)
  have a4 := lv_neT (a := 4) h4 (by decide)
  have a5 := lv_neT (a := 5) h5 (by decide)
  omega
end
section
def zt_open (x : XS) (g1 : Int32) : Int32 × XS := (if g1 = 0 then (if x.2.2.1 = 2 then ((-3), x) else (if (zt_isOpen x 0) = 0 then (0, (x.1, x.2.1, x.2.2.1, x.2.2.2.1, (x.2.2.2.2.1 ||| 1), x.2.2.2.2.2.1, x.2.2.2.2.2.2)) else (if (zt_isOpen x 1) = 0 then (1, (x.1, x.2.1, x.2.2.1, x.2.2.2.1, (x.2.2.2.2.1 ||| 2), x.2.2.2.2.2.1, x.2.2.2.2.2.2)) else (if (zt_isOpen x 2) = 0 then (2, (x.1, x.2.1, x.2.2.1, x.2.2.2.1, (x.2.2.2.2.1 ||| 4), x.2.2.2.2.2.1, x.2.2.2.2.2.2)) else ((-6), x))))) else (if (zt_isOpen x 0) = 0 then (0, (x.1, x.2.1, x.2.2.1, x.2.2.2.1, (x.2.2.2.2.1 ||| 1), (x.2.2.2.2.2.1 ||| 1), x.2.2.2.2.2.2)) else (if (zt_isOpen x 1) = 0 then (1, (x.1, x.2.1, x.2.2.1, x.2.2.2.1, (x.2.2.2.2.1 ||| 2), (x.2.2.2.2.2.1 ||| 2), x.2.2.2.2.2.2)) else (if (zt_isOpen x 2) = 0 then (2, (x.1, x.2.1, x.2.2.1, x.2.2.2.1, (x.2.2.2.2.1 ||| 4), (x.2.2.2.2.2.1 ||| 4), x.2.2.2.2.2.2)) else ((-6), x)))))

set_option maxHeartbeats 4000000 in
set_option maxRecDepth 100000 in
theorem kt_open (l : Launch) (D : va_G) (cI cZ : ClassId) (ao au af ak a1 a2 a3 a4 : Nat) (x : XS) (g1 : Int32) (hn : x.2.2.2.2.2.2.1 ≤ 10) : kI l yT_open wsT_open (rmOf 1 21) D (kT cI cZ) [.ref ao, .int g1] (wX cI ao au af ak a1 a2 a3 a4 x) (zt_open x g1).1 (wX cI ao au af ak a1 a2 a3 a4 ((zt_open x g1).2)) := by
  intro sz
  refine kOf (Qc := fun A => kQi D (kT cI cZ) A (zt_open x g1).1 (wX cI ao au af ak a1 a2 a3 a4 ((zt_open x g1).2))) (cc := cT_open) (maxL := 3) (ret := some .int) (by decide) rfl (Nat.le_of_ble_eq_true rfl) ?_ sz
  intro p e s m args below meth c A ls hx hb hml hown hts hNw hr hlk hin hA hS hP hD hK hl
  show W p l e (rmOf 1 21) s m args below meth c s.heap [] 0 0 (MQ below (kQi D (kT cI cZ) A (zt_open x g1).1 (wX cI ao au af ak a1 a2 a3 a4 ((zt_open x g1).2))) args s 0 0 A) (F0 m 0 ls [])
  have hts : ∀ q ∈ lw_g, q.before args s = true := fun q h => hts q (List.mem_cons_of_mem _ h)
  have hown : s.vm.findClass cnT = some m.cls := hown
  have hl : lv_has ls 3 [(0, .ref ao), (1, .int g1)] := hl
  have hP : va_P D vwCl [(ao, .inr (0, [.ref au, .ref af, .ref ak, .int x.2.2.1, .int x.2.2.2.1, .int x.2.2.2.2.1, .int x.2.2.2.2.2.1])), (au, .inr (1, [.int x.1.1, .int x.1.2])), (af, .inr (1, [.int x.2.1.1, .int x.2.1.2])), (ak, .inr (2, [.ref a1, .ref a2, .ref a3, .ref a4, .int (nI x.2.2.2.2.2.2.1), .int x.2.2.2.2.2.2.2.1])), (a1, .inl (cI, 10, .inl x.2.2.2.2.2.2.2.2.1)), (a2, .inl (cI, 10, .inl x.2.2.2.2.2.2.2.2.2.1)), (a3, .inl (cI, 10, .inl x.2.2.2.2.2.2.2.2.2.2.1)), (a4, .inl (cI, 10, .inl x.2.2.2.2.2.2.2.2.2.2.2))] s.heap := hP
  have hD : va_D A [(ao, .inr (0, [.ref au, .ref af, .ref ak, .int x.2.2.1, .int x.2.2.2.1, .int x.2.2.2.2.1, .int x.2.2.2.2.2.1])), (au, .inr (1, [.int x.1.1, .int x.1.2])), (af, .inr (1, [.int x.2.1.1, .int x.2.1.2])), (ak, .inr (2, [.ref a1, .ref a2, .ref a3, .ref a4, .int (nI x.2.2.2.2.2.2.1), .int x.2.2.2.2.2.2.2.1])), (a1, .inl (cI, 10, .inl x.2.2.2.2.2.2.2.2.1)), (a2, .inl (cI, 10, .inl x.2.2.2.2.2.2.2.2.2.1)), (a3, .inl (cI, 10, .inl x.2.2.2.2.2.2.2.2.2.2.1)), (a4, .inl (cI, 10, .inl x.2.2.2.2.2.2.2.2.2.2.2))] := hD
  refine lv_iload_n hx hb dT_open_0 rfl (lv_at hl 1 rfl) ?_
  refine lv_if_ne (tgt := 15) hx hb dT_open_1 (by decide) (fun h1 => ?_) (fun h1 => ?_)
  ·
    refine lv_iconst (v := 0) hx hb dT_open_15 (by decide) ?_
    refine lv_istore_n hx hb dT_open_16 rfl hl (by decide) rfl (fun ls hl => ?_)
    have hl : lv_has ls 3 [(2, .int 0), (0, .ref ao), (1, .int g1)] := hl
    refine lv_iload_n hx hb dT_open_17 rfl (lv_at hl 0 rfl) ?_
    refine lv_iconst (v := 3) hx hb dT_open_18 (by decide) ?_
    refine lv_icmp_ge (tgt := 66) hx hb dT_open_19 (by decide) (fun h => absurd h (by decide)) (fun _ => ?_)
    refine lv_aload_n hx hb dT_open_22 rfl (lv_at hl 1 rfl) ?_
    refine lv_iload_n hx hb dT_open_23 rfl (lv_at hl 0 rfl) ?_
    refine kcI (isR := []) (isC := [0, 1, 2, 3, 4, 5, 6, 7]) (wr := []) (w2 := [(ao, .inr (0, [.ref au, .ref af, .ref ak, .int x.2.2.1, .int x.2.2.2.1, .int x.2.2.2.2.1, .int x.2.2.2.2.2.1])), (au, .inr (1, [.int x.1.1, .int x.1.2])), (af, .inr (1, [.int x.2.1.1, .int x.2.1.2])), (ak, .inr (2, [.ref a1, .ref a2, .ref a3, .ref a4, .int (nI x.2.2.2.2.2.2.1), .int x.2.2.2.2.2.2.2.1])), (a1, .inl (cI, 10, .inl x.2.2.2.2.2.2.2.2.1)), (a2, .inl (cI, 10, .inl x.2.2.2.2.2.2.2.2.2.1)), (a3, .inl (cI, 10, .inl x.2.2.2.2.2.2.2.2.2.2.1)), (a4, .inl (cI, 10, .inl x.2.2.2.2.2.2.2.2.2.2.2))]) (va_runV (As := [.int 0]) (rest := []) ⟨hx, hb, hml, hown, hts⟩ (kt_isOpen l D cI cZ ao au af ak a1 a2 a3 a4 x 0 _) ⟨(callB_of 1 hts gd_yT_isOpen rfl rfl rfl (hts _ mw24) (hts _ mw108) (by decide +kernel) ⟨Nat.le_of_ble_eq_true rfl, Nat.le_of_ble_eq_true rfl⟩), hts _ mw110, hts _ mw0⟩ (kpreV hNw hP hD hK [0, 1, 2, 3, 4, 5, 6, 7] rfl (by decide) 0 rfl (ci := 0) rfl) rfl rfl hl.1 rfl (lv_room (Nat.le_of_ble_eq_true rfl)) dT_open_24 ⟨Nat.le_of_ble_eq_true rfl, Nat.le_of_ble_eq_true rfl⟩) hP hD hS hA [0, 1, 2, 3, 4, 5, 6, 7] rfl rfl (by decide) (by decide) (by decide) rfl (fun H locs hP hD hS => ?_)
    refine lv_if_ne (tgt := 60) hx hb dT_open_27 (by decide) (fun h2 => ?_) (fun h2 => ?_)
    ·
      refine lv_iinc (k := 0) (v := 1) hx hb dT_open_60 hl rfl (by decide) (by decide) rfl (fun ls hl => ?_)
      have hl : lv_has ls 3 [(2, .int 1), (0, .ref ao), (1, .int g1)] := hl
      refine lv_goto hx hb dT_open_63 (tgt := 17) (by decide) ?_
      refine lv_iload_n hx hb dT_open_17 rfl (lv_at hl 0 rfl) ?_
      refine lv_iconst (v := 3) hx hb dT_open_18 (by decide) ?_
      refine lv_icmp_ge (tgt := 66) hx hb dT_open_19 (by decide) (fun h => absurd h (by decide)) (fun _ => ?_)
      refine lv_aload_n hx hb dT_open_22 rfl (lv_at hl 1 rfl) ?_
      refine lv_iload_n hx hb dT_open_23 rfl (lv_at hl 0 rfl) ?_
      refine kcI (isR := []) (isC := [0, 1, 2, 3, 4, 5, 6, 7]) (wr := []) (w2 := [(ao, .inr (0, [.ref au, .ref af, .ref ak, .int x.2.2.1, .int x.2.2.2.1, .int x.2.2.2.2.1, .int x.2.2.2.2.2.1])), (au, .inr (1, [.int x.1.1, .int x.1.2])), (af, .inr (1, [.int x.2.1.1, .int x.2.1.2])), (ak, .inr (2, [.ref a1, .ref a2, .ref a3, .ref a4, .int (nI x.2.2.2.2.2.2.1), .int x.2.2.2.2.2.2.2.1])), (a1, .inl (cI, 10, .inl x.2.2.2.2.2.2.2.2.1)), (a2, .inl (cI, 10, .inl x.2.2.2.2.2.2.2.2.2.1)), (a3, .inl (cI, 10, .inl x.2.2.2.2.2.2.2.2.2.2.1)), (a4, .inl (cI, 10, .inl x.2.2.2.2.2.2.2.2.2.2.2))]) (va_runV (As := [.int 1]) (rest := []) ⟨hx, hb, hml, hown, hts⟩ (kt_isOpen l D cI cZ ao au af ak a1 a2 a3 a4 x 1 _) ⟨(callB_of 1 hts gd_yT_isOpen rfl rfl rfl (hts _ mw24) (hts _ mw108) (by decide +kernel) ⟨Nat.le_of_ble_eq_true rfl, Nat.le_of_ble_eq_true rfl⟩), hts _ mw110, hts _ mw0⟩ (kpreV hNw hP hD hK [0, 1, 2, 3, 4, 5, 6, 7] rfl (by decide) 0 rfl (ci := 0) rfl) rfl rfl hl.1 rfl (lv_room (Nat.le_of_ble_eq_true rfl)) dT_open_24 ⟨Nat.le_of_ble_eq_true rfl, Nat.le_of_ble_eq_true rfl⟩) hP hD hS hA [0, 1, 2, 3, 4, 5, 6, 7] rfl rfl (by decide) (by decide) (by decide) rfl (fun H locs hP hD hS => ?_)
      refine lv_if_ne (tgt := 60) hx hb dT_open_27 (by decide) (fun h3 => ?_) (fun h3 => ?_)
      ·
        refine lv_iinc (k := 0) (v := 2) hx hb dT_open_60 hl rfl (by decide) (by decide) rfl (fun ls hl => ?_)
        have hl : lv_has ls 3 [(2, .int 2), (0, .ref ao), (1, .int g1)] := hl
        refine lv_goto hx hb dT_open_63 (tgt := 17) (by decide) ?_
        refine lv_iload_n hx hb dT_open_17 rfl (lv_at hl 0 rfl) ?_
        refine lv_iconst (v := 3) hx hb dT_open_18 (by decide) ?_
        refine lv_icmp_ge (tgt := 66) hx hb dT_open_19 (by decide) (fun h => absurd h (by decide)) (fun _ => ?_)
        refine lv_aload_n hx hb dT_open_22 rfl (lv_at hl 1 rfl) ?_
        refine lv_iload_n hx hb dT_open_23 rfl (lv_at hl 0 rfl) ?_
        refine kcI (isR := []) (isC := [0, 1, 2, 3, 4, 5, 6, 7]) (wr := []) (w2 := [(ao, .inr (0, [.ref au, .ref af, .ref ak, .int x.2.2.1, .int x.2.2.2.1, .int x.2.2.2.2.1, .int x.2.2.2.2.2.1])), (au, .inr (1, [.int x.1.1, .int x.1.2])), (af, .inr (1, [.int x.2.1.1, .int x.2.1.2])), (ak, .inr (2, [.ref a1, .ref a2, .ref a3, .ref a4, .int (nI x.2.2.2.2.2.2.1), .int x.2.2.2.2.2.2.2.1])), (a1, .inl (cI, 10, .inl x.2.2.2.2.2.2.2.2.1)), (a2, .inl (cI, 10, .inl x.2.2.2.2.2.2.2.2.2.1)), (a3, .inl (cI, 10, .inl x.2.2.2.2.2.2.2.2.2.2.1)), (a4, .inl (cI, 10, .inl x.2.2.2.2.2.2.2.2.2.2.2))]) (va_runV (As := [.int 2]) (rest := []) ⟨hx, hb, hml, hown, hts⟩ (kt_isOpen l D cI cZ ao au af ak a1 a2 a3 a4 x 2 _) ⟨(callB_of 1 hts gd_yT_isOpen rfl rfl rfl (hts _ mw24) (hts _ mw108) (by decide +kernel) ⟨Nat.le_of_ble_eq_true rfl, Nat.le_of_ble_eq_true rfl⟩), hts _ mw110, hts _ mw0⟩ (kpreV hNw hP hD hK [0, 1, 2, 3, 4, 5, 6, 7] rfl (by decide) 0 rfl (ci := 0) rfl) rfl rfl hl.1 rfl (lv_room (Nat.le_of_ble_eq_true rfl)) dT_open_24 ⟨Nat.le_of_ble_eq_true rfl, Nat.le_of_ble_eq_true rfl⟩) hP hD hS hA [0, 1, 2, 3, 4, 5, 6, 7] rfl rfl (by decide) (by decide) (by decide) rfl (fun H locs hP hD hS => ?_)
        refine lv_if_ne (tgt := 60) hx hb dT_open_27 (by decide) (fun h4 => ?_) (fun h4 => ?_)
        ·
          refine lv_iinc (k := 0) (v := 3) hx hb dT_open_60 hl rfl (by decide) (by decide) rfl (fun ls hl => ?_)
          have hl : lv_has ls 3 [(2, .int 3), (0, .ref ao), (1, .int g1)] := hl
          refine lv_goto hx hb dT_open_63 (tgt := 17) (by decide) ?_
          refine lv_iload_n hx hb dT_open_17 rfl (lv_at hl 0 rfl) ?_
          refine lv_iconst (v := 3) hx hb dT_open_18 (by decide) ?_
          refine lv_icmp_ge (tgt := 66) hx hb dT_open_19 (by decide) (fun _ => ?_) (fun h => absurd h (by decide))
          refine lv_bipush (v := (-6)) hx hb dT_open_66 (by decide) ?_
          exact kretI (wf := fun st => wX cI ao au af ak a1 a2 a3 a4 st) (st := x) (by first | (rw [zt_open, if_neg h1, if_neg h2, if_neg h3, if_neg h4]; done) | exact ((if_neg h1).trans ((if_neg h2).trans ((if_neg h3).trans (if_neg h4))))) hx hb hr hlk hS hP hD hK dT_open_68
        ·
          refine lv_aload_n hx hb dT_open_30 rfl (lv_at hl 1 rfl) ?_
          refine lv_dup hx hb dT_open_31 rfl ?_
          refine va_get (D := D) (ci := 0) (v := .int x.2.2.2.2.1) (C := cnT) (T := ftT) (N := 7) hx hb hts inT hown hK hP 0 rfl rfl 5 (by decide) (hts _ mw87) (fun _ h9 => h9) rfl dT_open_32 ?_
          refine lv_iconst (v := 1) hx hb dT_open_35 (by decide) ?_
          refine lv_iload_n hx hb dT_open_36 rfl (lv_at hl 0 rfl) ?_
          refine lv_ishl hx hb dT_open_37 ?_
          refine kTop (y := 4) (by decide) ?_
          refine lv_ior hx hb dT_open_38 ?_
          refine va_put (D := D) (ci := 0) (v := .int (x.2.2.2.2.1 ||| 4)) (ty := (.int)) (C := cnT) (T := ftT) (N := 7) hx hb hts inT tyT tyT_ok nmT hown hK hP hD hS 0 rfl rfl 5 (by decide) (hts _ mw87) (fun _ h9 => h9) rfl (by decide +kernel) rfl rfl (Nat.le_of_ble_eq_true rfl) dT_open_39 (fun H locs hP hD hS => ?_)
          have hP : va_P D vwCl [(ao, .inr (0, [.ref au, .ref af, .ref ak, .int x.2.2.1, .int x.2.2.2.1, .int (x.2.2.2.2.1 ||| 4), .int x.2.2.2.2.2.1])), (au, .inr (1, [.int x.1.1, .int x.1.2])), (af, .inr (1, [.int x.2.1.1, .int x.2.1.2])), (ak, .inr (2, [.ref a1, .ref a2, .ref a3, .ref a4, .int (nI x.2.2.2.2.2.2.1), .int x.2.2.2.2.2.2.2.1])), (a1, .inl (cI, 10, .inl x.2.2.2.2.2.2.2.2.1)), (a2, .inl (cI, 10, .inl x.2.2.2.2.2.2.2.2.2.1)), (a3, .inl (cI, 10, .inl x.2.2.2.2.2.2.2.2.2.2.1)), (a4, .inl (cI, 10, .inl x.2.2.2.2.2.2.2.2.2.2.2))] H := hP
          have hD : va_D A [(ao, .inr (0, [.ref au, .ref af, .ref ak, .int x.2.2.1, .int x.2.2.2.1, .int (x.2.2.2.2.1 ||| 4), .int x.2.2.2.2.2.1])), (au, .inr (1, [.int x.1.1, .int x.1.2])), (af, .inr (1, [.int x.2.1.1, .int x.2.1.2])), (ak, .inr (2, [.ref a1, .ref a2, .ref a3, .ref a4, .int (nI x.2.2.2.2.2.2.1), .int x.2.2.2.2.2.2.2.1])), (a1, .inl (cI, 10, .inl x.2.2.2.2.2.2.2.2.1)), (a2, .inl (cI, 10, .inl x.2.2.2.2.2.2.2.2.2.1)), (a3, .inl (cI, 10, .inl x.2.2.2.2.2.2.2.2.2.2.1)), (a4, .inl (cI, 10, .inl x.2.2.2.2.2.2.2.2.2.2.2))] := hD
          refine lv_iload_n hx hb dT_open_42 rfl (lv_at hl 2 rfl) ?_
          refine lv_if_eq (tgt := 58) hx hb dT_open_43 (by decide) (fun h => absurd h h1) (fun _ => ?_)
          refine lv_aload_n hx hb dT_open_46 rfl (lv_at hl 1 rfl) ?_
          refine lv_dup hx hb dT_open_47 rfl ?_
          refine va_get (D := D) (ci := 0) (v := .int x.2.2.2.2.2.1) (C := cnT) (T := ftT) (N := 7) hx hb hts inT hown hK hP 0 rfl rfl 6 (by decide) (hts _ mw88) (fun _ h9 => h9) rfl dT_open_48 ?_
          refine lv_iconst (v := 1) hx hb dT_open_51 (by decide) ?_
          refine lv_iload_n hx hb dT_open_52 rfl (lv_at hl 0 rfl) ?_
          refine lv_ishl hx hb dT_open_53 ?_
          refine kTop (y := 4) (by decide) ?_
          refine lv_ior hx hb dT_open_54 ?_
          refine va_put (D := D) (ci := 0) (v := .int (x.2.2.2.2.2.1 ||| 4)) (ty := (.int)) (C := cnT) (T := ftT) (N := 7) hx hb hts inT tyT tyT_ok nmT hown hK hP hD hS 0 rfl rfl 6 (by decide) (hts _ mw88) (fun _ h9 => h9) rfl (by decide +kernel) rfl rfl (Nat.le_of_ble_eq_true rfl) dT_open_55 (fun H locs hP hD hS => ?_)
          have hP : va_P D vwCl [(ao, .inr (0, [.ref au, .ref af, .ref ak, .int x.2.2.1, .int x.2.2.2.1, .int (x.2.2.2.2.1 ||| 4), .int (x.2.2.2.2.2.1 ||| 4)])), (au, .inr (1, [.int x.1.1, .int x.1.2])), (af, .inr (1, [.int x.2.1.1, .int x.2.1.2])), (ak, .inr (2, [.ref a1, .ref a2, .ref a3, .ref a4, .int (nI x.2.2.2.2.2.2.1), .int x.2.2.2.2.2.2.2.1])), (a1, .inl (cI, 10, .inl x.2.2.2.2.2.2.2.2.1)), (a2, .inl (cI, 10, .inl x.2.2.2.2.2.2.2.2.2.1)), (a3, .inl (cI, 10, .inl x.2.2.2.2.2.2.2.2.2.2.1)), (a4, .inl (cI, 10, .inl x.2.2.2.2.2.2.2.2.2.2.2))] H := hP
          have hD : va_D A [(ao, .inr (0, [.ref au, .ref af, .ref ak, .int x.2.2.1, .int x.2.2.2.1, .int (x.2.2.2.2.1 ||| 4), .int (x.2.2.2.2.2.1 ||| 4)])), (au, .inr (1, [.int x.1.1, .int x.1.2])), (af, .inr (1, [.int x.2.1.1, .int x.2.1.2])), (ak, .inr (2, [.ref a1, .ref a2, .ref a3, .ref a4, .int (nI x.2.2.2.2.2.2.1), .int x.2.2.2.2.2.2.2.1])), (a1, .inl (cI, 10, .inl x.2.2.2.2.2.2.2.2.1)), (a2, .inl (cI, 10, .inl x.2.2.2.2.2.2.2.2.2.1)), (a3, .inl (cI, 10, .inl x.2.2.2.2.2.2.2.2.2.2.1)), (a4, .inl (cI, 10, .inl x.2.2.2.2.2.2.2.2.2.2.2))] := hD
          refine lv_iload_n hx hb dT_open_58 rfl (lv_at hl 0 rfl) ?_
          exact kretI (wf := fun st => wX cI ao au af ak a1 a2 a3 a4 st) (st := (x.1, x.2.1, x.2.2.1, x.2.2.2.1, (x.2.2.2.2.1 ||| 4), (x.2.2.2.2.2.1 ||| 4), x.2.2.2.2.2.2)) (by first | (rw [zt_open, if_neg h1, if_neg h2, if_neg h3, if_pos h4]; done) | exact ((if_neg h1).trans ((if_neg h2).trans ((if_neg h3).trans (if_pos h4))))) hx hb hr hlk hS hP hD hK dT_open_59
      ·
        refine lv_aload_n hx hb dT_open_30 rfl (lv_at hl 1 rfl) ?_
        refine lv_dup hx hb dT_open_31 rfl ?_
        refine va_get (D := D) (ci := 0) (v := .int x.2.2.2.2.1) (C := cnT) (T := ftT) (N := 7) hx hb hts inT hown hK hP 0 rfl rfl 5 (by decide) (hts _ mw87) (fun _ h9 => h9) rfl dT_open_32 ?_
        refine lv_iconst (v := 1) hx hb dT_open_35 (by decide) ?_
        refine lv_iload_n hx hb dT_open_36 rfl (lv_at hl 0 rfl) ?_
        refine lv_ishl hx hb dT_open_37 ?_
        refine kTop (y := 2) (by decide) ?_
        refine lv_ior hx hb dT_open_38 ?_
        refine va_put (D := D) (ci := 0) (v := .int (x.2.2.2.2.1 ||| 2)) (ty := (.int)) (C := cnT) (T := ftT) (N := 7) hx hb hts inT tyT tyT_ok nmT hown hK hP hD hS 0 rfl rfl 5 (by decide) (hts _ mw87) (fun _ h9 => h9) rfl (by decide +kernel) rfl rfl (Nat.le_of_ble_eq_true rfl) dT_open_39 (fun H locs hP hD hS => ?_)
        have hP : va_P D vwCl [(ao, .inr (0, [.ref au, .ref af, .ref ak, .int x.2.2.1, .int x.2.2.2.1, .int (x.2.2.2.2.1 ||| 2), .int x.2.2.2.2.2.1])), (au, .inr (1, [.int x.1.1, .int x.1.2])), (af, .inr (1, [.int x.2.1.1, .int x.2.1.2])), (ak, .inr (2, [.ref a1, .ref a2, .ref a3, .ref a4, .int (nI x.2.2.2.2.2.2.1), .int x.2.2.2.2.2.2.2.1])), (a1, .inl (cI, 10, .inl x.2.2.2.2.2.2.2.2.1)), (a2, .inl (cI, 10, .inl x.2.2.2.2.2.2.2.2.2.1)), (a3, .inl (cI, 10, .inl x.2.2.2.2.2.2.2.2.2.2.1)), (a4, .inl (cI, 10, .inl x.2.2.2.2.2.2.2.2.2.2.2))] H := hP
        have hD : va_D A [(ao, .inr (0, [.ref au, .ref af, .ref ak, .int x.2.2.1, .int x.2.2.2.1, .int (x.2.2.2.2.1 ||| 2), .int x.2.2.2.2.2.1])), (au, .inr (1, [.int x.1.1, .int x.1.2])), (af, .inr (1, [.int x.2.1.1, .int x.2.1.2])), (ak, .inr (2, [.ref a1, .ref a2, .ref a3, .ref a4, .int (nI x.2.2.2.2.2.2.1), .int x.2.2.2.2.2.2.2.1])), (a1, .inl (cI, 10, .inl x.2.2.2.2.2.2.2.2.1)), (a2, .inl (cI, 10, .inl x.2.2.2.2.2.2.2.2.2.1)), (a3, .inl (cI, 10, .inl x.2.2.2.2.2.2.2.2.2.2.1)), (a4, .inl (cI, 10, .inl x.2.2.2.2.2.2.2.2.2.2.2))] := hD
        refine lv_iload_n hx hb dT_open_42 rfl (lv_at hl 2 rfl) ?_
        refine lv_if_eq (tgt := 58) hx hb dT_open_43 (by decide) (fun h => absurd h h1) (fun _ => ?_)
        refine lv_aload_n hx hb dT_open_46 rfl (lv_at hl 1 rfl) ?_
        refine lv_dup hx hb dT_open_47 rfl ?_
        refine va_get (D := D) (ci := 0) (v := .int x.2.2.2.2.2.1) (C := cnT) (T := ftT) (N := 7) hx hb hts inT hown hK hP 0 rfl rfl 6 (by decide) (hts _ mw88) (fun _ h9 => h9) rfl dT_open_48 ?_
        refine lv_iconst (v := 1) hx hb dT_open_51 (by decide) ?_
        refine lv_iload_n hx hb dT_open_52 rfl (lv_at hl 0 rfl) ?_
        refine lv_ishl hx hb dT_open_53 ?_
        refine kTop (y := 2) (by decide) ?_
        refine lv_ior hx hb dT_open_54 ?_
        refine va_put (D := D) (ci := 0) (v := .int (x.2.2.2.2.2.1 ||| 2)) (ty := (.int)) (C := cnT) (T := ftT) (N := 7) hx hb hts inT tyT tyT_ok nmT hown hK hP hD hS 0 rfl rfl 6 (by decide) (hts _ mw88) (fun _ h9 => h9) rfl (by decide +kernel) rfl rfl (Nat.le_of_ble_eq_true rfl) dT_open_55 (fun H locs hP hD hS => ?_)
        have hP : va_P D vwCl [(ao, .inr (0, [.ref au, .ref af, .ref ak, .int x.2.2.1, .int x.2.2.2.1, .int (x.2.2.2.2.1 ||| 2), .int (x.2.2.2.2.2.1 ||| 2)])), (au, .inr (1, [.int x.1.1, .int x.1.2])), (af, .inr (1, [.int x.2.1.1, .int x.2.1.2])), (ak, .inr (2, [.ref a1, .ref a2, .ref a3, .ref a4, .int (nI x.2.2.2.2.2.2.1), .int x.2.2.2.2.2.2.2.1])), (a1, .inl (cI, 10, .inl x.2.2.2.2.2.2.2.2.1)), (a2, .inl (cI, 10, .inl x.2.2.2.2.2.2.2.2.2.1)), (a3, .inl (cI, 10, .inl x.2.2.2.2.2.2.2.2.2.2.1)), (a4, .inl (cI, 10, .inl x.2.2.2.2.2.2.2.2.2.2.2))] H := hP
        have hD : va_D A [(ao, .inr (0, [.ref au, .ref af, .ref ak, .int x.2.2.1, .int x.2.2.2.1, .int (x.2.2.2.2.1 ||| 2), .int (x.2.2.2.2.2.1 ||| 2)])), (au, .inr (1, [.int x.1.1, .int x.1.2])), (af, .inr (1, [.int x.2.1.1, .int x.2.1.2])), (ak, .inr (2, [.ref a1, .ref a2, .ref a3, .ref a4, .int (nI x.2.2.2.2.2.2.1), .int x.2.2.2.2.2.2.2.1])), (a1, .inl (cI, 10, .inl x.2.2.2.2.2.2.2.2.1)), (a2, .inl (cI, 10, .inl x.2.2.2.2.2.2.2.2.2.1)), (a3, .inl (cI, 10, .inl x.2.2.2.2.2.2.2.2.2.2.1)), (a4, .inl (cI, 10, .inl x.2.2.2.2.2.2.2.2.2.2.2))] := hD
        refine lv_iload_n hx hb dT_open_58 rfl (lv_at hl 0 rfl) ?_
        exact kretI (wf := fun st => wX cI ao au af ak a1 a2 a3 a4 st) (st := (x.1, x.2.1, x.2.2.1, x.2.2.2.1, (x.2.2.2.2.1 ||| 2), (x.2.2.2.2.2.1 ||| 2), x.2.2.2.2.2.2)) (by first | (rw [zt_open, if_neg h1, if_neg h2, if_pos h3]; done) | exact ((if_neg h1).trans ((if_neg h2).trans (if_pos h3)))) hx hb hr hlk hS hP hD hK dT_open_59
    ·
      refine lv_aload_n hx hb dT_open_30 rfl (lv_at hl 1 rfl) ?_
      refine lv_dup hx hb dT_open_31 rfl ?_
      refine va_get (D := D) (ci := 0) (v := .int x.2.2.2.2.1) (C := cnT) (T := ftT) (N := 7) hx hb hts inT hown hK hP 0 rfl rfl 5 (by decide) (hts _ mw87) (fun _ h9 => h9) rfl dT_open_32 ?_
      refine lv_iconst (v := 1) hx hb dT_open_35 (by decide) ?_
      refine lv_iload_n hx hb dT_open_36 rfl (lv_at hl 0 rfl) ?_
      refine lv_ishl hx hb dT_open_37 ?_
      refine kTop (y := 1) (by decide) ?_
      refine lv_ior hx hb dT_open_38 ?_
      refine va_put (D := D) (ci := 0) (v := .int (x.2.2.2.2.1 ||| 1)) (ty := (.int)) (C := cnT) (T := ftT) (N := 7) hx hb hts inT tyT tyT_ok nmT hown hK hP hD hS 0 rfl rfl 5 (by decide) (hts _ mw87) (fun _ h9 => h9) rfl (by decide +kernel) rfl rfl (Nat.le_of_ble_eq_true rfl) dT_open_39 (fun H locs hP hD hS => ?_)
      have hP : va_P D vwCl [(ao, .inr (0, [.ref au, .ref af, .ref ak, .int x.2.2.1, .int x.2.2.2.1, .int (x.2.2.2.2.1 ||| 1), .int x.2.2.2.2.2.1])), (au, .inr (1, [.int x.1.1, .int x.1.2])), (af, .inr (1, [.int x.2.1.1, .int x.2.1.2])), (ak, .inr (2, [.ref a1, .ref a2, .ref a3, .ref a4, .int (nI x.2.2.2.2.2.2.1), .int x.2.2.2.2.2.2.2.1])), (a1, .inl (cI, 10, .inl x.2.2.2.2.2.2.2.2.1)), (a2, .inl (cI, 10, .inl x.2.2.2.2.2.2.2.2.2.1)), (a3, .inl (cI, 10, .inl x.2.2.2.2.2.2.2.2.2.2.1)), (a4, .inl (cI, 10, .inl x.2.2.2.2.2.2.2.2.2.2.2))] H := hP
      have hD : va_D A [(ao, .inr (0, [.ref au, .ref af, .ref ak, .int x.2.2.1, .int x.2.2.2.1, .int (x.2.2.2.2.1 ||| 1), .int x.2.2.2.2.2.1])), (au, .inr (1, [.int x.1.1, .int x.1.2])), (af, .inr (1, [.int x.2.1.1, .int x.2.1.2])), (ak, .inr (2, [.ref a1, .ref a2, .ref a3, .ref a4, .int (nI x.2.2.2.2.2.2.1), .int x.2.2.2.2.2.2.2.1])), (a1, .inl (cI, 10, .inl x.2.2.2.2.2.2.2.2.1)), (a2, .inl (cI, 10, .inl x.2.2.2.2.2.2.2.2.2.1)), (a3, .inl (cI, 10, .inl x.2.2.2.2.2.2.2.2.2.2.1)), (a4, .inl (cI, 10, .inl x.2.2.2.2.2.2.2.2.2.2.2))] := hD
      refine lv_iload_n hx hb dT_open_42 rfl (lv_at hl 2 rfl) ?_
      refine lv_if_eq (tgt := 58) hx hb dT_open_43 (by decide) (fun h => absurd h h1) (fun _ => ?_)
      refine lv_aload_n hx hb dT_open_46 rfl (lv_at hl 1 rfl) ?_
      refine lv_dup hx hb dT_open_47 rfl ?_
      refine va_get (D := D) (ci := 0) (v := .int x.2.2.2.2.2.1) (C := cnT) (T := ftT) (N := 7) hx hb hts inT hown hK hP 0 rfl rfl 6 (by decide) (hts _ mw88) (fun _ h9 => h9) rfl dT_open_48 ?_
      refine lv_iconst (v := 1) hx hb dT_open_51 (by decide) ?_
      refine lv_iload_n hx hb dT_open_52 rfl (lv_at hl 0 rfl) ?_
      refine lv_ishl hx hb dT_open_53 ?_
      refine kTop (y := 1) (by decide) ?_
      refine lv_ior hx hb dT_open_54 ?_
      refine va_put (D := D) (ci := 0) (v := .int (x.2.2.2.2.2.1 ||| 1)) (ty := (.int)) (C := cnT) (T := ftT) (N := 7) hx hb hts inT tyT tyT_ok nmT hown hK hP hD hS 0 rfl rfl 6 (by decide) (hts _ mw88) (fun _ h9 => h9) rfl (by decide +kernel) rfl rfl (Nat.le_of_ble_eq_true rfl) dT_open_55 (fun H locs hP hD hS => ?_)
      have hP : va_P D vwCl [(ao, .inr (0, [.ref au, .ref af, .ref ak, .int x.2.2.1, .int x.2.2.2.1, .int (x.2.2.2.2.1 ||| 1), .int (x.2.2.2.2.2.1 ||| 1)])), (au, .inr (1, [.int x.1.1, .int x.1.2])), (af, .inr (1, [.int x.2.1.1, .int x.2.1.2])), (ak, .inr (2, [.ref a1, .ref a2, .ref a3, .ref a4, .int (nI x.2.2.2.2.2.2.1), .int x.2.2.2.2.2.2.2.1])), (a1, .inl (cI, 10, .inl x.2.2.2.2.2.2.2.2.1)), (a2, .inl (cI, 10, .inl x.2.2.2.2.2.2.2.2.2.1)), (a3, .inl (cI, 10, .inl x.2.2.2.2.2.2.2.2.2.2.1)), (a4, .inl (cI, 10, .inl x.2.2.2.2.2.2.2.2.2.2.2))] H := hP
      have hD : va_D A [(ao, .inr (0, [.ref au, .ref af, .ref ak, .int x.2.2.1, .int x.2.2.2.1, .int (x.2.2.2.2.1 ||| 1), .int (x.2.2.2.2.2.1 ||| 1)])), (au, .inr (1, [.int x.1.1, .int x.1.2])), (af, .inr (1, [.int x.2.1.1, .int x.2.1.2])), (ak, .inr (2, [.ref a1, .ref a2, .ref a3, .ref a4, .int (nI x.2.2.2.2.2.2.1), .int x.2.2.2.2.2.2.2.1])), (a1, .inl (cI, 10, .inl x.2.2.2.2.2.2.2.2.1)), (a2, .inl (cI, 10, .inl x.2.2.2.2.2.2.2.2.2.1)), (a3, .inl (cI, 10, .inl x.2.2.2.2.2.2.2.2.2.2.1)), (a4, .inl (cI, 10, .inl x.2.2.2.2.2.2.2.2.2.2.2))] := hD
      refine lv_iload_n hx hb dT_open_58 rfl (lv_at hl 0 rfl) ?_
      exact kretI (wf := fun st => wX cI ao au af ak a1 a2 a3 a4 st) (st := (x.1, x.2.1, x.2.2.1, x.2.2.2.1, (x.2.2.2.2.1 ||| 1), (x.2.2.2.2.2.1 ||| 1), x.2.2.2.2.2.2)) (by first | (rw [zt_open, if_neg h1, if_pos h2]; done) | exact ((if_neg h1).trans (if_pos h2))) hx hb hr hlk hS hP hD hK dT_open_59
  ·
    refine lv_aload_n hx hb dT_open_4 rfl (lv_at hl 0 rfl) ?_
    refine va_get (D := D) (ci := 0) (v := .int x.2.2.1) (C := cnT) (T := ftT) (N := 7) hx hb hts inT hown hK hP 0 rfl rfl 3 (by decide) (hts _ mw85) (fun _ h9 => h9) rfl dT_open_5 ?_
    refine lv_iconst (v := 2) hx hb dT_open_8 (by decide) ?_
    refine lv_icmp_ne (tgt := 15) hx hb dT_open_9 (by decide) (fun h5 => ?_) (fun h5 => ?_)
    ·
      refine lv_iconst (v := 0) hx hb dT_open_15 (by decide) ?_
      refine lv_istore_n hx hb dT_open_16 rfl hl (by decide) rfl (fun ls hl => ?_)
      have hl : lv_has ls 3 [(2, .int 0), (0, .ref ao), (1, .int g1)] := hl
      refine lv_iload_n hx hb dT_open_17 rfl (lv_at hl 0 rfl) ?_
      refine lv_iconst (v := 3) hx hb dT_open_18 (by decide) ?_
      refine lv_icmp_ge (tgt := 66) hx hb dT_open_19 (by decide) (fun h => absurd h (by decide)) (fun _ => ?_)
      refine lv_aload_n hx hb dT_open_22 rfl (lv_at hl 1 rfl) ?_
      refine lv_iload_n hx hb dT_open_23 rfl (lv_at hl 0 rfl) ?_
      refine kcI (isR := []) (isC := [0, 1, 2, 3, 4, 5, 6, 7]) (wr := []) (w2 := [(ao, .inr (0, [.ref au, .ref af, .ref ak, .int x.2.2.1, .int x.2.2.2.1, .int x.2.2.2.2.1, .int x.2.2.2.2.2.1])), (au, .inr (1, [.int x.1.1, .int x.1.2])), (af, .inr (1, [.int x.2.1.1, .int x.2.1.2])), (ak, .inr (2, [.ref a1, .ref a2, .ref a3, .ref a4, .int (nI x.2.2.2.2.2.2.1), .int x.2.2.2.2.2.2.2.1])), (a1, .inl (cI, 10, .inl x.2.2.2.2.2.2.2.2.1)), (a2, .inl (cI, 10, .inl x.2.2.2.2.2.2.2.2.2.1)), (a3, .inl (cI, 10, .inl x.2.2.2.2.2.2.2.2.2.2.1)), (a4, .inl (cI, 10, .inl x.2.2.2.2.2.2.2.2.2.2.2))]) (va_runV (As := [.int 0]) (rest := []) ⟨hx, hb, hml, hown, hts⟩ (kt_isOpen l D cI cZ ao au af ak a1 a2 a3 a4 x 0 _) ⟨(callB_of 1 hts gd_yT_isOpen rfl rfl rfl (hts _ mw24) (hts _ mw108) (by decide +kernel) ⟨Nat.le_of_ble_eq_true rfl, Nat.le_of_ble_eq_true rfl⟩), hts _ mw110, hts _ mw0⟩ (kpreV hNw hP hD hK [0, 1, 2, 3, 4, 5, 6, 7] rfl (by decide) 0 rfl (ci := 0) rfl) rfl rfl hl.1 rfl (lv_room (Nat.le_of_ble_eq_true rfl)) dT_open_24 ⟨Nat.le_of_ble_eq_true rfl, Nat.le_of_ble_eq_true rfl⟩) hP hD hS hA [0, 1, 2, 3, 4, 5, 6, 7] rfl rfl (by decide) (by decide) (by decide) rfl (fun H locs hP hD hS => ?_)
      refine lv_if_ne (tgt := 60) hx hb dT_open_27 (by decide) (fun h6 => ?_) (fun h6 => ?_)
      ·
        refine lv_iinc (k := 0) (v := 1) hx hb dT_open_60 hl rfl (by decide) (by decide) rfl (fun ls hl => ?_)
        have hl : lv_has ls 3 [(2, .int 1), (0, .ref ao), (1, .int g1)] := hl
        refine lv_goto hx hb dT_open_63 (tgt := 17) (by decide) ?_
        refine lv_iload_n hx hb dT_open_17 rfl (lv_at hl 0 rfl) ?_
        refine lv_iconst (v := 3) hx hb dT_open_18 (by decide) ?_
        refine lv_icmp_ge (tgt := 66) hx hb dT_open_19 (by decide) (fun h => absurd h (by decide)) (fun _ => ?_)
        refine lv_aload_n hx hb dT_open_22 rfl (lv_at hl 1 rfl) ?_
        refine lv_iload_n hx hb dT_open_23 rfl (lv_at hl 0 rfl) ?_
        refine kcI (isR := []) (isC := [0, 1, 2, 3, 4, 5, 6, 7]) (wr := []) (w2 := [(ao, .inr (0, [.ref au, .ref af, .ref ak, .int x.2.2.1, .int x.2.2.2.1, .int x.2.2.2.2.1, .int x.2.2.2.2.2.1])), (au, .inr (1, [.int x.1.1, .int x.1.2])), (af, .inr (1, [.int x.2.1.1, .int x.2.1.2])), (ak, .inr (2, [.ref a1, .ref a2, .ref a3, .ref a4, .int (nI x.2.2.2.2.2.2.1), .int x.2.2.2.2.2.2.2.1])), (a1, .inl (cI, 10, .inl x.2.2.2.2.2.2.2.2.1)), (a2, .inl (cI, 10, .inl x.2.2.2.2.2.2.2.2.2.1)), (a3, .inl (cI, 10, .inl x.2.2.2.2.2.2.2.2.2.2.1)), (a4, .inl (cI, 10, .inl x.2.2.2.2.2.2.2.2.2.2.2))]) (va_runV (As := [.int 1]) (rest := []) ⟨hx, hb, hml, hown, hts⟩ (kt_isOpen l D cI cZ ao au af ak a1 a2 a3 a4 x 1 _) ⟨(callB_of 1 hts gd_yT_isOpen rfl rfl rfl (hts _ mw24) (hts _ mw108) (by decide +kernel) ⟨Nat.le_of_ble_eq_true rfl, Nat.le_of_ble_eq_true rfl⟩), hts _ mw110, hts _ mw0⟩ (kpreV hNw hP hD hK [0, 1, 2, 3, 4, 5, 6, 7] rfl (by decide) 0 rfl (ci := 0) rfl) rfl rfl hl.1 rfl (lv_room (Nat.le_of_ble_eq_true rfl)) dT_open_24 ⟨Nat.le_of_ble_eq_true rfl, Nat.le_of_ble_eq_true rfl⟩) hP hD hS hA [0, 1, 2, 3, 4, 5, 6, 7] rfl rfl (by decide) (by decide) (by decide) rfl (fun H locs hP hD hS => ?_)
        refine lv_if_ne (tgt := 60) hx hb dT_open_27 (by decide) (fun h7 => ?_) (fun h7 => ?_)
        ·
          refine lv_iinc (k := 0) (v := 2) hx hb dT_open_60 hl rfl (by decide) (by decide) rfl (fun ls hl => ?_)
          have hl : lv_has ls 3 [(2, .int 2), (0, .ref ao), (1, .int g1)] := hl
          refine lv_goto hx hb dT_open_63 (tgt := 17) (by decide) ?_
          refine lv_iload_n hx hb dT_open_17 rfl (lv_at hl 0 rfl) ?_
          refine lv_iconst (v := 3) hx hb dT_open_18 (by decide) ?_
          refine lv_icmp_ge (tgt := 66) hx hb dT_open_19 (by decide) (fun h => absurd h (by decide)) (fun _ => ?_)
          refine lv_aload_n hx hb dT_open_22 rfl (lv_at hl 1 rfl) ?_
          refine lv_iload_n hx hb dT_open_23 rfl (lv_at hl 0 rfl) ?_
          refine kcI (isR := []) (isC := [0, 1, 2, 3, 4, 5, 6, 7]) (wr := []) (w2 := [(ao, .inr (0, [.ref au, .ref af, .ref ak, .int x.2.2.1, .int x.2.2.2.1, .int x.2.2.2.2.1, .int x.2.2.2.2.2.1])), (au, .inr (1, [.int x.1.1, .int x.1.2])), (af, .inr (1, [.int x.2.1.1, .int x.2.1.2])), (ak, .inr (2, [.ref a1, .ref a2, .ref a3, .ref a4, .int (nI x.2.2.2.2.2.2.1), .int x.2.2.2.2.2.2.2.1])), (a1, .inl (cI, 10, .inl x.2.2.2.2.2.2.2.2.1)), (a2, .inl (cI, 10, .inl x.2.2.2.2.2.2.2.2.2.1)), (a3, .inl (cI, 10, .inl x.2.2.2.2.2.2.2.2.2.2.1)), (a4, .inl (cI, 10, .inl x.2.2.2.2.2.2.2.2.2.2.2))]) (va_runV (As := [.int 2]) (rest := []) ⟨hx, hb, hml, hown, hts⟩ (kt_isOpen l D cI cZ ao au af ak a1 a2 a3 a4 x 2 _) ⟨(callB_of 1 hts gd_yT_isOpen rfl rfl rfl (hts _ mw24) (hts _ mw108) (by decide +kernel) ⟨Nat.le_of_ble_eq_true rfl, Nat.le_of_ble_eq_true rfl⟩), hts _ mw110, hts _ mw0⟩ (kpreV hNw hP hD hK [0, 1, 2, 3, 4, 5, 6, 7] rfl (by decide) 0 rfl (ci := 0) rfl) rfl rfl hl.1 rfl (lv_room (Nat.le_of_ble_eq_true rfl)) dT_open_24 ⟨Nat.le_of_ble_eq_true rfl, Nat.le_of_ble_eq_true rfl⟩) hP hD hS hA [0, 1, 2, 3, 4, 5, 6, 7] rfl rfl (by decide) (by decide) (by decide) rfl (fun H locs hP hD hS => ?_)
          refine lv_if_ne (tgt := 60) hx hb dT_open_27 (by decide) (fun h8 => ?_) (fun h8 => ?_)
          ·
            refine lv_iinc (k := 0) (v := 3) hx hb dT_open_60 hl rfl (by decide) (by decide) rfl (fun ls hl => ?_)
            have hl : lv_has ls 3 [(2, .int 3), (0, .ref ao), (1, .int g1)] := hl
            refine lv_goto hx hb dT_open_63 (tgt := 17) (by decide) ?_
            refine lv_iload_n hx hb dT_open_17 rfl (lv_at hl 0 rfl) ?_
            refine lv_iconst (v := 3) hx hb dT_open_18 (by decide) ?_
            refine lv_icmp_ge (tgt := 66) hx hb dT_open_19 (by decide) (fun _ => ?_) (fun h => absurd h (by decide))
            refine lv_bipush (v := (-6)) hx hb dT_open_66 (by decide) ?_
            exact kretI (wf := fun st => wX cI ao au af ak a1 a2 a3 a4 st) (st := x) (by first | (rw [zt_open, if_pos h1, if_neg h5, if_neg h6, if_neg h7, if_neg h8]; done) | exact ((if_pos h1).trans ((if_neg h5).trans ((if_neg h6).trans ((if_neg h7).trans (if_neg h8)))))) hx hb hr hlk hS hP hD hK dT_open_68
          ·
            refine lv_aload_n hx hb dT_open_30 rfl (lv_at hl 1 rfl) ?_
            refine lv_dup hx hb dT_open_31 rfl ?_
            refine va_get (D := D) (ci := 0) (v := .int x.2.2.2.2.1) (C := cnT) (T := ftT) (N := 7) hx hb hts inT hown hK hP 0 rfl rfl 5 (by decide) (hts _ mw87) (fun _ h9 => h9) rfl dT_open_32 ?_
            refine lv_iconst (v := 1) hx hb dT_open_35 (by decide) ?_
            refine lv_iload_n hx hb dT_open_36 rfl (lv_at hl 0 rfl) ?_
            refine lv_ishl hx hb dT_open_37 ?_
            refine kTop (y := 4) (by decide) ?_
            refine lv_ior hx hb dT_open_38 ?_
            refine va_put (D := D) (ci := 0) (v := .int (x.2.2.2.2.1 ||| 4)) (ty := (.int)) (C := cnT) (T := ftT) (N := 7) hx hb hts inT tyT tyT_ok nmT hown hK hP hD hS 0 rfl rfl 5 (by decide) (hts _ mw87) (fun _ h9 => h9) rfl (by decide +kernel) rfl rfl (Nat.le_of_ble_eq_true rfl) dT_open_39 (fun H locs hP hD hS => ?_)
            have hP : va_P D vwCl [(ao, .inr (0, [.ref au, .ref af, .ref ak, .int x.2.2.1, .int x.2.2.2.1, .int (x.2.2.2.2.1 ||| 4), .int x.2.2.2.2.2.1])), (au, .inr (1, [.int x.1.1, .int x.1.2])), (af, .inr (1, [.int x.2.1.1, .int x.2.1.2])), (ak, .inr (2, [.ref a1, .ref a2, .ref a3, .ref a4, .int (nI x.2.2.2.2.2.2.1), .int x.2.2.2.2.2.2.2.1])), (a1, .inl (cI, 10, .inl x.2.2.2.2.2.2.2.2.1)), (a2, .inl (cI, 10, .inl x.2.2.2.2.2.2.2.2.2.1)), (a3, .inl (cI, 10, .inl x.2.2.2.2.2.2.2.2.2.2.1)), (a4, .inl (cI, 10, .inl x.2.2.2.2.2.2.2.2.2.2.2))] H := hP
            have hD : va_D A [(ao, .inr (0, [.ref au, .ref af, .ref ak, .int x.2.2.1, .int x.2.2.2.1, .int (x.2.2.2.2.1 ||| 4), .int x.2.2.2.2.2.1])), (au, .inr (1, [.int x.1.1, .int x.1.2])), (af, .inr (1, [.int x.2.1.1, .int x.2.1.2])), (ak, .inr (2, [.ref a1, .ref a2, .ref a3, .ref a4, .int (nI x.2.2.2.2.2.2.1), .int x.2.2.2.2.2.2.2.1])), (a1, .inl (cI, 10, .inl x.2.2.2.2.2.2.2.2.1)), (a2, .inl (cI, 10, .inl x.2.2.2.2.2.2.2.2.2.1)), (a3, .inl (cI, 10, .inl x.2.2.2.2.2.2.2.2.2.2.1)), (a4, .inl (cI, 10, .inl x.2.2.2.2.2.2.2.2.2.2.2))] := hD
            refine lv_iload_n hx hb dT_open_42 rfl (lv_at hl 2 rfl) ?_
            refine lv_if_eq (tgt := 58) hx hb dT_open_43 (by decide) (fun _ => ?_) (fun h => absurd h1 h)
            refine lv_iload_n hx hb dT_open_58 rfl (lv_at hl 0 rfl) ?_
            exact kretI (wf := fun st => wX cI ao au af ak a1 a2 a3 a4 st) (st := (x.1, x.2.1, x.2.2.1, x.2.2.2.1, (x.2.2.2.2.1 ||| 4), x.2.2.2.2.2.1, x.2.2.2.2.2.2)) (by first | (rw [zt_open, if_pos h1, if_neg h5, if_neg h6, if_neg h7, if_pos h8]; done) | exact ((if_pos h1).trans ((if_neg h5).trans ((if_neg h6).trans ((if_neg h7).trans (if_pos h8)))))) hx hb hr hlk hS hP hD hK dT_open_59
        ·
          refine lv_aload_n hx hb dT_open_30 rfl (lv_at hl 1 rfl) ?_
          refine lv_dup hx hb dT_open_31 rfl ?_
          refine va_get (D := D) (ci := 0) (v := .int x.2.2.2.2.1) (C := cnT) (T := ftT) (N := 7) hx hb hts inT hown hK hP 0 rfl rfl 5 (by decide) (hts _ mw87) (fun _ h9 => h9) rfl dT_open_32 ?_
          refine lv_iconst (v := 1) hx hb dT_open_35 (by decide) ?_
          refine lv_iload_n hx hb dT_open_36 rfl (lv_at hl 0 rfl) ?_
          refine lv_ishl hx hb dT_open_37 ?_
          refine kTop (y := 2) (by decide) ?_
          refine lv_ior hx hb dT_open_38 ?_
          refine va_put (D := D) (ci := 0) (v := .int (x.2.2.2.2.1 ||| 2)) (ty := (.int)) (C := cnT) (T := ftT) (N := 7) hx hb hts inT tyT tyT_ok nmT hown hK hP hD hS 0 rfl rfl 5 (by decide) (hts _ mw87) (fun _ h9 => h9) rfl (by decide +kernel) rfl rfl (Nat.le_of_ble_eq_true rfl) dT_open_39 (fun H locs hP hD hS => ?_)
          have hP : va_P D vwCl [(ao, .inr (0, [.ref au, .ref af, .ref ak, .int x.2.2.1, .int x.2.2.2.1, .int (x.2.2.2.2.1 ||| 2), .int x.2.2.2.2.2.1])), (au, .inr (1, [.int x.1.1, .int x.1.2])), (af, .inr (1, [.int x.2.1.1, .int x.2.1.2])), (ak, .inr (2, [.ref a1, .ref a2, .ref a3, .ref a4, .int (nI x.2.2.2.2.2.2.1), .int x.2.2.2.2.2.2.2.1])), (a1, .inl (cI, 10, .inl x.2.2.2.2.2.2.2.2.1)), (a2, .inl (cI, 10, .inl x.2.2.2.2.2.2.2.2.2.1)), (a3, .inl (cI, 10, .inl x.2.2.2.2.2.2.2.2.2.2.1)), (a4, .inl (cI, 10, .inl x.2.2.2.2.2.2.2.2.2.2.2))] H := hP
          have hD : va_D A [(ao, .inr (0, [.ref au, .ref af, .ref ak, .int x.2.2.1, .int x.2.2.2.1, .int (x.2.2.2.2.1 ||| 2), .int x.2.2.2.2.2.1])), (au, .inr (1, [.int x.1.1, .int x.1.2])), (af, .inr (1, [.int x.2.1.1, .int x.2.1.2])), (ak, .inr (2, [.ref a1, .ref a2, .ref a3, .ref a4, .int (nI x.2.2.2.2.2.2.1), .int x.2.2.2.2.2.2.2.1])), (a1, .inl (cI, 10, .inl x.2.2.2.2.2.2.2.2.1)), (a2, .inl (cI, 10, .inl x.2.2.2.2.2.2.2.2.2.1)), (a3, .inl (cI, 10, .inl x.2.2.2.2.2.2.2.2.2.2.1)), (a4, .inl (cI, 10, .inl x.2.2.2.2.2.2.2.2.2.2.2))] := hD
          refine lv_iload_n hx hb dT_open_42 rfl (lv_at hl 2 rfl) ?_
          refine lv_if_eq (tgt := 58) hx hb dT_open_43 (by decide) (fun _ => ?_) (fun h => absurd h1 h)
          refine lv_iload_n hx hb dT_open_58 rfl (lv_at hl 0 rfl) ?_
          exact kretI (wf := fun st => wX cI ao au af ak a1 a2 a3 a4 st) (st := (x.1, x.2.1, x.2.2.1, x.2.2.2.1, (x.2.2.2.2.1 ||| 2), x.2.2.2.2.2.1, x.2.2.2.2.2.2)) (by first | (rw [zt_open, if_pos h1, if_neg h5, if_neg h6, if_pos h7]; done) | exact ((if_pos h1).trans ((if_neg h5).trans ((if_neg h6).trans (if_pos h7))))) hx hb hr hlk hS hP hD hK dT_open_59
      ·
        refine lv_aload_n hx hb dT_open_30 rfl (lv_at hl 1 rfl) ?_
        refine lv_dup hx hb dT_open_31 rfl ?_
        refine va_get (D := D) (ci := 0) (v := .int x.2.2.2.2.1) (C := cnT) (T := ftT) (N := 7) hx hb hts inT hown hK hP 0 rfl rfl 5 (by decide) (hts _ mw87) (fun _ h9 => h9) rfl dT_open_32 ?_
        refine lv_iconst (v := 1) hx hb dT_open_35 (by decide) ?_
        refine lv_iload_n hx hb dT_open_36 rfl (lv_at hl 0 rfl) ?_
        refine lv_ishl hx hb dT_open_37 ?_
        refine kTop (y := 1) (by decide) ?_
        refine lv_ior hx hb dT_open_38 ?_
        refine va_put (D := D) (ci := 0) (v := .int (x.2.2.2.2.1 ||| 1)) (ty := (.int)) (C := cnT) (T := ftT) (N := 7) hx hb hts inT tyT tyT_ok nmT hown hK hP hD hS 0 rfl rfl 5 (by decide) (hts _ mw87) (fun _ h9 => h9) rfl (by decide +kernel) rfl rfl (Nat.le_of_ble_eq_true rfl) dT_open_39 (fun H locs hP hD hS => ?_)
        have hP : va_P D vwCl [(ao, .inr (0, [.ref au, .ref af, .ref ak, .int x.2.2.1, .int x.2.2.2.1, .int (x.2.2.2.2.1 ||| 1), .int x.2.2.2.2.2.1])), (au, .inr (1, [.int x.1.1, .int x.1.2])), (af, .inr (1, [.int x.2.1.1, .int x.2.1.2])), (ak, .inr (2, [.ref a1, .ref a2, .ref a3, .ref a4, .int (nI x.2.2.2.2.2.2.1), .int x.2.2.2.2.2.2.2.1])), (a1, .inl (cI, 10, .inl x.2.2.2.2.2.2.2.2.1)), (a2, .inl (cI, 10, .inl x.2.2.2.2.2.2.2.2.2.1)), (a3, .inl (cI, 10, .inl x.2.2.2.2.2.2.2.2.2.2.1)), (a4, .inl (cI, 10, .inl x.2.2.2.2.2.2.2.2.2.2.2))] H := hP
        have hD : va_D A [(ao, .inr (0, [.ref au, .ref af, .ref ak, .int x.2.2.1, .int x.2.2.2.1, .int (x.2.2.2.2.1 ||| 1), .int x.2.2.2.2.2.1])), (au, .inr (1, [.int x.1.1, .int x.1.2])), (af, .inr (1, [.int x.2.1.1, .int x.2.1.2])), (ak, .inr (2, [.ref a1, .ref a2, .ref a3, .ref a4, .int (nI x.2.2.2.2.2.2.1), .int x.2.2.2.2.2.2.2.1])), (a1, .inl (cI, 10, .inl x.2.2.2.2.2.2.2.2.1)), (a2, .inl (cI, 10, .inl x.2.2.2.2.2.2.2.2.2.1)), (a3, .inl (cI, 10, .inl x.2.2.2.2.2.2.2.2.2.2.1)), (a4, .inl (cI, 10, .inl x.2.2.2.2.2.2.2.2.2.2.2))] := hD
        refine lv_iload_n hx hb dT_open_42 rfl (lv_at hl 2 rfl) ?_
        refine lv_if_eq (tgt := 58) hx hb dT_open_43 (by decide) (fun _ => ?_) (fun h => absurd h1 h)
        refine lv_iload_n hx hb dT_open_58 rfl (lv_at hl 0 rfl) ?_
        exact kretI (wf := fun st => wX cI ao au af ak a1 a2 a3 a4 st) (st := (x.1, x.2.1, x.2.2.1, x.2.2.2.1, (x.2.2.2.2.1 ||| 1), x.2.2.2.2.2.1, x.2.2.2.2.2.2)) (by first | (rw [zt_open, if_pos h1, if_neg h5, if_pos h6]; done) | exact ((if_pos h1).trans ((if_neg h5).trans (if_pos h6)))) hx hb hr hlk hS hP hD hK dT_open_59
    ·
      refine lv_bipush (v := (-3)) hx hb dT_open_12 (by decide) ?_
      exact kretI (wf := fun st => wX cI ao au af ak a1 a2 a3 a4 st) (st := x) (by first | (rw [zt_open, if_pos h1, if_pos h5]; done) | exact ((if_pos h1).trans (if_pos h5))) hx hb hr hlk hS hP hD hK dT_open_14

def zt_close (x : XS) (g1 : Int32) : Int32 × XS := (if (zt_isOpen x g1) = 0 then ((-1), x) else (if (x.2.2.2.2.1 &&& (((1 : Int32) <<< (g1 &&& 31)) ^^^ (-1))) = 0 then (0, (x.1, x.2.1, 0, x.2.2.2.1, (x.2.2.2.2.1 &&& (((1 : Int32) <<< (g1 &&& 31)) ^^^ (-1))), (x.2.2.2.2.2.1 &&& (((1 : Int32) <<< (g1 &&& 31)) ^^^ (-1))), (zk_removeOwnedBy x.2.2.2.2.2.2 g1))) else (0, (x.1, x.2.1, x.2.2.1, x.2.2.2.1, (x.2.2.2.2.1 &&& (((1 : Int32) <<< (g1 &&& 31)) ^^^ (-1))), (x.2.2.2.2.2.1 &&& (((1 : Int32) <<< (g1 &&& 31)) ^^^ (-1))), (zk_removeOwnedBy x.2.2.2.2.2.2 g1)))))

set_option maxHeartbeats 4000000 in
set_option maxRecDepth 100000 in
theorem kt_close (l : Launch) (D : va_G) (cI cZ : ClassId) (ao au af ak a1 a2 a3 a4 : Nat) (x : XS) (g1 : Int32) (hn : x.2.2.2.2.2.2.1 ≤ 10) : kI l yT_close wsT_close (rmOf 2 44) D (kT cI cZ) [.ref ao, .int g1] (wX cI ao au af ak a1 a2 a3 a4 x) (zt_close x g1).1 (wX cI ao au af ak a1 a2 a3 a4 ((zt_close x g1).2)) := by
  intro sz
  refine kOf (Qc := fun A => kQi D (kT cI cZ) A (zt_close x g1).1 (wX cI ao au af ak a1 a2 a3 a4 ((zt_close x g1).2))) (cc := cT_close) (maxL := 2) (ret := some .int) (by decide) rfl (Nat.le_of_ble_eq_true rfl) ?_ sz
  intro p e s m args below meth c A ls hx hb hml hown hts hNw hr hlk hin hA hS hP hD hK hl
  show W p l e (rmOf 2 44) s m args below meth c s.heap [] 0 0 (MQ below (kQi D (kT cI cZ) A (zt_close x g1).1 (wX cI ao au af ak a1 a2 a3 a4 ((zt_close x g1).2))) args s 0 0 A) (F0 m 0 ls [])
  have hts : ∀ q ∈ lw_g, q.before args s = true := fun q h => hts q (List.mem_cons_of_mem _ h)
  have hown : s.vm.findClass cnT = some m.cls := hown
  have hl : lv_has ls 2 [(0, .ref ao), (1, .int g1)] := hl
  have hP : va_P D vwCl [(ao, .inr (0, [.ref au, .ref af, .ref ak, .int x.2.2.1, .int x.2.2.2.1, .int x.2.2.2.2.1, .int x.2.2.2.2.2.1])), (au, .inr (1, [.int x.1.1, .int x.1.2])), (af, .inr (1, [.int x.2.1.1, .int x.2.1.2])), (ak, .inr (2, [.ref a1, .ref a2, .ref a3, .ref a4, .int (nI x.2.2.2.2.2.2.1), .int x.2.2.2.2.2.2.2.1])), (a1, .inl (cI, 10, .inl x.2.2.2.2.2.2.2.2.1)), (a2, .inl (cI, 10, .inl x.2.2.2.2.2.2.2.2.2.1)), (a3, .inl (cI, 10, .inl x.2.2.2.2.2.2.2.2.2.2.1)), (a4, .inl (cI, 10, .inl x.2.2.2.2.2.2.2.2.2.2.2))] s.heap := hP
  have hD : va_D A [(ao, .inr (0, [.ref au, .ref af, .ref ak, .int x.2.2.1, .int x.2.2.2.1, .int x.2.2.2.2.1, .int x.2.2.2.2.2.1])), (au, .inr (1, [.int x.1.1, .int x.1.2])), (af, .inr (1, [.int x.2.1.1, .int x.2.1.2])), (ak, .inr (2, [.ref a1, .ref a2, .ref a3, .ref a4, .int (nI x.2.2.2.2.2.2.1), .int x.2.2.2.2.2.2.2.1])), (a1, .inl (cI, 10, .inl x.2.2.2.2.2.2.2.2.1)), (a2, .inl (cI, 10, .inl x.2.2.2.2.2.2.2.2.2.1)), (a3, .inl (cI, 10, .inl x.2.2.2.2.2.2.2.2.2.2.1)), (a4, .inl (cI, 10, .inl x.2.2.2.2.2.2.2.2.2.2.2))] := hD
  refine lv_aload_n hx hb dT_close_0 rfl (lv_at hl 0 rfl) ?_
  refine lv_iload_n hx hb dT_close_1 rfl (lv_at hl 1 rfl) ?_
  refine kcI (isR := []) (isC := [0, 1, 2, 3, 4, 5, 6, 7]) (wr := []) (w2 := [(ao, .inr (0, [.ref au, .ref af, .ref ak, .int x.2.2.1, .int x.2.2.2.1, .int x.2.2.2.2.1, .int x.2.2.2.2.2.1])), (au, .inr (1, [.int x.1.1, .int x.1.2])), (af, .inr (1, [.int x.2.1.1, .int x.2.1.2])), (ak, .inr (2, [.ref a1, .ref a2, .ref a3, .ref a4, .int (nI x.2.2.2.2.2.2.1), .int x.2.2.2.2.2.2.2.1])), (a1, .inl (cI, 10, .inl x.2.2.2.2.2.2.2.2.1)), (a2, .inl (cI, 10, .inl x.2.2.2.2.2.2.2.2.2.1)), (a3, .inl (cI, 10, .inl x.2.2.2.2.2.2.2.2.2.2.1)), (a4, .inl (cI, 10, .inl x.2.2.2.2.2.2.2.2.2.2.2))]) (va_runV (As := [.int g1]) (rest := []) ⟨hx, hb, hml, hown, hts⟩ (kt_isOpen l D cI cZ ao au af ak a1 a2 a3 a4 x g1 _) ⟨(callB_of 1 hts gd_yT_isOpen rfl rfl rfl (hts _ mw24) (hts _ mw108) (by decide +kernel) ⟨Nat.le_of_ble_eq_true rfl, Nat.le_of_ble_eq_true rfl⟩), hts _ mw110, hts _ mw0⟩ (kpreV hNw hP hD hK [0, 1, 2, 3, 4, 5, 6, 7] rfl (by decide) 0 rfl (ci := 0) rfl) rfl rfl hl.1 rfl (lv_room (Nat.le_of_ble_eq_true rfl)) dT_close_2 ⟨Nat.le_of_ble_eq_true rfl, Nat.le_of_ble_eq_true rfl⟩) hP hD hS hA [0, 1, 2, 3, 4, 5, 6, 7] rfl rfl (by decide) (by decide) (by decide) rfl (fun H locs hP hD hS => ?_)
  refine lv_if_ne (tgt := 10) hx hb dT_close_5 (by decide) (fun h1 => ?_) (fun h1 => ?_)
  ·
    refine lv_aload_n hx hb dT_close_10 rfl (lv_at hl 0 rfl) ?_
    refine lv_dup hx hb dT_close_11 rfl ?_
    refine va_get (D := D) (ci := 0) (v := .int x.2.2.2.2.1) (C := cnT) (T := ftT) (N := 7) hx hb hts inT hown hK hP 0 rfl rfl 5 (by decide) (hts _ mw87) (fun _ h9 => h9) rfl dT_close_12 ?_
    refine lv_iconst (v := 1) hx hb dT_close_15 (by decide) ?_
    refine lv_iload_n hx hb dT_close_16 rfl (lv_at hl 1 rfl) ?_
    refine lv_ishl hx hb dT_close_17 ?_
    refine lv_iconst (v := (-1)) hx hb dT_close_18 (by decide) ?_
    refine lv_ixor hx hb dT_close_19 ?_
    refine lv_iand hx hb dT_close_20 ?_
    refine va_put (D := D) (ci := 0) (v := .int (x.2.2.2.2.1 &&& (((1 : Int32) <<< (g1 &&& 31)) ^^^ (-1)))) (ty := (.int)) (C := cnT) (T := ftT) (N := 7) hx hb hts inT tyT tyT_ok nmT hown hK hP hD hS 0 rfl rfl 5 (by decide) (hts _ mw87) (fun _ h9 => h9) rfl (by decide +kernel) rfl rfl (Nat.le_of_ble_eq_true rfl) dT_close_21 (fun H locs hP hD hS => ?_)
    have hP : va_P D vwCl [(ao, .inr (0, [.ref au, .ref af, .ref ak, .int x.2.2.1, .int x.2.2.2.1, .int (x.2.2.2.2.1 &&& (((1 : Int32) <<< (g1 &&& 31)) ^^^ (-1))), .int x.2.2.2.2.2.1])), (au, .inr (1, [.int x.1.1, .int x.1.2])), (af, .inr (1, [.int x.2.1.1, .int x.2.1.2])), (ak, .inr (2, [.ref a1, .ref a2, .ref a3, .ref a4, .int (nI x.2.2.2.2.2.2.1), .int x.2.2.2.2.2.2.2.1])), (a1, .inl (cI, 10, .inl x.2.2.2.2.2.2.2.2.1)), (a2, .inl (cI, 10, .inl x.2.2.2.2.2.2.2.2.2.1)), (a3, .inl (cI, 10, .inl x.2.2.2.2.2.2.2.2.2.2.1)), (a4, .inl (cI, 10, .inl x.2.2.2.2.2.2.2.2.2.2.2))] H := hP
    have hD : va_D A [(ao, .inr (0, [.ref au, .ref af, .ref ak, .int x.2.2.1, .int x.2.2.2.1, .int (x.2.2.2.2.1 &&& (((1 : Int32) <<< (g1 &&& 31)) ^^^ (-1))), .int x.2.2.2.2.2.1])), (au, .inr (1, [.int x.1.1, .int x.1.2])), (af, .inr (1, [.int x.2.1.1, .int x.2.1.2])), (ak, .inr (2, [.ref a1, .ref a2, .ref a3, .ref a4, .int (nI x.2.2.2.2.2.2.1), .int x.2.2.2.2.2.2.2.1])), (a1, .inl (cI, 10, .inl x.2.2.2.2.2.2.2.2.1)), (a2, .inl (cI, 10, .inl x.2.2.2.2.2.2.2.2.2.1)), (a3, .inl (cI, 10, .inl x.2.2.2.2.2.2.2.2.2.2.1)), (a4, .inl (cI, 10, .inl x.2.2.2.2.2.2.2.2.2.2.2))] := hD
    refine lv_aload_n hx hb dT_close_24 rfl (lv_at hl 0 rfl) ?_
    refine lv_dup hx hb dT_close_25 rfl ?_
    refine va_get (D := D) (ci := 0) (v := .int x.2.2.2.2.2.1) (C := cnT) (T := ftT) (N := 7) hx hb hts inT hown hK hP 0 rfl rfl 6 (by decide) (hts _ mw88) (fun _ h9 => h9) rfl dT_close_26 ?_
    refine lv_iconst (v := 1) hx hb dT_close_29 (by decide) ?_
    refine lv_iload_n hx hb dT_close_30 rfl (lv_at hl 1 rfl) ?_
    refine lv_ishl hx hb dT_close_31 ?_
    refine lv_iconst (v := (-1)) hx hb dT_close_32 (by decide) ?_
    refine lv_ixor hx hb dT_close_33 ?_
    refine lv_iand hx hb dT_close_34 ?_
    refine va_put (D := D) (ci := 0) (v := .int (x.2.2.2.2.2.1 &&& (((1 : Int32) <<< (g1 &&& 31)) ^^^ (-1)))) (ty := (.int)) (C := cnT) (T := ftT) (N := 7) hx hb hts inT tyT tyT_ok nmT hown hK hP hD hS 0 rfl rfl 6 (by decide) (hts _ mw88) (fun _ h9 => h9) rfl (by decide +kernel) rfl rfl (Nat.le_of_ble_eq_true rfl) dT_close_35 (fun H locs hP hD hS => ?_)
    have hP : va_P D vwCl [(ao, .inr (0, [.ref au, .ref af, .ref ak, .int x.2.2.1, .int x.2.2.2.1, .int (x.2.2.2.2.1 &&& (((1 : Int32) <<< (g1 &&& 31)) ^^^ (-1))), .int (x.2.2.2.2.2.1 &&& (((1 : Int32) <<< (g1 &&& 31)) ^^^ (-1)))])), (au, .inr (1, [.int x.1.1, .int x.1.2])), (af, .inr (1, [.int x.2.1.1, .int x.2.1.2])), (ak, .inr (2, [.ref a1, .ref a2, .ref a3, .ref a4, .int (nI x.2.2.2.2.2.2.1), .int x.2.2.2.2.2.2.2.1])), (a1, .inl (cI, 10, .inl x.2.2.2.2.2.2.2.2.1)), (a2, .inl (cI, 10, .inl x.2.2.2.2.2.2.2.2.2.1)), (a3, .inl (cI, 10, .inl x.2.2.2.2.2.2.2.2.2.2.1)), (a4, .inl (cI, 10, .inl x.2.2.2.2.2.2.2.2.2.2.2))] H := hP
    have hD : va_D A [(ao, .inr (0, [.ref au, .ref af, .ref ak, .int x.2.2.1, .int x.2.2.2.1, .int (x.2.2.2.2.1 &&& (((1 : Int32) <<< (g1 &&& 31)) ^^^ (-1))), .int (x.2.2.2.2.2.1 &&& (((1 : Int32) <<< (g1 &&& 31)) ^^^ (-1)))])), (au, .inr (1, [.int x.1.1, .int x.1.2])), (af, .inr (1, [.int x.2.1.1, .int x.2.1.2])), (ak, .inr (2, [.ref a1, .ref a2, .ref a3, .ref a4, .int (nI x.2.2.2.2.2.2.1), .int x.2.2.2.2.2.2.2.1])), (a1, .inl (cI, 10, .inl x.2.2.2.2.2.2.2.2.1)), (a2, .inl (cI, 10, .inl x.2.2.2.2.2.2.2.2.2.1)), (a3, .inl (cI, 10, .inl x.2.2.2.2.2.2.2.2.2.2.1)), (a4, .inl (cI, 10, .inl x.2.2.2.2.2.2.2.2.2.2.2))] := hD
    refine lv_aload_n hx hb dT_close_38 rfl (lv_at hl 0 rfl) ?_
    refine va_get (D := D) (ci := 0) (v := .ref ak) (C := cnT) (T := ftT) (N := 7) hx hb hts inT hown hK hP 0 rfl rfl 2 (by decide) (hts _ mw84) (fun _ h9 => h9) rfl dT_close_39 ?_
    refine lv_iload_n hx hb dT_close_42 rfl (lv_at hl 1 rfl) ?_
    refine kcV (isR := [0, 1, 2]) (isC := [3, 4, 5, 6, 7]) (wr := [(ao, .inr (0, [.ref au, .ref af, .ref ak, .int x.2.2.1, .int x.2.2.2.1, .int (x.2.2.2.2.1 &&& (((1 : Int32) <<< (g1 &&& 31)) ^^^ (-1))), .int (x.2.2.2.2.2.1 &&& (((1 : Int32) <<< (g1 &&& 31)) ^^^ (-1)))])), (au, .inr (1, [.int x.1.1, .int x.1.2])), (af, .inr (1, [.int x.2.1.1, .int x.2.1.2]))]) (w2 := [(ao, .inr (0, [.ref au, .ref af, .ref ak, .int x.2.2.1, .int x.2.2.2.1, .int (x.2.2.2.2.1 &&& (((1 : Int32) <<< (g1 &&& 31)) ^^^ (-1))), .int (x.2.2.2.2.2.1 &&& (((1 : Int32) <<< (g1 &&& 31)) ^^^ (-1)))])), (au, .inr (1, [.int x.1.1, .int x.1.2])), (af, .inr (1, [.int x.2.1.1, .int x.2.1.2])), (ak, .inr (2, [.ref a1, .ref a2, .ref a3, .ref a4, .int (nI (zk_removeOwnedBy x.2.2.2.2.2.2 g1).1), .int ((zk_removeOwnedBy x.2.2.2.2.2.2 g1).2.1)])), (a1, .inl (cI, 10, .inl ((zk_removeOwnedBy x.2.2.2.2.2.2 g1).2.2.1))), (a2, .inl (cI, 10, .inl ((zk_removeOwnedBy x.2.2.2.2.2.2 g1).2.2.2.1))), (a3, .inl (cI, 10, .inl ((zk_removeOwnedBy x.2.2.2.2.2.2 g1).2.2.2.2.1))), (a4, .inl (cI, 10, .inl ((zk_removeOwnedBy x.2.2.2.2.2.2 g1).2.2.2.2.2)))]) (va_runVN (As := [.int g1]) (rest := []) ⟨hx, hb, hml, hown, hts⟩ (kk_removeOwnedBy l D cI cZ ak a1 a2 a3 a4 x.2.2.2.2.2.2 g1 (hn) _) ⟨(va_cnB 1 hts gd_yK_removeOwnedBy rfl rfl rfl (hNw _ mw116) (hts _ mw26) (by decide +kernel) ⟨Nat.le_of_ble_eq_true rfl, Nat.le_of_ble_eq_true rfl⟩), hts _ mw118, hts _ mw1⟩ (kpreV hNw hP hD hK [3, 4, 5, 6, 7] rfl (by decide) 3 rfl (ci := 2) rfl) rfl rfl hl.1 rfl (lv_room (Nat.le_of_ble_eq_true rfl)) dT_close_43 ⟨Nat.le_of_ble_eq_true rfl, Nat.le_of_ble_eq_true rfl⟩) hP hD hS hA [0, 1, 2, 3, 4, 5, 6, 7] rfl rfl (by decide) (by decide) (by decide) rfl (fun H locs hP hD hS => ?_)
    refine lv_aload_n hx hb dT_close_46 rfl (lv_at hl 0 rfl) ?_
    refine va_get (D := D) (ci := 0) (v := .int (x.2.2.2.2.1 &&& (((1 : Int32) <<< (g1 &&& 31)) ^^^ (-1)))) (C := cnT) (T := ftT) (N := 7) hx hb hts inT hown hK hP 0 rfl rfl 5 (by decide) (hts _ mw87) (fun _ h9 => h9) rfl dT_close_47 ?_
    refine lv_if_ne (tgt := 58) hx hb dT_close_50 (by decide) (fun h2 => ?_) (fun h2 => ?_)
    ·
      refine lv_iconst (v := 0) hx hb dT_close_58 (by decide) ?_
      exact kretI (wf := fun st => wX cI ao au af ak a1 a2 a3 a4 st) (st := (x.1, x.2.1, x.2.2.1, x.2.2.2.1, (x.2.2.2.2.1 &&& (((1 : Int32) <<< (g1 &&& 31)) ^^^ (-1))), (x.2.2.2.2.2.1 &&& (((1 : Int32) <<< (g1 &&& 31)) ^^^ (-1))), (zk_removeOwnedBy x.2.2.2.2.2.2 g1))) (by first | (rw [zt_close, if_neg h1, if_neg h2]; done) | exact ((if_neg h1).trans (if_neg h2))) hx hb hr hlk hS hP hD hK dT_close_59
    ·
      refine lv_aload_n hx hb dT_close_53 rfl (lv_at hl 0 rfl) ?_
      refine lv_iconst (v := 0) hx hb dT_close_54 (by decide) ?_
      refine va_put (D := D) (ci := 0) (v := .int 0) (ty := (.int)) (C := cnT) (T := ftT) (N := 7) hx hb hts inT tyT tyT_ok nmT hown hK hP hD hS 0 rfl rfl 3 (by decide) (hts _ mw85) (fun _ h9 => h9) rfl (by decide +kernel) rfl rfl (Nat.le_of_ble_eq_true rfl) dT_close_55 (fun H locs hP hD hS => ?_)
      have hP : va_P D vwCl [(ao, .inr (0, [.ref au, .ref af, .ref ak, .int 0, .int x.2.2.2.1, .int (x.2.2.2.2.1 &&& (((1 : Int32) <<< (g1 &&& 31)) ^^^ (-1))), .int (x.2.2.2.2.2.1 &&& (((1 : Int32) <<< (g1 &&& 31)) ^^^ (-1)))])), (au, .inr (1, [.int x.1.1, .int x.1.2])), (af, .inr (1, [.int x.2.1.1, .int x.2.1.2])), (ak, .inr (2, [.ref a1, .ref a2, .ref a3, .ref a4, .int (nI (zk_removeOwnedBy x.2.2.2.2.2.2 g1).1), .int ((zk_removeOwnedBy x.2.2.2.2.2.2 g1).2.1)])), (a1, .inl (cI, 10, .inl ((zk_removeOwnedBy x.2.2.2.2.2.2 g1).2.2.1))), (a2, .inl (cI, 10, .inl ((zk_removeOwnedBy x.2.2.2.2.2.2 g1).2.2.2.1))), (a3, .inl (cI, 10, .inl ((zk_removeOwnedBy x.2.2.2.2.2.2 g1).2.2.2.2.1))), (a4, .inl (cI, 10, .inl ((zk_removeOwnedBy x.2.2.2.2.2.2 g1).2.2.2.2.2)))] H := hP
      have hD : va_D A [(ao, .inr (0, [.ref au, .ref af, .ref ak, .int 0, .int x.2.2.2.1, .int (x.2.2.2.2.1 &&& (((1 : Int32) <<< (g1 &&& 31)) ^^^ (-1))), .int (x.2.2.2.2.2.1 &&& (((1 : Int32) <<< (g1 &&& 31)) ^^^ (-1)))])), (au, .inr (1, [.int x.1.1, .int x.1.2])), (af, .inr (1, [.int x.2.1.1, .int x.2.1.2])), (ak, .inr (2, [.ref a1, .ref a2, .ref a3, .ref a4, .int (nI (zk_removeOwnedBy x.2.2.2.2.2.2 g1).1), .int ((zk_removeOwnedBy x.2.2.2.2.2.2 g1).2.1)])), (a1, .inl (cI, 10, .inl ((zk_removeOwnedBy x.2.2.2.2.2.2 g1).2.2.1))), (a2, .inl (cI, 10, .inl ((zk_removeOwnedBy x.2.2.2.2.2.2 g1).2.2.2.1))), (a3, .inl (cI, 10, .inl ((zk_removeOwnedBy x.2.2.2.2.2.2 g1).2.2.2.2.1))), (a4, .inl (cI, 10, .inl ((zk_removeOwnedBy x.2.2.2.2.2.2 g1).2.2.2.2.2)))] := hD
      refine lv_iconst (v := 0) hx hb dT_close_58 (by decide) ?_
      exact kretI (wf := fun st => wX cI ao au af ak a1 a2 a3 a4 st) (st := (x.1, x.2.1, 0, x.2.2.2.1, (x.2.2.2.2.1 &&& (((1 : Int32) <<< (g1 &&& 31)) ^^^ (-1))), (x.2.2.2.2.2.1 &&& (((1 : Int32) <<< (g1 &&& 31)) ^^^ (-1))), (zk_removeOwnedBy x.2.2.2.2.2.2 g1))) (by first | (rw [zt_close, if_neg h1, if_pos h2]; done) | exact ((if_neg h1).trans (if_pos h2))) hx hb hr hlk hS hP hD hK dT_close_59
  ·
    refine lv_iconst (v := (-1)) hx hb dT_close_8 (by decide) ?_
    exact kretI (wf := fun st => wX cI ao au af ak a1 a2 a3 a4 st) (st := x) (by first | (rw [zt_close, if_pos h1]; done) | exact (if_pos h1)) hx hb hr hlk hS hP hD hK dT_close_9

def zt_login (x : XS) (g1 : Int32) (g2 : Int32) (g3 : Int32) : Int32 × XS := (if (zt_isOpen x g1) = 0 then ((-1), x) else (if x.2.2.1 = 0 then (if g2 = 0 then (if (zr_tryPin x.1 g3).1 = 0 then ((zr_tryPin x.1 g3).1, ((zr_tryPin x.1 g3).2, x.2.1, 1, x.2.2.2.1, x.2.2.2.2.1, x.2.2.2.2.2.1, x.2.2.2.2.2.2)) else ((zr_tryPin x.1 g3).1, ((zr_tryPin x.1 g3).2, x.2.1, x.2.2.1, x.2.2.2.1, x.2.2.2.2.1, x.2.2.2.2.2.1, x.2.2.2.2.2.2))) else (if x.2.2.2.2.1 = x.2.2.2.2.2.1 then (if (zr_tryPin x.2.1 g3).1 = 0 then ((zr_tryPin x.2.1 g3).1, (x.1, (zr_tryPin x.2.1 g3).2, 2, x.2.2.2.1, x.2.2.2.2.1, x.2.2.2.2.2.1, x.2.2.2.2.2.2)) else ((zr_tryPin x.2.1 g3).1, (x.1, (zr_tryPin x.2.1 g3).2, x.2.2.1, x.2.2.2.1, x.2.2.2.2.1, x.2.2.2.2.2.1, x.2.2.2.2.2.2))) else ((-4), x))) else ((-3), x)))

set_option maxHeartbeats 4000000 in
set_option maxRecDepth 100000 in
theorem kt_login (l : Launch) (D : va_G) (cI cZ : ClassId) (ao au af ak a1 a2 a3 a4 : Nat) (x : XS) (g1 : Int32) (g2 : Int32) (g3 : Int32) (hn : x.2.2.2.2.2.2.1 ≤ 10) : kI l yT_login wsT_login (rmOf 1 21) D (kT cI cZ) [.ref ao, .int g1, .int g2, .int g3] (wX cI ao au af ak a1 a2 a3 a4 x) (zt_login x g1 g2 g3).1 (wX cI ao au af ak a1 a2 a3 a4 ((zt_login x g1 g2 g3).2)) := by
  intro sz
  refine kOf (Qc := fun A => kQi D (kT cI cZ) A (zt_login x g1 g2 g3).1 (wX cI ao au af ak a1 a2 a3 a4 ((zt_login x g1 g2 g3).2))) (cc := cT_login) (maxL := 6) (ret := some .int) (by decide) rfl (Nat.le_of_ble_eq_true rfl) ?_ sz
  intro p e s m args below meth c A ls hx hb hml hown hts hNw hr hlk hin hA hS hP hD hK hl
  show W p l e (rmOf 1 21) s m args below meth c s.heap [] 0 0 (MQ below (kQi D (kT cI cZ) A (zt_login x g1 g2 g3).1 (wX cI ao au af ak a1 a2 a3 a4 ((zt_login x g1 g2 g3).2))) args s 0 0 A) (F0 m 0 ls [])
  have hts : ∀ q ∈ lw_g, q.before args s = true := fun q h => hts q (List.mem_cons_of_mem _ h)
  have hown : s.vm.findClass cnT = some m.cls := hown
  have hl : lv_has ls 6 [(0, .ref ao), (1, .int g1), (2, .int g2), (3, .int g3)] := hl
  have hP : va_P D vwCl [(ao, .inr (0, [.ref au, .ref af, .ref ak, .int x.2.2.1, .int x.2.2.2.1, .int x.2.2.2.2.1, .int x.2.2.2.2.2.1])), (au, .inr (1, [.int x.1.1, .int x.1.2])), (af, .inr (1, [.int x.2.1.1, .int x.2.1.2])), (ak, .inr (2, [.ref a1, .ref a2, .ref a3, .ref a4, .int (nI x.2.2.2.2.2.2.1), .int x.2.2.2.2.2.2.2.1])), (a1, .inl (cI, 10, .inl x.2.2.2.2.2.2.2.2.1)), (a2, .inl (cI, 10, .inl x.2.2.2.2.2.2.2.2.2.1)), (a3, .inl (cI, 10, .inl x.2.2.2.2.2.2.2.2.2.2.1)), (a4, .inl (cI, 10, .inl x.2.2.2.2.2.2.2.2.2.2.2))] s.heap := hP
  have hD : va_D A [(ao, .inr (0, [.ref au, .ref af, .ref ak, .int x.2.2.1, .int x.2.2.2.1, .int x.2.2.2.2.1, .int x.2.2.2.2.2.1])), (au, .inr (1, [.int x.1.1, .int x.1.2])), (af, .inr (1, [.int x.2.1.1, .int x.2.1.2])), (ak, .inr (2, [.ref a1, .ref a2, .ref a3, .ref a4, .int (nI x.2.2.2.2.2.2.1), .int x.2.2.2.2.2.2.2.1])), (a1, .inl (cI, 10, .inl x.2.2.2.2.2.2.2.2.1)), (a2, .inl (cI, 10, .inl x.2.2.2.2.2.2.2.2.2.1)), (a3, .inl (cI, 10, .inl x.2.2.2.2.2.2.2.2.2.2.1)), (a4, .inl (cI, 10, .inl x.2.2.2.2.2.2.2.2.2.2.2))] := hD
  refine lv_aload_n hx hb dT_login_0 rfl (lv_at hl 0 rfl) ?_
  refine lv_iload_n hx hb dT_login_1 rfl (lv_at hl 1 rfl) ?_
  refine kcI (isR := []) (isC := [0, 1, 2, 3, 4, 5, 6, 7]) (wr := []) (w2 := [(ao, .inr (0, [.ref au, .ref af, .ref ak, .int x.2.2.1, .int x.2.2.2.1, .int x.2.2.2.2.1, .int x.2.2.2.2.2.1])), (au, .inr (1, [.int x.1.1, .int x.1.2])), (af, .inr (1, [.int x.2.1.1, .int x.2.1.2])), (ak, .inr (2, [.ref a1, .ref a2, .ref a3, .ref a4, .int (nI x.2.2.2.2.2.2.1), .int x.2.2.2.2.2.2.2.1])), (a1, .inl (cI, 10, .inl x.2.2.2.2.2.2.2.2.1)), (a2, .inl (cI, 10, .inl x.2.2.2.2.2.2.2.2.2.1)), (a3, .inl (cI, 10, .inl x.2.2.2.2.2.2.2.2.2.2.1)), (a4, .inl (cI, 10, .inl x.2.2.2.2.2.2.2.2.2.2.2))]) (va_runV (As := [.int g1]) (rest := []) ⟨hx, hb, hml, hown, hts⟩ (kt_isOpen l D cI cZ ao au af ak a1 a2 a3 a4 x g1 _) ⟨(callB_of 1 hts gd_yT_isOpen rfl rfl rfl (hts _ mw24) (hts _ mw108) (by decide +kernel) ⟨Nat.le_of_ble_eq_true rfl, Nat.le_of_ble_eq_true rfl⟩), hts _ mw110, hts _ mw0⟩ (kpreV hNw hP hD hK [0, 1, 2, 3, 4, 5, 6, 7] rfl (by decide) 0 rfl (ci := 0) rfl) rfl rfl hl.1 rfl (lv_room (Nat.le_of_ble_eq_true rfl)) dT_login_2 ⟨Nat.le_of_ble_eq_true rfl, Nat.le_of_ble_eq_true rfl⟩) hP hD hS hA [0, 1, 2, 3, 4, 5, 6, 7] rfl rfl (by decide) (by decide) (by decide) rfl (fun H locs hP hD hS => ?_)
  refine lv_if_ne (tgt := 10) hx hb dT_login_5 (by decide) (fun h1 => ?_) (fun h1 => ?_)
  ·
    refine lv_aload_n hx hb dT_login_10 rfl (lv_at hl 0 rfl) ?_
    refine va_get (D := D) (ci := 0) (v := .int x.2.2.1) (C := cnT) (T := ftT) (N := 7) hx hb hts inT hown hK hP 0 rfl rfl 3 (by decide) (hts _ mw85) (fun _ h9 => h9) rfl dT_login_11 ?_
    refine lv_if_eq (tgt := 20) hx hb dT_login_14 (by decide) (fun h2 => ?_) (fun h2 => ?_)
    ·
      refine lv_iload_n hx hb dT_login_20 rfl (lv_at hl 2 rfl) ?_
      refine lv_if_eq (tgt := 38) hx hb dT_login_21 (by decide) (fun h3 => ?_) (fun h3 => ?_)
      ·
        refine lv_iload_n hx hb dT_login_38 rfl (lv_at hl 2 rfl) ?_
        refine lv_if_eq (tgt := 49) hx hb dT_login_39 (by decide) (fun _ => ?_) (fun h => absurd h3 h)
        refine lv_aload_n hx hb dT_login_49 rfl (lv_at hl 0 rfl) ?_
        refine va_get (D := D) (ci := 0) (v := .ref au) (C := cnT) (T := ftT) (N := 7) hx hb hts inT hown hK hP 0 rfl rfl 0 (by decide) (hts _ mw82) (fun _ h9 => h9) rfl dT_login_50 ?_
        refine lv_astore hx hb dT_login_53 hl (by decide) rfl (fun ls hl => ?_)
        have hl : lv_has ls 6 [(4, .ref au), (0, .ref ao), (1, .int g1), (2, .int g2), (3, .int g3)] := hl
        refine lv_aload hx hb dT_login_55 (lv_at hl 0 rfl) ?_
        refine lv_iload_n hx hb dT_login_57 rfl (lv_at hl 4 rfl) ?_
        refine kcI (isR := [0, 2, 3, 4, 5, 6, 7]) (isC := [1]) (wr := [(ao, .inr (0, [.ref au, .ref af, .ref ak, .int x.2.2.1, .int x.2.2.2.1, .int x.2.2.2.2.1, .int x.2.2.2.2.2.1])), (af, .inr (1, [.int x.2.1.1, .int x.2.1.2])), (ak, .inr (2, [.ref a1, .ref a2, .ref a3, .ref a4, .int (nI x.2.2.2.2.2.2.1), .int x.2.2.2.2.2.2.2.1])), (a1, .inl (cI, 10, .inl x.2.2.2.2.2.2.2.2.1)), (a2, .inl (cI, 10, .inl x.2.2.2.2.2.2.2.2.2.1)), (a3, .inl (cI, 10, .inl x.2.2.2.2.2.2.2.2.2.2.1)), (a4, .inl (cI, 10, .inl x.2.2.2.2.2.2.2.2.2.2.2))]) (w2 := [(ao, .inr (0, [.ref au, .ref af, .ref ak, .int x.2.2.1, .int x.2.2.2.1, .int x.2.2.2.2.1, .int x.2.2.2.2.2.1])), (au, .inr (1, [.int ((zr_tryPin x.1 g3).2.1), .int ((zr_tryPin x.1 g3).2.2)])), (af, .inr (1, [.int x.2.1.1, .int x.2.1.2])), (ak, .inr (2, [.ref a1, .ref a2, .ref a3, .ref a4, .int (nI x.2.2.2.2.2.2.1), .int x.2.2.2.2.2.2.2.1])), (a1, .inl (cI, 10, .inl x.2.2.2.2.2.2.2.2.1)), (a2, .inl (cI, 10, .inl x.2.2.2.2.2.2.2.2.2.1)), (a3, .inl (cI, 10, .inl x.2.2.2.2.2.2.2.2.2.2.1)), (a4, .inl (cI, 10, .inl x.2.2.2.2.2.2.2.2.2.2.2))]) (va_runVN (As := [.int g3]) (rest := []) ⟨hx, hb, hml, hown, hts⟩ (kr_tryPin l D cI cZ au x.1 g3 _) ⟨(va_cnB 1 hts gd_yR_tryPin rfl rfl rfl (hNw _ mw128) (hts _ mw25) (by decide +kernel) ⟨Nat.le_of_ble_eq_true rfl, Nat.le_of_ble_eq_true rfl⟩), hts _ mw130, hts _ mw3⟩ (kpreV hNw hP hD hK [1] rfl (by decide) 1 rfl (ci := 1) rfl) rfl rfl hl.1 rfl (lv_room (Nat.le_of_ble_eq_true rfl)) dT_login_58 ⟨Nat.le_of_ble_eq_true rfl, Nat.le_of_ble_eq_true rfl⟩) hP hD hS hA [0, 7, 1, 2, 3, 4, 5, 6] rfl rfl (by decide) (by decide) (by decide) rfl (fun H locs hP hD hS => ?_)
        refine lv_istore hx hb dT_login_61 hl (by decide) rfl (fun ls hl => ?_)
        have hl : lv_has ls 6 [(5, .int ((zr_tryPin x.1 g3).1)), (4, .ref au), (0, .ref ao), (1, .int g1), (2, .int g2), (3, .int g3)] := hl
        refine lv_iload hx hb dT_login_63 (lv_at hl 0 rfl) ?_
        refine lv_if_ne (tgt := 81) hx hb dT_login_65 (by decide) (fun h4 => ?_) (fun h4 => ?_)
        ·
          refine lv_iload hx hb dT_login_81 (lv_at hl 0 rfl) ?_
          exact kretI (wf := fun st => wX cI ao au af ak a1 a2 a3 a4 st) (st := ((zr_tryPin x.1 g3).2, x.2.1, x.2.2.1, x.2.2.2.1, x.2.2.2.2.1, x.2.2.2.2.2.1, x.2.2.2.2.2.2)) (by first | (rw [zt_login, if_neg h1, if_pos h2, if_pos h3, if_neg h4]; done) | exact ((if_neg h1).trans ((if_pos h2).trans ((if_pos h3).trans (if_neg h4))))) hx hb hr hlk hS hP hD hK dT_login_83
        ·
          refine lv_aload_n hx hb dT_login_68 rfl (lv_at hl 2 rfl) ?_
          refine lv_iload_n hx hb dT_login_69 rfl (lv_at hl 4 rfl) ?_
          refine lv_if_eq (tgt := 77) hx hb dT_login_70 (by decide) (fun _ => ?_) (fun h => absurd h3 h)
          refine lv_iconst (v := 1) hx hb dT_login_77 (by decide) ?_
          refine va_put (D := D) (ci := 0) (v := .int 1) (ty := (.int)) (C := cnT) (T := ftT) (N := 7) hx hb hts inT tyT tyT_ok nmT hown hK hP hD hS 0 rfl rfl 3 (by decide) (hts _ mw85) (fun _ h9 => h9) rfl (by decide +kernel) rfl rfl (Nat.le_of_ble_eq_true rfl) dT_login_78 (fun H locs hP hD hS => ?_)
          have hP : va_P D vwCl [(ao, .inr (0, [.ref au, .ref af, .ref ak, .int 1, .int x.2.2.2.1, .int x.2.2.2.2.1, .int x.2.2.2.2.2.1])), (au, .inr (1, [.int ((zr_tryPin x.1 g3).2.1), .int ((zr_tryPin x.1 g3).2.2)])), (af, .inr (1, [.int x.2.1.1, .int x.2.1.2])), (ak, .inr (2, [.ref a1, .ref a2, .ref a3, .ref a4, .int (nI x.2.2.2.2.2.2.1), .int x.2.2.2.2.2.2.2.1])), (a1, .inl (cI, 10, .inl x.2.2.2.2.2.2.2.2.1)), (a2, .inl (cI, 10, .inl x.2.2.2.2.2.2.2.2.2.1)), (a3, .inl (cI, 10, .inl x.2.2.2.2.2.2.2.2.2.2.1)), (a4, .inl (cI, 10, .inl x.2.2.2.2.2.2.2.2.2.2.2))] H := hP
          have hD : va_D A [(ao, .inr (0, [.ref au, .ref af, .ref ak, .int 1, .int x.2.2.2.1, .int x.2.2.2.2.1, .int x.2.2.2.2.2.1])), (au, .inr (1, [.int ((zr_tryPin x.1 g3).2.1), .int ((zr_tryPin x.1 g3).2.2)])), (af, .inr (1, [.int x.2.1.1, .int x.2.1.2])), (ak, .inr (2, [.ref a1, .ref a2, .ref a3, .ref a4, .int (nI x.2.2.2.2.2.2.1), .int x.2.2.2.2.2.2.2.1])), (a1, .inl (cI, 10, .inl x.2.2.2.2.2.2.2.2.1)), (a2, .inl (cI, 10, .inl x.2.2.2.2.2.2.2.2.2.1)), (a3, .inl (cI, 10, .inl x.2.2.2.2.2.2.2.2.2.2.1)), (a4, .inl (cI, 10, .inl x.2.2.2.2.2.2.2.2.2.2.2))] := hD
          refine lv_iload hx hb dT_login_81 (lv_at hl 0 rfl) ?_
          exact kretI (wf := fun st => wX cI ao au af ak a1 a2 a3 a4 st) (st := ((zr_tryPin x.1 g3).2, x.2.1, 1, x.2.2.2.1, x.2.2.2.2.1, x.2.2.2.2.2.1, x.2.2.2.2.2.2)) (by first | (rw [zt_login, if_neg h1, if_pos h2, if_pos h3, if_pos h4]; done) | exact ((if_neg h1).trans ((if_pos h2).trans ((if_pos h3).trans (if_pos h4))))) hx hb hr hlk hS hP hD hK dT_login_83
      ·
        refine lv_aload_n hx hb dT_login_24 rfl (lv_at hl 0 rfl) ?_
        refine va_get (D := D) (ci := 0) (v := .int x.2.2.2.2.1) (C := cnT) (T := ftT) (N := 7) hx hb hts inT hown hK hP 0 rfl rfl 5 (by decide) (hts _ mw87) (fun _ h9 => h9) rfl dT_login_25 ?_
        refine lv_aload_n hx hb dT_login_28 rfl (lv_at hl 0 rfl) ?_
        refine va_get (D := D) (ci := 0) (v := .int x.2.2.2.2.2.1) (C := cnT) (T := ftT) (N := 7) hx hb hts inT hown hK hP 0 rfl rfl 6 (by decide) (hts _ mw88) (fun _ h9 => h9) rfl dT_login_29 ?_
        refine lv_icmp_eq (tgt := 38) hx hb dT_login_32 (by decide) (fun h5 => ?_) (fun h5 => ?_)
        ·
          refine lv_iload_n hx hb dT_login_38 rfl (lv_at hl 2 rfl) ?_
          refine lv_if_eq (tgt := 49) hx hb dT_login_39 (by decide) (fun h => absurd h h3) (fun _ => ?_)
          refine lv_aload_n hx hb dT_login_42 rfl (lv_at hl 0 rfl) ?_
          refine va_get (D := D) (ci := 0) (v := .ref af) (C := cnT) (T := ftT) (N := 7) hx hb hts inT hown hK hP 0 rfl rfl 1 (by decide) (hts _ mw83) (fun _ h9 => h9) rfl dT_login_43 ?_
          refine lv_goto hx hb dT_login_46 (tgt := 53) (by decide) ?_
          refine lv_astore hx hb dT_login_53 hl (by decide) rfl (fun ls hl => ?_)
          have hl : lv_has ls 6 [(4, .ref af), (0, .ref ao), (1, .int g1), (2, .int g2), (3, .int g3)] := hl
          refine lv_aload hx hb dT_login_55 (lv_at hl 0 rfl) ?_
          refine lv_iload_n hx hb dT_login_57 rfl (lv_at hl 4 rfl) ?_
          refine kcI (isR := [0, 1, 3, 4, 5, 6, 7]) (isC := [2]) (wr := [(ao, .inr (0, [.ref au, .ref af, .ref ak, .int x.2.2.1, .int x.2.2.2.1, .int x.2.2.2.2.1, .int x.2.2.2.2.2.1])), (au, .inr (1, [.int x.1.1, .int x.1.2])), (ak, .inr (2, [.ref a1, .ref a2, .ref a3, .ref a4, .int (nI x.2.2.2.2.2.2.1), .int x.2.2.2.2.2.2.2.1])), (a1, .inl (cI, 10, .inl x.2.2.2.2.2.2.2.2.1)), (a2, .inl (cI, 10, .inl x.2.2.2.2.2.2.2.2.2.1)), (a3, .inl (cI, 10, .inl x.2.2.2.2.2.2.2.2.2.2.1)), (a4, .inl (cI, 10, .inl x.2.2.2.2.2.2.2.2.2.2.2))]) (w2 := [(ao, .inr (0, [.ref au, .ref af, .ref ak, .int x.2.2.1, .int x.2.2.2.1, .int x.2.2.2.2.1, .int x.2.2.2.2.2.1])), (au, .inr (1, [.int x.1.1, .int x.1.2])), (af, .inr (1, [.int ((zr_tryPin x.2.1 g3).2.1), .int ((zr_tryPin x.2.1 g3).2.2)])), (ak, .inr (2, [.ref a1, .ref a2, .ref a3, .ref a4, .int (nI x.2.2.2.2.2.2.1), .int x.2.2.2.2.2.2.2.1])), (a1, .inl (cI, 10, .inl x.2.2.2.2.2.2.2.2.1)), (a2, .inl (cI, 10, .inl x.2.2.2.2.2.2.2.2.2.1)), (a3, .inl (cI, 10, .inl x.2.2.2.2.2.2.2.2.2.2.1)), (a4, .inl (cI, 10, .inl x.2.2.2.2.2.2.2.2.2.2.2))]) (va_runVN (As := [.int g3]) (rest := []) ⟨hx, hb, hml, hown, hts⟩ (kr_tryPin l D cI cZ af x.2.1 g3 _) ⟨(va_cnB 1 hts gd_yR_tryPin rfl rfl rfl (hNw _ mw128) (hts _ mw25) (by decide +kernel) ⟨Nat.le_of_ble_eq_true rfl, Nat.le_of_ble_eq_true rfl⟩), hts _ mw130, hts _ mw3⟩ (kpreV hNw hP hD hK [2] rfl (by decide) 2 rfl (ci := 1) rfl) rfl rfl hl.1 rfl (lv_room (Nat.le_of_ble_eq_true rfl)) dT_login_58 ⟨Nat.le_of_ble_eq_true rfl, Nat.le_of_ble_eq_true rfl⟩) hP hD hS hA [0, 1, 7, 2, 3, 4, 5, 6] rfl rfl (by decide) (by decide) (by decide) rfl (fun H locs hP hD hS => ?_)
          refine lv_istore hx hb dT_login_61 hl (by decide) rfl (fun ls hl => ?_)
          have hl : lv_has ls 6 [(5, .int ((zr_tryPin x.2.1 g3).1)), (4, .ref af), (0, .ref ao), (1, .int g1), (2, .int g2), (3, .int g3)] := hl
          refine lv_iload hx hb dT_login_63 (lv_at hl 0 rfl) ?_
          refine lv_if_ne (tgt := 81) hx hb dT_login_65 (by decide) (fun h6 => ?_) (fun h6 => ?_)
          ·
            refine lv_iload hx hb dT_login_81 (lv_at hl 0 rfl) ?_
            exact kretI (wf := fun st => wX cI ao au af ak a1 a2 a3 a4 st) (st := (x.1, (zr_tryPin x.2.1 g3).2, x.2.2.1, x.2.2.2.1, x.2.2.2.2.1, x.2.2.2.2.2.1, x.2.2.2.2.2.2)) (by first | (rw [zt_login, if_neg h1, if_pos h2, if_neg h3, if_pos h5, if_neg h6]; done) | exact ((if_neg h1).trans ((if_pos h2).trans ((if_neg h3).trans ((if_pos h5).trans (if_neg h6)))))) hx hb hr hlk hS hP hD hK dT_login_83
          ·
            refine lv_aload_n hx hb dT_login_68 rfl (lv_at hl 2 rfl) ?_
            refine lv_iload_n hx hb dT_login_69 rfl (lv_at hl 4 rfl) ?_
            refine lv_if_eq (tgt := 77) hx hb dT_login_70 (by decide) (fun h => absurd h h3) (fun _ => ?_)
            refine lv_iconst (v := 2) hx hb dT_login_73 (by decide) ?_
            refine lv_goto hx hb dT_login_74 (tgt := 78) (by decide) ?_
            refine va_put (D := D) (ci := 0) (v := .int 2) (ty := (.int)) (C := cnT) (T := ftT) (N := 7) hx hb hts inT tyT tyT_ok nmT hown hK hP hD hS 0 rfl rfl 3 (by decide) (hts _ mw85) (fun _ h9 => h9) rfl (by decide +kernel) rfl rfl (Nat.le_of_ble_eq_true rfl) dT_login_78 (fun H locs hP hD hS => ?_)
            have hP : va_P D vwCl [(ao, .inr (0, [.ref au, .ref af, .ref ak, .int 2, .int x.2.2.2.1, .int x.2.2.2.2.1, .int x.2.2.2.2.2.1])), (au, .inr (1, [.int x.1.1, .int x.1.2])), (af, .inr (1, [.int ((zr_tryPin x.2.1 g3).2.1), .int ((zr_tryPin x.2.1 g3).2.2)])), (ak, .inr (2, [.ref a1, .ref a2, .ref a3, .ref a4, .int (nI x.2.2.2.2.2.2.1), .int x.2.2.2.2.2.2.2.1])), (a1, .inl (cI, 10, .inl x.2.2.2.2.2.2.2.2.1)), (a2, .inl (cI, 10, .inl x.2.2.2.2.2.2.2.2.2.1)), (a3, .inl (cI, 10, .inl x.2.2.2.2.2.2.2.2.2.2.1)), (a4, .inl (cI, 10, .inl x.2.2.2.2.2.2.2.2.2.2.2))] H := hP
            have hD : va_D A [(ao, .inr (0, [.ref au, .ref af, .ref ak, .int 2, .int x.2.2.2.1, .int x.2.2.2.2.1, .int x.2.2.2.2.2.1])), (au, .inr (1, [.int x.1.1, .int x.1.2])), (af, .inr (1, [.int ((zr_tryPin x.2.1 g3).2.1), .int ((zr_tryPin x.2.1 g3).2.2)])), (ak, .inr (2, [.ref a1, .ref a2, .ref a3, .ref a4, .int (nI x.2.2.2.2.2.2.1), .int x.2.2.2.2.2.2.2.1])), (a1, .inl (cI, 10, .inl x.2.2.2.2.2.2.2.2.1)), (a2, .inl (cI, 10, .inl x.2.2.2.2.2.2.2.2.2.1)), (a3, .inl (cI, 10, .inl x.2.2.2.2.2.2.2.2.2.2.1)), (a4, .inl (cI, 10, .inl x.2.2.2.2.2.2.2.2.2.2.2))] := hD
            refine lv_iload hx hb dT_login_81 (lv_at hl 0 rfl) ?_
            exact kretI (wf := fun st => wX cI ao au af ak a1 a2 a3 a4 st) (st := (x.1, (zr_tryPin x.2.1 g3).2, 2, x.2.2.2.1, x.2.2.2.2.1, x.2.2.2.2.2.1, x.2.2.2.2.2.2)) (by first | (rw [zt_login, if_neg h1, if_pos h2, if_neg h3, if_pos h5, if_pos h6]; done) | exact ((if_neg h1).trans ((if_pos h2).trans ((if_neg h3).trans ((if_pos h5).trans (if_pos h6)))))) hx hb hr hlk hS hP hD hK dT_login_83
        ·
          refine lv_bipush (v := (-4)) hx hb dT_login_35 (by decide) ?_
          exact kretI (wf := fun st => wX cI ao au af ak a1 a2 a3 a4 st) (st := x) (by first | (rw [zt_login, if_neg h1, if_pos h2, if_neg h3, if_neg h5]; done) | exact ((if_neg h1).trans ((if_pos h2).trans ((if_neg h3).trans (if_neg h5))))) hx hb hr hlk hS hP hD hK dT_login_37
    ·
      refine lv_bipush (v := (-3)) hx hb dT_login_17 (by decide) ?_
      exact kretI (wf := fun st => wX cI ao au af ak a1 a2 a3 a4 st) (st := x) (by first | (rw [zt_login, if_neg h1, if_neg h2]; done) | exact ((if_neg h1).trans (if_neg h2))) hx hb hr hlk hS hP hD hK dT_login_19
  ·
    refine lv_iconst (v := (-1)) hx hb dT_login_8 (by decide) ?_
    exact kretI (wf := fun st => wX cI ao au af ak a1 a2 a3 a4 st) (st := x) (by first | (rw [zt_login, if_pos h1]; done) | exact (if_pos h1)) hx hb hr hlk hS hP hD hK dT_login_9

def zt_logout (x : XS) (g1 : Int32) : Int32 × XS := (if (zt_isOpen x g1) = 0 then ((-1), x) else (if x.2.2.1 = 0 then ((-3), x) else (0, (x.1, x.2.1, 0, x.2.2.2.1, x.2.2.2.2.1, x.2.2.2.2.2.1, (zk_removePrivate x.2.2.2.2.2.2)))))

set_option maxHeartbeats 4000000 in
set_option maxRecDepth 100000 in
theorem kt_logout (l : Launch) (D : va_G) (cI cZ : ClassId) (ao au af ak a1 a2 a3 a4 : Nat) (x : XS) (g1 : Int32) (hn : x.2.2.2.2.2.2.1 ≤ 10) : kI l yT_logout wsT_logout (rmOf 2 43) D (kT cI cZ) [.ref ao, .int g1] (wX cI ao au af ak a1 a2 a3 a4 x) (zt_logout x g1).1 (wX cI ao au af ak a1 a2 a3 a4 ((zt_logout x g1).2)) := by
  intro sz
  refine kOf (Qc := fun A => kQi D (kT cI cZ) A (zt_logout x g1).1 (wX cI ao au af ak a1 a2 a3 a4 ((zt_logout x g1).2))) (cc := cT_logout) (maxL := 2) (ret := some .int) (by decide) rfl (Nat.le_of_ble_eq_true rfl) ?_ sz
  intro p e s m args below meth c A ls hx hb hml hown hts hNw hr hlk hin hA hS hP hD hK hl
  show W p l e (rmOf 2 43) s m args below meth c s.heap [] 0 0 (MQ below (kQi D (kT cI cZ) A (zt_logout x g1).1 (wX cI ao au af ak a1 a2 a3 a4 ((zt_logout x g1).2))) args s 0 0 A) (F0 m 0 ls [])
  have hts : ∀ q ∈ lw_g, q.before args s = true := fun q h => hts q (List.mem_cons_of_mem _ h)
  have hown : s.vm.findClass cnT = some m.cls := hown
  have hl : lv_has ls 2 [(0, .ref ao), (1, .int g1)] := hl
  have hP : va_P D vwCl [(ao, .inr (0, [.ref au, .ref af, .ref ak, .int x.2.2.1, .int x.2.2.2.1, .int x.2.2.2.2.1, .int x.2.2.2.2.2.1])), (au, .inr (1, [.int x.1.1, .int x.1.2])), (af, .inr (1, [.int x.2.1.1, .int x.2.1.2])), (ak, .inr (2, [.ref a1, .ref a2, .ref a3, .ref a4, .int (nI x.2.2.2.2.2.2.1), .int x.2.2.2.2.2.2.2.1])), (a1, .inl (cI, 10, .inl x.2.2.2.2.2.2.2.2.1)), (a2, .inl (cI, 10, .inl x.2.2.2.2.2.2.2.2.2.1)), (a3, .inl (cI, 10, .inl x.2.2.2.2.2.2.2.2.2.2.1)), (a4, .inl (cI, 10, .inl x.2.2.2.2.2.2.2.2.2.2.2))] s.heap := hP
  have hD : va_D A [(ao, .inr (0, [.ref au, .ref af, .ref ak, .int x.2.2.1, .int x.2.2.2.1, .int x.2.2.2.2.1, .int x.2.2.2.2.2.1])), (au, .inr (1, [.int x.1.1, .int x.1.2])), (af, .inr (1, [.int x.2.1.1, .int x.2.1.2])), (ak, .inr (2, [.ref a1, .ref a2, .ref a3, .ref a4, .int (nI x.2.2.2.2.2.2.1), .int x.2.2.2.2.2.2.2.1])), (a1, .inl (cI, 10, .inl x.2.2.2.2.2.2.2.2.1)), (a2, .inl (cI, 10, .inl x.2.2.2.2.2.2.2.2.2.1)), (a3, .inl (cI, 10, .inl x.2.2.2.2.2.2.2.2.2.2.1)), (a4, .inl (cI, 10, .inl x.2.2.2.2.2.2.2.2.2.2.2))] := hD
  refine lv_aload_n hx hb dT_logout_0 rfl (lv_at hl 0 rfl) ?_
  refine lv_iload_n hx hb dT_logout_1 rfl (lv_at hl 1 rfl) ?_
  refine kcI (isR := []) (isC := [0, 1, 2, 3, 4, 5, 6, 7]) (wr := []) (w2 := [(ao, .inr (0, [.ref au, .ref af, .ref ak, .int x.2.2.1, .int x.2.2.2.1, .int x.2.2.2.2.1, .int x.2.2.2.2.2.1])), (au, .inr (1, [.int x.1.1, .int x.1.2])), (af, .inr (1, [.int x.2.1.1, .int x.2.1.2])), (ak, .inr (2, [.ref a1, .ref a2, .ref a3, .ref a4, .int (nI x.2.2.2.2.2.2.1), .int x.2.2.2.2.2.2.2.1])), (a1, .inl (cI, 10, .inl x.2.2.2.2.2.2.2.2.1)), (a2, .inl (cI, 10, .inl x.2.2.2.2.2.2.2.2.2.1)), (a3, .inl (cI, 10, .inl x.2.2.2.2.2.2.2.2.2.2.1)), (a4, .inl (cI, 10, .inl x.2.2.2.2.2.2.2.2.2.2.2))]) (va_runV (As := [.int g1]) (rest := []) ⟨hx, hb, hml, hown, hts⟩ (kt_isOpen l D cI cZ ao au af ak a1 a2 a3 a4 x g1 _) ⟨(callB_of 1 hts gd_yT_isOpen rfl rfl rfl (hts _ mw24) (hts _ mw108) (by decide +kernel) ⟨Nat.le_of_ble_eq_true rfl, Nat.le_of_ble_eq_true rfl⟩), hts _ mw110, hts _ mw0⟩ (kpreV hNw hP hD hK [0, 1, 2, 3, 4, 5, 6, 7] rfl (by decide) 0 rfl (ci := 0) rfl) rfl rfl hl.1 rfl (lv_room (Nat.le_of_ble_eq_true rfl)) dT_logout_2 ⟨Nat.le_of_ble_eq_true rfl, Nat.le_of_ble_eq_true rfl⟩) hP hD hS hA [0, 1, 2, 3, 4, 5, 6, 7] rfl rfl (by decide) (by decide) (by decide) rfl (fun H locs hP hD hS => ?_)
  refine lv_if_ne (tgt := 10) hx hb dT_logout_5 (by decide) (fun h1 => ?_) (fun h1 => ?_)
  ·
    refine lv_aload_n hx hb dT_logout_10 rfl (lv_at hl 0 rfl) ?_
    refine va_get (D := D) (ci := 0) (v := .int x.2.2.1) (C := cnT) (T := ftT) (N := 7) hx hb hts inT hown hK hP 0 rfl rfl 3 (by decide) (hts _ mw85) (fun _ h9 => h9) rfl dT_logout_11 ?_
    refine lv_if_ne (tgt := 20) hx hb dT_logout_14 (by decide) (fun h2 => ?_) (fun h2 => ?_)
    ·
      refine lv_aload_n hx hb dT_logout_20 rfl (lv_at hl 0 rfl) ?_
      refine lv_iconst (v := 0) hx hb dT_logout_21 (by decide) ?_
      refine va_put (D := D) (ci := 0) (v := .int 0) (ty := (.int)) (C := cnT) (T := ftT) (N := 7) hx hb hts inT tyT tyT_ok nmT hown hK hP hD hS 0 rfl rfl 3 (by decide) (hts _ mw85) (fun _ h9 => h9) rfl (by decide +kernel) rfl rfl (Nat.le_of_ble_eq_true rfl) dT_logout_22 (fun H locs hP hD hS => ?_)
      have hP : va_P D vwCl [(ao, .inr (0, [.ref au, .ref af, .ref ak, .int 0, .int x.2.2.2.1, .int x.2.2.2.2.1, .int x.2.2.2.2.2.1])), (au, .inr (1, [.int x.1.1, .int x.1.2])), (af, .inr (1, [.int x.2.1.1, .int x.2.1.2])), (ak, .inr (2, [.ref a1, .ref a2, .ref a3, .ref a4, .int (nI x.2.2.2.2.2.2.1), .int x.2.2.2.2.2.2.2.1])), (a1, .inl (cI, 10, .inl x.2.2.2.2.2.2.2.2.1)), (a2, .inl (cI, 10, .inl x.2.2.2.2.2.2.2.2.2.1)), (a3, .inl (cI, 10, .inl x.2.2.2.2.2.2.2.2.2.2.1)), (a4, .inl (cI, 10, .inl x.2.2.2.2.2.2.2.2.2.2.2))] H := hP
      have hD : va_D A [(ao, .inr (0, [.ref au, .ref af, .ref ak, .int 0, .int x.2.2.2.1, .int x.2.2.2.2.1, .int x.2.2.2.2.2.1])), (au, .inr (1, [.int x.1.1, .int x.1.2])), (af, .inr (1, [.int x.2.1.1, .int x.2.1.2])), (ak, .inr (2, [.ref a1, .ref a2, .ref a3, .ref a4, .int (nI x.2.2.2.2.2.2.1), .int x.2.2.2.2.2.2.2.1])), (a1, .inl (cI, 10, .inl x.2.2.2.2.2.2.2.2.1)), (a2, .inl (cI, 10, .inl x.2.2.2.2.2.2.2.2.2.1)), (a3, .inl (cI, 10, .inl x.2.2.2.2.2.2.2.2.2.2.1)), (a4, .inl (cI, 10, .inl x.2.2.2.2.2.2.2.2.2.2.2))] := hD
      refine lv_aload_n hx hb dT_logout_25 rfl (lv_at hl 0 rfl) ?_
      refine va_get (D := D) (ci := 0) (v := .ref ak) (C := cnT) (T := ftT) (N := 7) hx hb hts inT hown hK hP 0 rfl rfl 2 (by decide) (hts _ mw84) (fun _ h9 => h9) rfl dT_logout_26 ?_
      refine kcV (isR := [0, 1, 2]) (isC := [3, 4, 5, 6, 7]) (wr := [(ao, .inr (0, [.ref au, .ref af, .ref ak, .int 0, .int x.2.2.2.1, .int x.2.2.2.2.1, .int x.2.2.2.2.2.1])), (au, .inr (1, [.int x.1.1, .int x.1.2])), (af, .inr (1, [.int x.2.1.1, .int x.2.1.2]))]) (w2 := [(ao, .inr (0, [.ref au, .ref af, .ref ak, .int 0, .int x.2.2.2.1, .int x.2.2.2.2.1, .int x.2.2.2.2.2.1])), (au, .inr (1, [.int x.1.1, .int x.1.2])), (af, .inr (1, [.int x.2.1.1, .int x.2.1.2])), (ak, .inr (2, [.ref a1, .ref a2, .ref a3, .ref a4, .int (nI (zk_removePrivate x.2.2.2.2.2.2).1), .int ((zk_removePrivate x.2.2.2.2.2.2).2.1)])), (a1, .inl (cI, 10, .inl ((zk_removePrivate x.2.2.2.2.2.2).2.2.1))), (a2, .inl (cI, 10, .inl ((zk_removePrivate x.2.2.2.2.2.2).2.2.2.1))), (a3, .inl (cI, 10, .inl ((zk_removePrivate x.2.2.2.2.2.2).2.2.2.2.1))), (a4, .inl (cI, 10, .inl ((zk_removePrivate x.2.2.2.2.2.2).2.2.2.2.2)))]) (va_runVN (As := []) (rest := []) ⟨hx, hb, hml, hown, hts⟩ (kk_removePrivate l D cI cZ ak a1 a2 a3 a4 x.2.2.2.2.2.2 (hn) _) ⟨(va_cnB 0 hts gd_yK_removePrivateSessionKeys rfl rfl rfl (hNw _ mw136) (hts _ mw26) (by decide +kernel) ⟨Nat.le_of_ble_eq_true rfl, Nat.le_of_ble_eq_true rfl⟩), hts _ mw138, hts _ mw4⟩ (kpreV hNw hP hD hK [3, 4, 5, 6, 7] rfl (by decide) 3 rfl (ci := 2) rfl) rfl rfl hl.1 rfl (lv_room (Nat.le_of_ble_eq_true rfl)) dT_logout_29 ⟨Nat.le_of_ble_eq_true rfl, Nat.le_of_ble_eq_true rfl⟩) hP hD hS hA [0, 1, 2, 3, 4, 5, 6, 7] rfl rfl (by decide) (by decide) (by decide) rfl (fun H locs hP hD hS => ?_)
      refine lv_iconst (v := 0) hx hb dT_logout_32 (by decide) ?_
      exact kretI (wf := fun st => wX cI ao au af ak a1 a2 a3 a4 st) (st := (x.1, x.2.1, 0, x.2.2.2.1, x.2.2.2.2.1, x.2.2.2.2.2.1, (zk_removePrivate x.2.2.2.2.2.2))) (by first | (rw [zt_logout, if_neg h1, if_neg h2]; done) | exact ((if_neg h1).trans (if_neg h2))) hx hb hr hlk hS hP hD hK dT_logout_33
    ·
      refine lv_bipush (v := (-3)) hx hb dT_logout_17 (by decide) ?_
      exact kretI (wf := fun st => wX cI ao au af ak a1 a2 a3 a4 st) (st := x) (by first | (rw [zt_logout, if_neg h1, if_pos h2]; done) | exact ((if_neg h1).trans (if_pos h2))) hx hb hr hlk hS hP hD hK dT_logout_19
  ·
    refine lv_iconst (v := (-1)) hx hb dT_logout_8 (by decide) ?_
    exact kretI (wf := fun st => wX cI ao au af ak a1 a2 a3 a4 st) (st := x) (by first | (rw [zt_logout, if_pos h1]; done) | exact (if_pos h1)) hx hb hr hlk hS hP hD hK dT_logout_9

def zt_unlock (x : XS) (g1 : Int32) (g2 : Int32) : Int32 × XS := (if (zt_isOpen x g1) = 0 then ((-1), x) else (if x.2.2.1 = 2 then (0, ((zr_renew x.1 g2), x.2.1, x.2.2.1, x.2.2.2.1, x.2.2.2.2.1, x.2.2.2.2.2.1, x.2.2.2.2.2.2)) else ((-3), x)))

set_option maxHeartbeats 4000000 in
set_option maxRecDepth 100000 in
theorem kt_unlock (l : Launch) (D : va_G) (cI cZ : ClassId) (ao au af ak a1 a2 a3 a4 : Nat) (x : XS) (g1 : Int32) (g2 : Int32) (hn : x.2.2.2.2.2.2.1 ≤ 10) : kI l yT_unlock wsT_unlock (rmOf 1 21) D (kT cI cZ) [.ref ao, .int g1, .int g2] (wX cI ao au af ak a1 a2 a3 a4 x) (zt_unlock x g1 g2).1 (wX cI ao au af ak a1 a2 a3 a4 ((zt_unlock x g1 g2).2)) := by
  intro sz
  refine kOf (Qc := fun A => kQi D (kT cI cZ) A (zt_unlock x g1 g2).1 (wX cI ao au af ak a1 a2 a3 a4 ((zt_unlock x g1 g2).2))) (cc := cT_unlock) (maxL := 3) (ret := some .int) (by decide) rfl (Nat.le_of_ble_eq_true rfl) ?_ sz
  intro p e s m args below meth c A ls hx hb hml hown hts hNw hr hlk hin hA hS hP hD hK hl
  show W p l e (rmOf 1 21) s m args below meth c s.heap [] 0 0 (MQ below (kQi D (kT cI cZ) A (zt_unlock x g1 g2).1 (wX cI ao au af ak a1 a2 a3 a4 ((zt_unlock x g1 g2).2))) args s 0 0 A) (F0 m 0 ls [])
  have hts : ∀ q ∈ lw_g, q.before args s = true := fun q h => hts q (List.mem_cons_of_mem _ h)
  have hown : s.vm.findClass cnT = some m.cls := hown
  have hl : lv_has ls 3 [(0, .ref ao), (1, .int g1), (2, .int g2)] := hl
  have hP : va_P D vwCl [(ao, .inr (0, [.ref au, .ref af, .ref ak, .int x.2.2.1, .int x.2.2.2.1, .int x.2.2.2.2.1, .int x.2.2.2.2.2.1])), (au, .inr (1, [.int x.1.1, .int x.1.2])), (af, .inr (1, [.int x.2.1.1, .int x.2.1.2])), (ak, .inr (2, [.ref a1, .ref a2, .ref a3, .ref a4, .int (nI x.2.2.2.2.2.2.1), .int x.2.2.2.2.2.2.2.1])), (a1, .inl (cI, 10, .inl x.2.2.2.2.2.2.2.2.1)), (a2, .inl (cI, 10, .inl x.2.2.2.2.2.2.2.2.2.1)), (a3, .inl (cI, 10, .inl x.2.2.2.2.2.2.2.2.2.2.1)), (a4, .inl (cI, 10, .inl x.2.2.2.2.2.2.2.2.2.2.2))] s.heap := hP
  have hD : va_D A [(ao, .inr (0, [.ref au, .ref af, .ref ak, .int x.2.2.1, .int x.2.2.2.1, .int x.2.2.2.2.1, .int x.2.2.2.2.2.1])), (au, .inr (1, [.int x.1.1, .int x.1.2])), (af, .inr (1, [.int x.2.1.1, .int x.2.1.2])), (ak, .inr (2, [.ref a1, .ref a2, .ref a3, .ref a4, .int (nI x.2.2.2.2.2.2.1), .int x.2.2.2.2.2.2.2.1])), (a1, .inl (cI, 10, .inl x.2.2.2.2.2.2.2.2.1)), (a2, .inl (cI, 10, .inl x.2.2.2.2.2.2.2.2.2.1)), (a3, .inl (cI, 10, .inl x.2.2.2.2.2.2.2.2.2.2.1)), (a4, .inl (cI, 10, .inl x.2.2.2.2.2.2.2.2.2.2.2))] := hD
  refine lv_aload_n hx hb dT_unlock_0 rfl (lv_at hl 0 rfl) ?_
  refine lv_iload_n hx hb dT_unlock_1 rfl (lv_at hl 1 rfl) ?_
  refine kcI (isR := []) (isC := [0, 1, 2, 3, 4, 5, 6, 7]) (wr := []) (w2 := [(ao, .inr (0, [.ref au, .ref af, .ref ak, .int x.2.2.1, .int x.2.2.2.1, .int x.2.2.2.2.1, .int x.2.2.2.2.2.1])), (au, .inr (1, [.int x.1.1, .int x.1.2])), (af, .inr (1, [.int x.2.1.1, .int x.2.1.2])), (ak, .inr (2, [.ref a1, .ref a2, .ref a3, .ref a4, .int (nI x.2.2.2.2.2.2.1), .int x.2.2.2.2.2.2.2.1])), (a1, .inl (cI, 10, .inl x.2.2.2.2.2.2.2.2.1)), (a2, .inl (cI, 10, .inl x.2.2.2.2.2.2.2.2.2.1)), (a3, .inl (cI, 10, .inl x.2.2.2.2.2.2.2.2.2.2.1)), (a4, .inl (cI, 10, .inl x.2.2.2.2.2.2.2.2.2.2.2))]) (va_runV (As := [.int g1]) (rest := []) ⟨hx, hb, hml, hown, hts⟩ (kt_isOpen l D cI cZ ao au af ak a1 a2 a3 a4 x g1 _) ⟨(callB_of 1 hts gd_yT_isOpen rfl rfl rfl (hts _ mw24) (hts _ mw108) (by decide +kernel) ⟨Nat.le_of_ble_eq_true rfl, Nat.le_of_ble_eq_true rfl⟩), hts _ mw110, hts _ mw0⟩ (kpreV hNw hP hD hK [0, 1, 2, 3, 4, 5, 6, 7] rfl (by decide) 0 rfl (ci := 0) rfl) rfl rfl hl.1 rfl (lv_room (Nat.le_of_ble_eq_true rfl)) dT_unlock_2 ⟨Nat.le_of_ble_eq_true rfl, Nat.le_of_ble_eq_true rfl⟩) hP hD hS hA [0, 1, 2, 3, 4, 5, 6, 7] rfl rfl (by decide) (by decide) (by decide) rfl (fun H locs hP hD hS => ?_)
  refine lv_if_ne (tgt := 10) hx hb dT_unlock_5 (by decide) (fun h1 => ?_) (fun h1 => ?_)
  ·
    refine lv_aload_n hx hb dT_unlock_10 rfl (lv_at hl 0 rfl) ?_
    refine va_get (D := D) (ci := 0) (v := .int x.2.2.1) (C := cnT) (T := ftT) (N := 7) hx hb hts inT hown hK hP 0 rfl rfl 3 (by decide) (hts _ mw85) (fun _ h9 => h9) rfl dT_unlock_11 ?_
    refine lv_iconst (v := 2) hx hb dT_unlock_14 (by decide) ?_
    refine lv_icmp_eq (tgt := 21) hx hb dT_unlock_15 (by decide) (fun h2 => ?_) (fun h2 => ?_)
    ·
      refine lv_aload_n hx hb dT_unlock_21 rfl (lv_at hl 0 rfl) ?_
      refine va_get (D := D) (ci := 0) (v := .ref au) (C := cnT) (T := ftT) (N := 7) hx hb hts inT hown hK hP 0 rfl rfl 0 (by decide) (hts _ mw82) (fun _ h9 => h9) rfl dT_unlock_22 ?_
      refine lv_iload_n hx hb dT_unlock_25 rfl (lv_at hl 2 rfl) ?_
      refine kcV (isR := [0, 2, 3, 4, 5, 6, 7]) (isC := [1]) (wr := [(ao, .inr (0, [.ref au, .ref af, .ref ak, .int x.2.2.1, .int x.2.2.2.1, .int x.2.2.2.2.1, .int x.2.2.2.2.2.1])), (af, .inr (1, [.int x.2.1.1, .int x.2.1.2])), (ak, .inr (2, [.ref a1, .ref a2, .ref a3, .ref a4, .int (nI x.2.2.2.2.2.2.1), .int x.2.2.2.2.2.2.2.1])), (a1, .inl (cI, 10, .inl x.2.2.2.2.2.2.2.2.1)), (a2, .inl (cI, 10, .inl x.2.2.2.2.2.2.2.2.2.1)), (a3, .inl (cI, 10, .inl x.2.2.2.2.2.2.2.2.2.2.1)), (a4, .inl (cI, 10, .inl x.2.2.2.2.2.2.2.2.2.2.2))]) (w2 := [(ao, .inr (0, [.ref au, .ref af, .ref ak, .int x.2.2.1, .int x.2.2.2.1, .int x.2.2.2.2.1, .int x.2.2.2.2.2.1])), (au, .inr (1, [.int ((zr_renew x.1 g2).1), .int ((zr_renew x.1 g2).2)])), (af, .inr (1, [.int x.2.1.1, .int x.2.1.2])), (ak, .inr (2, [.ref a1, .ref a2, .ref a3, .ref a4, .int (nI x.2.2.2.2.2.2.1), .int x.2.2.2.2.2.2.2.1])), (a1, .inl (cI, 10, .inl x.2.2.2.2.2.2.2.2.1)), (a2, .inl (cI, 10, .inl x.2.2.2.2.2.2.2.2.2.1)), (a3, .inl (cI, 10, .inl x.2.2.2.2.2.2.2.2.2.2.1)), (a4, .inl (cI, 10, .inl x.2.2.2.2.2.2.2.2.2.2.2))]) (va_runVN (As := [.int g2]) (rest := []) ⟨hx, hb, hml, hown, hts⟩ (kr_renew l D cI cZ au x.1 g2 _) ⟨(va_cnB 1 hts gd_yR_renew rfl rfl rfl (hNw _ mw148) (hts _ mw25) (by decide +kernel) ⟨Nat.le_of_ble_eq_true rfl, Nat.le_of_ble_eq_true rfl⟩), hts _ mw150, hts _ mw6⟩ (kpreV hNw hP hD hK [1] rfl (by decide) 1 rfl (ci := 1) rfl) rfl rfl hl.1 rfl (lv_room (Nat.le_of_ble_eq_true rfl)) dT_unlock_26 ⟨Nat.le_of_ble_eq_true rfl, Nat.le_of_ble_eq_true rfl⟩) hP hD hS hA [0, 7, 1, 2, 3, 4, 5, 6] rfl rfl (by decide) (by decide) (by decide) rfl (fun H locs hP hD hS => ?_)
      refine lv_iconst (v := 0) hx hb dT_unlock_29 (by decide) ?_
      exact kretI (wf := fun st => wX cI ao au af ak a1 a2 a3 a4 st) (st := ((zr_renew x.1 g2), x.2.1, x.2.2.1, x.2.2.2.1, x.2.2.2.2.1, x.2.2.2.2.2.1, x.2.2.2.2.2.2)) (by first | (rw [zt_unlock, if_neg h1, if_pos h2]; done) | exact ((if_neg h1).trans (if_pos h2))) hx hb hr hlk hS hP hD hK dT_unlock_30
    ·
      refine lv_bipush (v := (-3)) hx hb dT_unlock_18 (by decide) ?_
      exact kretI (wf := fun st => wX cI ao au af ak a1 a2 a3 a4 st) (st := x) (by first | (rw [zt_unlock, if_neg h1, if_neg h2]; done) | exact ((if_neg h1).trans (if_neg h2))) hx hb hr hlk hS hP hD hK dT_unlock_20
  ·
    refine lv_iconst (v := (-1)) hx hb dT_unlock_8 (by decide) ?_
    exact kretI (wf := fun st => wX cI ao au af ak a1 a2 a3 a4 st) (st := x) (by first | (rw [zt_unlock, if_pos h1]; done) | exact (if_pos h1)) hx hb hr hlk hS hP hD hK dT_unlock_9

def zt_create (x : XS) (g1 : Int32) (g2 : Int32) (g3 : Int32) : Int32 × XS := (if (zt_refusal x g1 g2 1) = 0 then ((zk_add x.2.2.2.2.2.2 g2 g3 g1).1, (x.1, x.2.1, x.2.2.1, x.2.2.2.1, x.2.2.2.2.1, x.2.2.2.2.2.1, (zk_add x.2.2.2.2.2.2 g2 g3 g1).2)) else ((zt_refusal x g1 g2 1), x))

set_option maxHeartbeats 4000000 in
set_option maxRecDepth 100000 in
theorem kt_create (l : Launch) (D : va_G) (cI cZ : ClassId) (ao au af ak a1 a2 a3 a4 : Nat) (x : XS) (g1 : Int32) (g2 : Int32) (g3 : Int32) (hn : x.2.2.2.2.2.2.1 ≤ 10) : kI l yT_create wsT_create (rmOf 3 65) D (kT cI cZ) [.ref ao, .int g1, .int g2, .int g3] (wX cI ao au af ak a1 a2 a3 a4 x) (zt_create x g1 g2 g3).1 (wX cI ao au af ak a1 a2 a3 a4 ((zt_create x g1 g2 g3).2)) := by
  intro sz
  refine kOf (Qc := fun A => kQi D (kT cI cZ) A (zt_create x g1 g2 g3).1 (wX cI ao au af ak a1 a2 a3 a4 ((zt_create x g1 g2 g3).2))) (cc := cT_create) (maxL := 5) (ret := some .int) (by decide) rfl (Nat.le_of_ble_eq_true rfl) ?_ sz
  intro p e s m args below meth c A ls hx hb hml hown hts hNw hr hlk hin hA hS hP hD hK hl
  show W p l e (rmOf 3 65) s m args below meth c s.heap [] 0 0 (MQ below (kQi D (kT cI cZ) A (zt_create x g1 g2 g3).1 (wX cI ao au af ak a1 a2 a3 a4 ((zt_create x g1 g2 g3).2))) args s 0 0 A) (F0 m 0 ls [])
  have hts : ∀ q ∈ lw_g, q.before args s = true := fun q h => hts q (List.mem_cons_of_mem _ h)
  have hown : s.vm.findClass cnT = some m.cls := hown
  have hl : lv_has ls 5 [(0, .ref ao), (1, .int g1), (2, .int g2), (3, .int g3)] := hl
  have hP : va_P D vwCl [(ao, .inr (0, [.ref au, .ref af, .ref ak, .int x.2.2.1, .int x.2.2.2.1, .int x.2.2.2.2.1, .int x.2.2.2.2.2.1])), (au, .inr (1, [.int x.1.1, .int x.1.2])), (af, .inr (1, [.int x.2.1.1, .int x.2.1.2])), (ak, .inr (2, [.ref a1, .ref a2, .ref a3, .ref a4, .int (nI x.2.2.2.2.2.2.1), .int x.2.2.2.2.2.2.2.1])), (a1, .inl (cI, 10, .inl x.2.2.2.2.2.2.2.2.1)), (a2, .inl (cI, 10, .inl x.2.2.2.2.2.2.2.2.2.1)), (a3, .inl (cI, 10, .inl x.2.2.2.2.2.2.2.2.2.2.1)), (a4, .inl (cI, 10, .inl x.2.2.2.2.2.2.2.2.2.2.2))] s.heap := hP
  have hD : va_D A [(ao, .inr (0, [.ref au, .ref af, .ref ak, .int x.2.2.1, .int x.2.2.2.1, .int x.2.2.2.2.1, .int x.2.2.2.2.2.1])), (au, .inr (1, [.int x.1.1, .int x.1.2])), (af, .inr (1, [.int x.2.1.1, .int x.2.1.2])), (ak, .inr (2, [.ref a1, .ref a2, .ref a3, .ref a4, .int (nI x.2.2.2.2.2.2.1), .int x.2.2.2.2.2.2.2.1])), (a1, .inl (cI, 10, .inl x.2.2.2.2.2.2.2.2.1)), (a2, .inl (cI, 10, .inl x.2.2.2.2.2.2.2.2.2.1)), (a3, .inl (cI, 10, .inl x.2.2.2.2.2.2.2.2.2.2.1)), (a4, .inl (cI, 10, .inl x.2.2.2.2.2.2.2.2.2.2.2))] := hD
  refine lv_aload_n hx hb dT_create_0 rfl (lv_at hl 0 rfl) ?_
  refine lv_iload_n hx hb dT_create_1 rfl (lv_at hl 1 rfl) ?_
  refine lv_iload_n hx hb dT_create_2 rfl (lv_at hl 2 rfl) ?_
  refine lv_iconst (v := 1) hx hb dT_create_3 (by decide) ?_
  refine kcI (isR := []) (isC := [0, 1, 2, 3, 4, 5, 6, 7]) (wr := []) (w2 := [(ao, .inr (0, [.ref au, .ref af, .ref ak, .int x.2.2.1, .int x.2.2.2.1, .int x.2.2.2.2.1, .int x.2.2.2.2.2.1])), (au, .inr (1, [.int x.1.1, .int x.1.2])), (af, .inr (1, [.int x.2.1.1, .int x.2.1.2])), (ak, .inr (2, [.ref a1, .ref a2, .ref a3, .ref a4, .int (nI x.2.2.2.2.2.2.1), .int x.2.2.2.2.2.2.2.1])), (a1, .inl (cI, 10, .inl x.2.2.2.2.2.2.2.2.1)), (a2, .inl (cI, 10, .inl x.2.2.2.2.2.2.2.2.2.1)), (a3, .inl (cI, 10, .inl x.2.2.2.2.2.2.2.2.2.2.1)), (a4, .inl (cI, 10, .inl x.2.2.2.2.2.2.2.2.2.2.2))]) (va_runV (As := [.int g1, .int g2, .int 1]) (rest := []) ⟨hx, hb, hml, hown, hts⟩ (kt_refusal l D cI cZ ao au af ak a1 a2 a3 a4 x g1 g2 1 (hn) _) ⟨(callB_of 3 hts gd_yT_refusalToMake rfl rfl rfl (hts _ mw24) (hts _ mw156) (by decide +kernel) ⟨Nat.le_of_ble_eq_true rfl, Nat.le_of_ble_eq_true rfl⟩), hts _ mw158, hts _ mw7⟩ (kpreV hNw hP hD hK [0, 1, 2, 3, 4, 5, 6, 7] rfl (by decide) 0 rfl (ci := 0) rfl) rfl rfl hl.1 rfl (lv_room (Nat.le_of_ble_eq_true rfl)) dT_create_4 ⟨Nat.le_of_ble_eq_true rfl, Nat.le_of_ble_eq_true rfl⟩) hP hD hS hA [0, 1, 2, 3, 4, 5, 6, 7] rfl rfl (by decide) (by decide) (by decide) rfl (fun H locs hP hD hS => ?_)
  refine lv_istore hx hb dT_create_7 hl (by decide) rfl (fun ls hl => ?_)
  have hl : lv_has ls 5 [(4, .int (zt_refusal x g1 g2 1)), (0, .ref ao), (1, .int g1), (2, .int g2), (3, .int g3)] := hl
  refine lv_iload hx hb dT_create_9 (lv_at hl 0 rfl) ?_
  refine lv_if_eq (tgt := 17) hx hb dT_create_11 (by decide) (fun h1 => ?_) (fun h1 => ?_)
  ·
    refine lv_aload_n hx hb dT_create_17 rfl (lv_at hl 1 rfl) ?_
    refine va_get (D := D) (ci := 0) (v := .ref ak) (C := cnT) (T := ftT) (N := 7) hx hb hts inT hown hK hP 0 rfl rfl 2 (by decide) (hts _ mw84) (fun _ h9 => h9) rfl dT_create_18 ?_
    refine lv_iload_n hx hb dT_create_21 rfl (lv_at hl 3 rfl) ?_
    refine lv_iload_n hx hb dT_create_22 rfl (lv_at hl 4 rfl) ?_
    refine lv_iload_n hx hb dT_create_23 rfl (lv_at hl 2 rfl) ?_
    refine kcI (isR := [0, 1, 2]) (isC := [3, 4, 5, 6, 7]) (wr := [(ao, .inr (0, [.ref au, .ref af, .ref ak, .int x.2.2.1, .int x.2.2.2.1, .int x.2.2.2.2.1, .int x.2.2.2.2.2.1])), (au, .inr (1, [.int x.1.1, .int x.1.2])), (af, .inr (1, [.int x.2.1.1, .int x.2.1.2]))]) (w2 := [(ao, .inr (0, [.ref au, .ref af, .ref ak, .int x.2.2.1, .int x.2.2.2.1, .int x.2.2.2.2.1, .int x.2.2.2.2.2.1])), (au, .inr (1, [.int x.1.1, .int x.1.2])), (af, .inr (1, [.int x.2.1.1, .int x.2.1.2])), (ak, .inr (2, [.ref a1, .ref a2, .ref a3, .ref a4, .int (nI (zk_add x.2.2.2.2.2.2 g2 g3 g1).2.1), .int ((zk_add x.2.2.2.2.2.2 g2 g3 g1).2.2.1)])), (a1, .inl (cI, 10, .inl ((zk_add x.2.2.2.2.2.2 g2 g3 g1).2.2.2.1))), (a2, .inl (cI, 10, .inl ((zk_add x.2.2.2.2.2.2 g2 g3 g1).2.2.2.2.1))), (a3, .inl (cI, 10, .inl ((zk_add x.2.2.2.2.2.2 g2 g3 g1).2.2.2.2.2.1))), (a4, .inl (cI, 10, .inl ((zk_add x.2.2.2.2.2.2 g2 g3 g1).2.2.2.2.2.2)))]) (va_runVN (As := [.int g2, .int g3, .int g1]) (rest := []) ⟨hx, hb, hml, hown, hts⟩ (kk_add l D cI cZ ak a1 a2 a3 a4 x.2.2.2.2.2.2 g2 g3 g1 (hn) _) ⟨(va_cnB 3 hts gd_yK_add rfl rfl rfl (hNw _ mw170) (hts _ mw26) (by decide +kernel) ⟨Nat.le_of_ble_eq_true rfl, Nat.le_of_ble_eq_true rfl⟩), hts _ mw172, hts _ mw9⟩ (kpreV hNw hP hD hK [3, 4, 5, 6, 7] rfl (by decide) 3 rfl (ci := 2) rfl) rfl rfl hl.1 rfl (lv_room (Nat.le_of_ble_eq_true rfl)) dT_create_24 ⟨Nat.le_of_ble_eq_true rfl, Nat.le_of_ble_eq_true rfl⟩) hP hD hS hA [0, 1, 2, 3, 4, 5, 6, 7] rfl rfl (by decide) (by decide) (by decide) rfl (fun H locs hP hD hS => ?_)
    exact kretI (wf := fun st => wX cI ao au af ak a1 a2 a3 a4 st) (st := (x.1, x.2.1, x.2.2.1, x.2.2.2.1, x.2.2.2.2.1, x.2.2.2.2.2.1, (zk_add x.2.2.2.2.2.2 g2 g3 g1).2)) (by first | (rw [zt_create, if_pos h1]; done) | exact (if_pos h1)) hx hb hr hlk hS hP hD hK dT_create_27
  ·
    refine lv_iload hx hb dT_create_14 (lv_at hl 0 rfl) ?_
    exact kretI (wf := fun st => wX cI ao au af ak a1 a2 a3 a4 st) (st := x) (by first | (rw [zt_create, if_neg h1]; done) | exact (if_neg h1)) hx hb hr hlk hS hP hD hK dT_create_16

def zt_generate (x : XS) (g1 : Int32) (g2 : Int32) : Int32 × XS := (if (zt_refusal x g1 g2 1) = 0 then ((zk_add x.2.2.2.2.2.2 (g2 ||| (zt_originOf g2)) (zw_mac x.2.2.2.1 1234567) g1).1, (x.1, x.2.1, x.2.2.1, (x.2.2.2.1 + 1), x.2.2.2.2.1, x.2.2.2.2.2.1, (zk_add x.2.2.2.2.2.2 (g2 ||| (zt_originOf g2)) (zw_mac x.2.2.2.1 1234567) g1).2)) else ((zt_refusal x g1 g2 1), x))

set_option maxHeartbeats 4000000 in
set_option maxRecDepth 100000 in
theorem kt_generate (l : Launch) (D : va_G) (cI cZ : ClassId) (ao au af ak a1 a2 a3 a4 : Nat) (x : XS) (g1 : Int32) (g2 : Int32) (hn : x.2.2.2.2.2.2.1 ≤ 10) : kI l yT_generate wsT_generate (rmOf 3 65) D (kT cI cZ) [.ref ao, .int g1, .int g2] (wX cI ao au af ak a1 a2 a3 a4 x) (zt_generate x g1 g2).1 (wX cI ao au af ak a1 a2 a3 a4 ((zt_generate x g1 g2).2)) := by
  intro sz
  refine kOf (Qc := fun A => kQi D (kT cI cZ) A (zt_generate x g1 g2).1 (wX cI ao au af ak a1 a2 a3 a4 ((zt_generate x g1 g2).2))) (cc := cT_generate) (maxL := 5) (ret := some .int) (by decide) rfl (Nat.le_of_ble_eq_true rfl) ?_ sz
  intro p e s m args below meth c A ls hx hb hml hown hts hNw hr hlk hin hA hS hP hD hK hl
  show W p l e (rmOf 3 65) s m args below meth c s.heap [] 0 0 (MQ below (kQi D (kT cI cZ) A (zt_generate x g1 g2).1 (wX cI ao au af ak a1 a2 a3 a4 ((zt_generate x g1 g2).2))) args s 0 0 A) (F0 m 0 ls [])
  have hts : ∀ q ∈ lw_g, q.before args s = true := fun q h => hts q (List.mem_cons_of_mem _ h)
  have hown : s.vm.findClass cnT = some m.cls := hown
  have hl : lv_has ls 5 [(0, .ref ao), (1, .int g1), (2, .int g2)] := hl
  have hP : va_P D vwCl [(ao, .inr (0, [.ref au, .ref af, .ref ak, .int x.2.2.1, .int x.2.2.2.1, .int x.2.2.2.2.1, .int x.2.2.2.2.2.1])), (au, .inr (1, [.int x.1.1, .int x.1.2])), (af, .inr (1, [.int x.2.1.1, .int x.2.1.2])), (ak, .inr (2, [.ref a1, .ref a2, .ref a3, .ref a4, .int (nI x.2.2.2.2.2.2.1), .int x.2.2.2.2.2.2.2.1])), (a1, .inl (cI, 10, .inl x.2.2.2.2.2.2.2.2.1)), (a2, .inl (cI, 10, .inl x.2.2.2.2.2.2.2.2.2.1)), (a3, .inl (cI, 10, .inl x.2.2.2.2.2.2.2.2.2.2.1)), (a4, .inl (cI, 10, .inl x.2.2.2.2.2.2.2.2.2.2.2))] s.heap := hP
  have hD : va_D A [(ao, .inr (0, [.ref au, .ref af, .ref ak, .int x.2.2.1, .int x.2.2.2.1, .int x.2.2.2.2.1, .int x.2.2.2.2.2.1])), (au, .inr (1, [.int x.1.1, .int x.1.2])), (af, .inr (1, [.int x.2.1.1, .int x.2.1.2])), (ak, .inr (2, [.ref a1, .ref a2, .ref a3, .ref a4, .int (nI x.2.2.2.2.2.2.1), .int x.2.2.2.2.2.2.2.1])), (a1, .inl (cI, 10, .inl x.2.2.2.2.2.2.2.2.1)), (a2, .inl (cI, 10, .inl x.2.2.2.2.2.2.2.2.2.1)), (a3, .inl (cI, 10, .inl x.2.2.2.2.2.2.2.2.2.2.1)), (a4, .inl (cI, 10, .inl x.2.2.2.2.2.2.2.2.2.2.2))] := hD
  refine lv_aload_n hx hb dT_generate_0 rfl (lv_at hl 0 rfl) ?_
  refine lv_iload_n hx hb dT_generate_1 rfl (lv_at hl 1 rfl) ?_
  refine lv_iload_n hx hb dT_generate_2 rfl (lv_at hl 2 rfl) ?_
  refine lv_iconst (v := 1) hx hb dT_generate_3 (by decide) ?_
  refine kcI (isR := []) (isC := [0, 1, 2, 3, 4, 5, 6, 7]) (wr := []) (w2 := [(ao, .inr (0, [.ref au, .ref af, .ref ak, .int x.2.2.1, .int x.2.2.2.1, .int x.2.2.2.2.1, .int x.2.2.2.2.2.1])), (au, .inr (1, [.int x.1.1, .int x.1.2])), (af, .inr (1, [.int x.2.1.1, .int x.2.1.2])), (ak, .inr (2, [.ref a1, .ref a2, .ref a3, .ref a4, .int (nI x.2.2.2.2.2.2.1), .int x.2.2.2.2.2.2.2.1])), (a1, .inl (cI, 10, .inl x.2.2.2.2.2.2.2.2.1)), (a2, .inl (cI, 10, .inl x.2.2.2.2.2.2.2.2.2.1)), (a3, .inl (cI, 10, .inl x.2.2.2.2.2.2.2.2.2.2.1)), (a4, .inl (cI, 10, .inl x.2.2.2.2.2.2.2.2.2.2.2))]) (va_runV (As := [.int g1, .int g2, .int 1]) (rest := []) ⟨hx, hb, hml, hown, hts⟩ (kt_refusal l D cI cZ ao au af ak a1 a2 a3 a4 x g1 g2 1 (hn) _) ⟨(callB_of 3 hts gd_yT_refusalToMake rfl rfl rfl (hts _ mw24) (hts _ mw156) (by decide +kernel) ⟨Nat.le_of_ble_eq_true rfl, Nat.le_of_ble_eq_true rfl⟩), hts _ mw158, hts _ mw7⟩ (kpreV hNw hP hD hK [0, 1, 2, 3, 4, 5, 6, 7] rfl (by decide) 0 rfl (ci := 0) rfl) rfl rfl hl.1 rfl (lv_room (Nat.le_of_ble_eq_true rfl)) dT_generate_4 ⟨Nat.le_of_ble_eq_true rfl, Nat.le_of_ble_eq_true rfl⟩) hP hD hS hA [0, 1, 2, 3, 4, 5, 6, 7] rfl rfl (by decide) (by decide) (by decide) rfl (fun H locs hP hD hS => ?_)
  refine lv_istore_n hx hb dT_generate_7 rfl hl (by decide) rfl (fun ls hl => ?_)
  have hl : lv_has ls 5 [(3, .int (zt_refusal x g1 g2 1)), (0, .ref ao), (1, .int g1), (2, .int g2)] := hl
  refine lv_iload_n hx hb dT_generate_8 rfl (lv_at hl 0 rfl) ?_
  refine lv_if_eq (tgt := 14) hx hb dT_generate_9 (by decide) (fun h1 => ?_) (fun h1 => ?_)
  ·
    refine lv_aload_n hx hb dT_generate_14 rfl (lv_at hl 1 rfl) ?_
    refine va_get (D := D) (ci := 0) (v := .int x.2.2.2.1) (C := cnT) (T := ftT) (N := 7) hx hb hts inT hown hK hP 0 rfl rfl 4 (by decide) (hts _ mw86) (fun _ h9 => h9) rfl dT_generate_15 ?_
    refine lv_ldc (v := 1234567) hx hb hown (hts _ mw178) dT_generate_18 ?_
    refine kcI (isR := [0, 1, 2, 3, 4, 5, 6, 7]) (isC := []) (wr := [(ao, .inr (0, [.ref au, .ref af, .ref ak, .int x.2.2.1, .int x.2.2.2.1, .int x.2.2.2.2.1, .int x.2.2.2.2.2.1])), (au, .inr (1, [.int x.1.1, .int x.1.2])), (af, .inr (1, [.int x.2.1.1, .int x.2.1.2])), (ak, .inr (2, [.ref a1, .ref a2, .ref a3, .ref a4, .int (nI x.2.2.2.2.2.2.1), .int x.2.2.2.2.2.2.2.1])), (a1, .inl (cI, 10, .inl x.2.2.2.2.2.2.2.2.1)), (a2, .inl (cI, 10, .inl x.2.2.2.2.2.2.2.2.2.1)), (a3, .inl (cI, 10, .inl x.2.2.2.2.2.2.2.2.2.2.1)), (a4, .inl (cI, 10, .inl x.2.2.2.2.2.2.2.2.2.2.2))]) (w2 := [(ao, .inr (0, [.ref au, .ref af, .ref ak, .int x.2.2.1, .int x.2.2.2.1, .int x.2.2.2.2.1, .int x.2.2.2.2.2.1])), (au, .inr (1, [.int x.1.1, .int x.1.2])), (af, .inr (1, [.int x.2.1.1, .int x.2.1.2])), (ak, .inr (2, [.ref a1, .ref a2, .ref a3, .ref a4, .int (nI x.2.2.2.2.2.2.1), .int x.2.2.2.2.2.2.2.1])), (a1, .inl (cI, 10, .inl x.2.2.2.2.2.2.2.2.1)), (a2, .inl (cI, 10, .inl x.2.2.2.2.2.2.2.2.2.1)), (a3, .inl (cI, 10, .inl x.2.2.2.2.2.2.2.2.2.2.1)), (a4, .inl (cI, 10, .inl x.2.2.2.2.2.2.2.2.2.2.2))]) (va_runSN (As := [.int x.2.2.2.1, .int 1234567]) (rest := []) ⟨hx, hb, hml, hown, hts⟩ (kw_mac l D cI cZ x.2.2.2.1 1234567 _) ⟨(va_cnB 2 hts gd_yW_mac rfl rfl rfl (hNw _ mw179) (hts _ mw28) (by decide +kernel) ⟨Nat.le_of_ble_eq_true rfl, Nat.le_of_ble_eq_true rfl⟩), hts _ mw180, trivial⟩ (kpreS hNw hP hD hK [] rfl (by decide)) rfl rfl hl.1 rfl (lv_room (Nat.le_of_ble_eq_true rfl)) dT_generate_20 ⟨Nat.le_of_ble_eq_true rfl, Nat.le_of_ble_eq_true rfl⟩) hP hD hS hA [0, 1, 2, 3, 4, 5, 6, 7] rfl rfl (by decide) (by decide) (by decide) rfl (fun H locs hP hD hS => ?_)
    refine lv_istore hx hb dT_generate_23 hl (by decide) rfl (fun ls hl => ?_)
    have hl : lv_has ls 5 [(4, .int (zw_mac x.2.2.2.1 1234567)), (3, .int (zt_refusal x g1 g2 1)), (0, .ref ao), (1, .int g1), (2, .int g2)] := hl
    refine lv_aload_n hx hb dT_generate_25 rfl (lv_at hl 2 rfl) ?_
    refine lv_dup hx hb dT_generate_26 rfl ?_
    refine va_get (D := D) (ci := 0) (v := .int x.2.2.2.1) (C := cnT) (T := ftT) (N := 7) hx hb hts inT hown hK hP 0 rfl rfl 4 (by decide) (hts _ mw86) (fun _ h9 => h9) rfl dT_generate_27 ?_
    refine lv_iconst (v := 1) hx hb dT_generate_30 (by decide) ?_
    refine lv_iadd hx hb dT_generate_31 ?_
    refine va_put (D := D) (ci := 0) (v := .int (x.2.2.2.1 + 1)) (ty := (.int)) (C := cnT) (T := ftT) (N := 7) hx hb hts inT tyT tyT_ok nmT hown hK hP hD hS 0 rfl rfl 4 (by decide) (hts _ mw86) (fun _ h9 => h9) rfl (by decide +kernel) rfl rfl (Nat.le_of_ble_eq_true rfl) dT_generate_32 (fun H locs hP hD hS => ?_)
    have hP : va_P D vwCl [(ao, .inr (0, [.ref au, .ref af, .ref ak, .int x.2.2.1, .int (x.2.2.2.1 + 1), .int x.2.2.2.2.1, .int x.2.2.2.2.2.1])), (au, .inr (1, [.int x.1.1, .int x.1.2])), (af, .inr (1, [.int x.2.1.1, .int x.2.1.2])), (ak, .inr (2, [.ref a1, .ref a2, .ref a3, .ref a4, .int (nI x.2.2.2.2.2.2.1), .int x.2.2.2.2.2.2.2.1])), (a1, .inl (cI, 10, .inl x.2.2.2.2.2.2.2.2.1)), (a2, .inl (cI, 10, .inl x.2.2.2.2.2.2.2.2.2.1)), (a3, .inl (cI, 10, .inl x.2.2.2.2.2.2.2.2.2.2.1)), (a4, .inl (cI, 10, .inl x.2.2.2.2.2.2.2.2.2.2.2))] H := hP
    have hD : va_D A [(ao, .inr (0, [.ref au, .ref af, .ref ak, .int x.2.2.1, .int (x.2.2.2.1 + 1), .int x.2.2.2.2.1, .int x.2.2.2.2.2.1])), (au, .inr (1, [.int x.1.1, .int x.1.2])), (af, .inr (1, [.int x.2.1.1, .int x.2.1.2])), (ak, .inr (2, [.ref a1, .ref a2, .ref a3, .ref a4, .int (nI x.2.2.2.2.2.2.1), .int x.2.2.2.2.2.2.2.1])), (a1, .inl (cI, 10, .inl x.2.2.2.2.2.2.2.2.1)), (a2, .inl (cI, 10, .inl x.2.2.2.2.2.2.2.2.2.1)), (a3, .inl (cI, 10, .inl x.2.2.2.2.2.2.2.2.2.2.1)), (a4, .inl (cI, 10, .inl x.2.2.2.2.2.2.2.2.2.2.2))] := hD
    refine lv_aload_n hx hb dT_generate_35 rfl (lv_at hl 2 rfl) ?_
    refine va_get (D := D) (ci := 0) (v := .ref ak) (C := cnT) (T := ftT) (N := 7) hx hb hts inT hown hK hP 0 rfl rfl 2 (by decide) (hts _ mw84) (fun _ h9 => h9) rfl dT_generate_36 ?_
    refine lv_iload_n hx hb dT_generate_39 rfl (lv_at hl 4 rfl) ?_
    refine lv_iload_n hx hb dT_generate_40 rfl (lv_at hl 4 rfl) ?_
    refine kcI (isR := [0, 1, 2, 3, 4, 5, 6, 7]) (isC := []) (wr := [(ao, .inr (0, [.ref au, .ref af, .ref ak, .int x.2.2.1, .int (x.2.2.2.1 + 1), .int x.2.2.2.2.1, .int x.2.2.2.2.2.1])), (au, .inr (1, [.int x.1.1, .int x.1.2])), (af, .inr (1, [.int x.2.1.1, .int x.2.1.2])), (ak, .inr (2, [.ref a1, .ref a2, .ref a3, .ref a4, .int (nI x.2.2.2.2.2.2.1), .int x.2.2.2.2.2.2.2.1])), (a1, .inl (cI, 10, .inl x.2.2.2.2.2.2.2.2.1)), (a2, .inl (cI, 10, .inl x.2.2.2.2.2.2.2.2.2.1)), (a3, .inl (cI, 10, .inl x.2.2.2.2.2.2.2.2.2.2.1)), (a4, .inl (cI, 10, .inl x.2.2.2.2.2.2.2.2.2.2.2))]) (w2 := [(ao, .inr (0, [.ref au, .ref af, .ref ak, .int x.2.2.1, .int (x.2.2.2.1 + 1), .int x.2.2.2.2.1, .int x.2.2.2.2.2.1])), (au, .inr (1, [.int x.1.1, .int x.1.2])), (af, .inr (1, [.int x.2.1.1, .int x.2.1.2])), (ak, .inr (2, [.ref a1, .ref a2, .ref a3, .ref a4, .int (nI x.2.2.2.2.2.2.1), .int x.2.2.2.2.2.2.2.1])), (a1, .inl (cI, 10, .inl x.2.2.2.2.2.2.2.2.1)), (a2, .inl (cI, 10, .inl x.2.2.2.2.2.2.2.2.2.1)), (a3, .inl (cI, 10, .inl x.2.2.2.2.2.2.2.2.2.2.1)), (a4, .inl (cI, 10, .inl x.2.2.2.2.2.2.2.2.2.2.2))]) (va_runS (As := [.int g2]) (rest := [.int g2, .ref ak]) ⟨hx, hb, hml, hown, hts⟩ (kt_originOf l D cI cZ g2 _) ⟨(callB_of 1 hts gd_yT_originOf rfl rfl rfl (hts _ mw24) (hts _ mw186) (by decide +kernel) ⟨Nat.le_of_ble_eq_true rfl, Nat.le_of_ble_eq_true rfl⟩), hts _ mw187⟩ (kpreS hNw hP hD hK [] rfl (by decide)) rfl rfl hl.1 rfl (lv_room (Nat.le_of_ble_eq_true rfl)) dT_generate_41 ⟨Nat.le_of_ble_eq_true rfl, Nat.le_of_ble_eq_true rfl⟩) hP hD hS hA [0, 1, 2, 3, 4, 5, 6, 7] rfl rfl (by decide) (by decide) (by decide) rfl (fun H locs hP hD hS => ?_)
    refine lv_ior hx hb dT_generate_44 ?_
    refine lv_iload hx hb dT_generate_45 (lv_at hl 0 rfl) ?_
    refine lv_iload_n hx hb dT_generate_47 rfl (lv_at hl 3 rfl) ?_
    refine kcI (isR := [0, 1, 2]) (isC := [3, 4, 5, 6, 7]) (wr := [(ao, .inr (0, [.ref au, .ref af, .ref ak, .int x.2.2.1, .int (x.2.2.2.1 + 1), .int x.2.2.2.2.1, .int x.2.2.2.2.2.1])), (au, .inr (1, [.int x.1.1, .int x.1.2])), (af, .inr (1, [.int x.2.1.1, .int x.2.1.2]))]) (w2 := [(ao, .inr (0, [.ref au, .ref af, .ref ak, .int x.2.2.1, .int (x.2.2.2.1 + 1), .int x.2.2.2.2.1, .int x.2.2.2.2.2.1])), (au, .inr (1, [.int x.1.1, .int x.1.2])), (af, .inr (1, [.int x.2.1.1, .int x.2.1.2])), (ak, .inr (2, [.ref a1, .ref a2, .ref a3, .ref a4, .int (nI (zk_add x.2.2.2.2.2.2 (g2 ||| (zt_originOf g2)) (zw_mac x.2.2.2.1 1234567) g1).2.1), .int ((zk_add x.2.2.2.2.2.2 (g2 ||| (zt_originOf g2)) (zw_mac x.2.2.2.1 1234567) g1).2.2.1)])), (a1, .inl (cI, 10, .inl ((zk_add x.2.2.2.2.2.2 (g2 ||| (zt_originOf g2)) (zw_mac x.2.2.2.1 1234567) g1).2.2.2.1))), (a2, .inl (cI, 10, .inl ((zk_add x.2.2.2.2.2.2 (g2 ||| (zt_originOf g2)) (zw_mac x.2.2.2.1 1234567) g1).2.2.2.2.1))), (a3, .inl (cI, 10, .inl ((zk_add x.2.2.2.2.2.2 (g2 ||| (zt_originOf g2)) (zw_mac x.2.2.2.1 1234567) g1).2.2.2.2.2.1))), (a4, .inl (cI, 10, .inl ((zk_add x.2.2.2.2.2.2 (g2 ||| (zt_originOf g2)) (zw_mac x.2.2.2.1 1234567) g1).2.2.2.2.2.2)))]) (va_runVN (As := [.int (g2 ||| (zt_originOf g2)), .int (zw_mac x.2.2.2.1 1234567), .int g1]) (rest := []) ⟨hx, hb, hml, hown, hts⟩ (kk_add l D cI cZ ak a1 a2 a3 a4 x.2.2.2.2.2.2 (g2 ||| (zt_originOf g2)) (zw_mac x.2.2.2.1 1234567) g1 (hn) _) ⟨(va_cnB 3 hts gd_yK_add rfl rfl rfl (hNw _ mw170) (hts _ mw26) (by decide +kernel) ⟨Nat.le_of_ble_eq_true rfl, Nat.le_of_ble_eq_true rfl⟩), hts _ mw172, hts _ mw9⟩ (kpreV hNw hP hD hK [3, 4, 5, 6, 7] rfl (by decide) 3 rfl (ci := 2) rfl) rfl rfl hl.1 rfl (lv_room (Nat.le_of_ble_eq_true rfl)) dT_generate_48 ⟨Nat.le_of_ble_eq_true rfl, Nat.le_of_ble_eq_true rfl⟩) hP hD hS hA [0, 1, 2, 3, 4, 5, 6, 7] rfl rfl (by decide) (by decide) (by decide) rfl (fun H locs hP hD hS => ?_)
    exact kretI (wf := fun st => wX cI ao au af ak a1 a2 a3 a4 st) (st := (x.1, x.2.1, x.2.2.1, (x.2.2.2.1 + 1), x.2.2.2.2.1, x.2.2.2.2.2.1, (zk_add x.2.2.2.2.2.2 (g2 ||| (zt_originOf g2)) (zw_mac x.2.2.2.1 1234567) g1).2)) (by first | (rw [zt_generate, if_pos h1]; done) | exact (if_pos h1)) hx hb hr hlk hS hP hD hK dT_generate_51
  ·
    refine lv_iload_n hx hb dT_generate_12 rfl (lv_at hl 0 rfl) ?_
    exact kretI (wf := fun st => wX cI ao au af ak a1 a2 a3 a4 st) (st := x) (by first | (rw [zt_generate, if_neg h1]; done) | exact (if_neg h1)) hx hb hr hlk hS hP hD hK dT_generate_13

def zt_destroy (x : XS) (g1 : Int32) (g2 : Int32) : Int32 × XS := (if 0 ≤ (zt_row x g1 g2) then (if (zt_isFixedFor x g1 (zt_row x g1 g2)) = 0 then (0, (x.1, x.2.1, x.2.2.1, x.2.2.2.1, x.2.2.2.2.1, x.2.2.2.2.2.1, (zk_removeRow x.2.2.2.2.2.2 (Int32.toNatClampNeg (zt_row x g1 g2))))) else ((-4), x)) else ((zt_row x g1 g2), x))

set_option maxHeartbeats 4000000 in
set_option maxRecDepth 100000 in
theorem kt_destroy (l : Launch) (D : va_G) (cI cZ : ClassId) (ao au af ak a1 a2 a3 a4 : Nat) (x : XS) (g1 : Int32) (g2 : Int32) (hn : x.2.2.2.2.2.2.1 ≤ 10) : kI l yT_destroy wsT_destroy (rmOf 3 66) D (kT cI cZ) [.ref ao, .int g1, .int g2] (wX cI ao au af ak a1 a2 a3 a4 x) (zt_destroy x g1 g2).1 (wX cI ao au af ak a1 a2 a3 a4 ((zt_destroy x g1 g2).2)) := by
  intro sz
  refine kOf (Qc := fun A => kQi D (kT cI cZ) A (zt_destroy x g1 g2).1 (wX cI ao au af ak a1 a2 a3 a4 ((zt_destroy x g1 g2).2))) (cc := cT_destroy) (maxL := 4) (ret := some .int) (by decide) rfl (Nat.le_of_ble_eq_true rfl) ?_ sz
  intro p e s m args below meth c A ls hx hb hml hown hts hNw hr hlk hin hA hS hP hD hK hl
  show W p l e (rmOf 3 66) s m args below meth c s.heap [] 0 0 (MQ below (kQi D (kT cI cZ) A (zt_destroy x g1 g2).1 (wX cI ao au af ak a1 a2 a3 a4 ((zt_destroy x g1 g2).2))) args s 0 0 A) (F0 m 0 ls [])
  have hts : ∀ q ∈ lw_g, q.before args s = true := fun q h => hts q (List.mem_cons_of_mem _ h)
  have hown : s.vm.findClass cnT = some m.cls := hown
  have hl : lv_has ls 4 [(0, .ref ao), (1, .int g1), (2, .int g2)] := hl
  have hP : va_P D vwCl [(ao, .inr (0, [.ref au, .ref af, .ref ak, .int x.2.2.1, .int x.2.2.2.1, .int x.2.2.2.2.1, .int x.2.2.2.2.2.1])), (au, .inr (1, [.int x.1.1, .int x.1.2])), (af, .inr (1, [.int x.2.1.1, .int x.2.1.2])), (ak, .inr (2, [.ref a1, .ref a2, .ref a3, .ref a4, .int (nI x.2.2.2.2.2.2.1), .int x.2.2.2.2.2.2.2.1])), (a1, .inl (cI, 10, .inl x.2.2.2.2.2.2.2.2.1)), (a2, .inl (cI, 10, .inl x.2.2.2.2.2.2.2.2.2.1)), (a3, .inl (cI, 10, .inl x.2.2.2.2.2.2.2.2.2.2.1)), (a4, .inl (cI, 10, .inl x.2.2.2.2.2.2.2.2.2.2.2))] s.heap := hP
  have hD : va_D A [(ao, .inr (0, [.ref au, .ref af, .ref ak, .int x.2.2.1, .int x.2.2.2.1, .int x.2.2.2.2.1, .int x.2.2.2.2.2.1])), (au, .inr (1, [.int x.1.1, .int x.1.2])), (af, .inr (1, [.int x.2.1.1, .int x.2.1.2])), (ak, .inr (2, [.ref a1, .ref a2, .ref a3, .ref a4, .int (nI x.2.2.2.2.2.2.1), .int x.2.2.2.2.2.2.2.1])), (a1, .inl (cI, 10, .inl x.2.2.2.2.2.2.2.2.1)), (a2, .inl (cI, 10, .inl x.2.2.2.2.2.2.2.2.2.1)), (a3, .inl (cI, 10, .inl x.2.2.2.2.2.2.2.2.2.2.1)), (a4, .inl (cI, 10, .inl x.2.2.2.2.2.2.2.2.2.2.2))] := hD
  refine lv_aload_n hx hb dT_destroy_0 rfl (lv_at hl 0 rfl) ?_
  refine lv_iload_n hx hb dT_destroy_1 rfl (lv_at hl 1 rfl) ?_
  refine lv_iload_n hx hb dT_destroy_2 rfl (lv_at hl 2 rfl) ?_
  refine kcI (isR := []) (isC := [0, 1, 2, 3, 4, 5, 6, 7]) (wr := []) (w2 := [(ao, .inr (0, [.ref au, .ref af, .ref ak, .int x.2.2.1, .int x.2.2.2.1, .int x.2.2.2.2.1, .int x.2.2.2.2.2.1])), (au, .inr (1, [.int x.1.1, .int x.1.2])), (af, .inr (1, [.int x.2.1.1, .int x.2.1.2])), (ak, .inr (2, [.ref a1, .ref a2, .ref a3, .ref a4, .int (nI x.2.2.2.2.2.2.1), .int x.2.2.2.2.2.2.2.1])), (a1, .inl (cI, 10, .inl x.2.2.2.2.2.2.2.2.1)), (a2, .inl (cI, 10, .inl x.2.2.2.2.2.2.2.2.2.1)), (a3, .inl (cI, 10, .inl x.2.2.2.2.2.2.2.2.2.2.1)), (a4, .inl (cI, 10, .inl x.2.2.2.2.2.2.2.2.2.2.2))]) (va_runV (As := [.int g1, .int g2]) (rest := []) ⟨hx, hb, hml, hown, hts⟩ (kt_row l D cI cZ ao au af ak a1 a2 a3 a4 x g1 g2 (hn) _) ⟨(callB_of 2 hts gd_yT_rowOrRefusal rfl rfl rfl (hts _ mw24) (hts _ mw193) (by decide +kernel) ⟨Nat.le_of_ble_eq_true rfl, Nat.le_of_ble_eq_true rfl⟩), hts _ mw195, hts _ mw10⟩ (kpreV hNw hP hD hK [0, 1, 2, 3, 4, 5, 6, 7] rfl (by decide) 0 rfl (ci := 0) rfl) rfl rfl hl.1 rfl (lv_room (Nat.le_of_ble_eq_true rfl)) dT_destroy_3 ⟨Nat.le_of_ble_eq_true rfl, Nat.le_of_ble_eq_true rfl⟩) hP hD hS hA [0, 1, 2, 3, 4, 5, 6, 7] rfl rfl (by decide) (by decide) (by decide) rfl (fun H locs hP hD hS => ?_)
  refine lv_istore_n hx hb dT_destroy_6 rfl hl (by decide) rfl (fun ls hl => ?_)
  have hl : lv_has ls 4 [(3, .int (zt_row x g1 g2)), (0, .ref ao), (1, .int g1), (2, .int g2)] := hl
  refine lv_iload_n hx hb dT_destroy_7 rfl (lv_at hl 0 rfl) ?_
  refine lv_if_ge (tgt := 13) hx hb dT_destroy_8 (by decide) (fun h1 => ?_) (fun h1 => ?_)
  ·
    refine lv_aload_n hx hb dT_destroy_13 rfl (lv_at hl 1 rfl) ?_
    refine lv_iload_n hx hb dT_destroy_14 rfl (lv_at hl 2 rfl) ?_
    refine lv_iload_n hx hb dT_destroy_15 rfl (lv_at hl 0 rfl) ?_
    refine kcI (isR := []) (isC := [0, 1, 2, 3, 4, 5, 6, 7]) (wr := []) (w2 := [(ao, .inr (0, [.ref au, .ref af, .ref ak, .int x.2.2.1, .int x.2.2.2.1, .int x.2.2.2.2.1, .int x.2.2.2.2.2.1])), (au, .inr (1, [.int x.1.1, .int x.1.2])), (af, .inr (1, [.int x.2.1.1, .int x.2.1.2])), (ak, .inr (2, [.ref a1, .ref a2, .ref a3, .ref a4, .int (nI x.2.2.2.2.2.2.1), .int x.2.2.2.2.2.2.2.1])), (a1, .inl (cI, 10, .inl x.2.2.2.2.2.2.2.2.1)), (a2, .inl (cI, 10, .inl x.2.2.2.2.2.2.2.2.2.1)), (a3, .inl (cI, 10, .inl x.2.2.2.2.2.2.2.2.2.2.1)), (a4, .inl (cI, 10, .inl x.2.2.2.2.2.2.2.2.2.2.2))]) (va_runV (As := [.int g1, .int (zt_row x g1 g2)]) (rest := []) ⟨hx, hb, hml, hown, hts⟩ (kt_isFixedFor l D cI cZ ao au af ak a1 a2 a3 a4 x g1 (zt_row x g1 g2) (hn) _) ⟨(callB_of 2 hts gd_yT_isFixedFor rfl rfl rfl (hts _ mw24) (hts _ mw206) (by decide +kernel) ⟨Nat.le_of_ble_eq_true rfl, Nat.le_of_ble_eq_true rfl⟩), hts _ mw208, hts _ mw13⟩ (kpreV hNw hP hD hK [0, 1, 2, 3, 4, 5, 6, 7] rfl (by decide) 0 rfl (ci := 0) rfl) rfl rfl hl.1 rfl (lv_room (Nat.le_of_ble_eq_true rfl)) dT_destroy_16 ⟨Nat.le_of_ble_eq_true rfl, Nat.le_of_ble_eq_true rfl⟩) hP hD hS hA [0, 1, 2, 3, 4, 5, 6, 7] rfl rfl (by decide) (by decide) (by decide) rfl (fun H locs hP hD hS => ?_)
    refine lv_if_eq (tgt := 25) hx hb dT_destroy_19 (by decide) (fun h2 => ?_) (fun h2 => ?_)
    ·
      refine lv_aload_n hx hb dT_destroy_25 rfl (lv_at hl 1 rfl) ?_
      refine va_get (D := D) (ci := 0) (v := .ref ak) (C := cnT) (T := ftT) (N := 7) hx hb hts inT hown hK hP 0 rfl rfl 2 (by decide) (hts _ mw84) (fun _ h9 => h9) rfl dT_destroy_26 ?_
      refine lv_iload_n hx hb dT_destroy_29 rfl (lv_at hl 0 rfl) ?_
      refine kTop (y := (nI (Int32.toNatClampNeg (zt_row x g1 g2)))) (zt_row_nI hn h1) ?_
      refine kcV (isR := [0, 1, 2]) (isC := [3, 4, 5, 6, 7]) (wr := [(ao, .inr (0, [.ref au, .ref af, .ref ak, .int x.2.2.1, .int x.2.2.2.1, .int x.2.2.2.2.1, .int x.2.2.2.2.2.1])), (au, .inr (1, [.int x.1.1, .int x.1.2])), (af, .inr (1, [.int x.2.1.1, .int x.2.1.2]))]) (w2 := [(ao, .inr (0, [.ref au, .ref af, .ref ak, .int x.2.2.1, .int x.2.2.2.1, .int x.2.2.2.2.1, .int x.2.2.2.2.2.1])), (au, .inr (1, [.int x.1.1, .int x.1.2])), (af, .inr (1, [.int x.2.1.1, .int x.2.1.2])), (ak, .inr (2, [.ref a1, .ref a2, .ref a3, .ref a4, .int (nI (zk_removeRow x.2.2.2.2.2.2 (Int32.toNatClampNeg (zt_row x g1 g2))).1), .int ((zk_removeRow x.2.2.2.2.2.2 (Int32.toNatClampNeg (zt_row x g1 g2))).2.1)])), (a1, .inl (cI, 10, .inl ((zk_removeRow x.2.2.2.2.2.2 (Int32.toNatClampNeg (zt_row x g1 g2))).2.2.1))), (a2, .inl (cI, 10, .inl ((zk_removeRow x.2.2.2.2.2.2 (Int32.toNatClampNeg (zt_row x g1 g2))).2.2.2.1))), (a3, .inl (cI, 10, .inl ((zk_removeRow x.2.2.2.2.2.2 (Int32.toNatClampNeg (zt_row x g1 g2))).2.2.2.2.1))), (a4, .inl (cI, 10, .inl ((zk_removeRow x.2.2.2.2.2.2 (Int32.toNatClampNeg (zt_row x g1 g2))).2.2.2.2.2)))]) (va_runVN (As := [.int (nI (Int32.toNatClampNeg (zt_row x g1 g2)))]) (rest := []) ⟨hx, hb, hml, hown, hts⟩ (kk_removeRow l D cI cZ ak a1 a2 a3 a4 x.2.2.2.2.2.2 (Int32.toNatClampNeg (zt_row x g1 g2)) (hn) (zt_row_lt hn h1) _) ⟨(va_cnB 1 hts gd_yK_removeRow rfl rfl rfl (hNw _ mw210) (hts _ mw26) (by decide +kernel) ⟨Nat.le_of_ble_eq_true rfl, Nat.le_of_ble_eq_true rfl⟩), hts _ mw122, hts _ mw2⟩ (kpreV hNw hP hD hK [3, 4, 5, 6, 7] rfl (by decide) 3 rfl (ci := 2) rfl) rfl rfl hl.1 rfl (lv_room (Nat.le_of_ble_eq_true rfl)) dT_destroy_30 ⟨Nat.le_of_ble_eq_true rfl, Nat.le_of_ble_eq_true rfl⟩) hP hD hS hA [0, 1, 2, 3, 4, 5, 6, 7] rfl rfl (by decide) (by decide) (by decide) rfl (fun H locs hP hD hS => ?_)
      refine lv_iconst (v := 0) hx hb dT_destroy_33 (by decide) ?_
      exact kretI (wf := fun st => wX cI ao au af ak a1 a2 a3 a4 st) (st := (x.1, x.2.1, x.2.2.1, x.2.2.2.1, x.2.2.2.2.1, x.2.2.2.2.2.1, (zk_removeRow x.2.2.2.2.2.2 (Int32.toNatClampNeg (zt_row x g1 g2))))) (by first | (rw [zt_destroy, if_pos h1, if_pos h2]; done) | exact ((if_pos h1).trans (if_pos h2))) hx hb hr hlk hS hP hD hK dT_destroy_34
    ·
      refine lv_bipush (v := (-4)) hx hb dT_destroy_22 (by decide) ?_
      exact kretI (wf := fun st => wX cI ao au af ak a1 a2 a3 a4 st) (st := x) (by first | (rw [zt_destroy, if_pos h1, if_neg h2]; done) | exact ((if_pos h1).trans (if_neg h2))) hx hb hr hlk hS hP hD hK dT_destroy_24
  ·
    refine lv_iload_n hx hb dT_destroy_11 rfl (lv_at hl 0 rfl) ?_
    exact kretI (wf := fun st => wX cI ao au af ak a1 a2 a3 a4 st) (st := x) (by first | (rw [zt_destroy, if_neg h1]; done) | exact (if_neg h1)) hx hb hr hlk hS hP hD hK dT_destroy_12

def zt_attributes (x : XS) (g1 : Int32) (g2 : Int32) : Int32 := (if 0 ≤ (zt_row x g1 g2) then (x.2.2.2.2.2.2.2.2.2.1 (Int32.toNatClampNeg (zt_row x g1 g2))) else (zt_row x g1 g2))

set_option maxHeartbeats 4000000 in
set_option maxRecDepth 100000 in
theorem kt_attributes (l : Launch) (D : va_G) (cI cZ : ClassId) (ao au af ak a1 a2 a3 a4 : Nat) (x : XS) (g1 : Int32) (g2 : Int32) (hn : x.2.2.2.2.2.2.1 ≤ 10) : kI l yT_attributes wsT_attributes (rmOf 3 66) D (kT cI cZ) [.ref ao, .int g1, .int g2] (wX cI ao au af ak a1 a2 a3 a4 x) (zt_attributes x g1 g2) (wX cI ao au af ak a1 a2 a3 a4 x) := by
  intro sz
  refine kOf (Qc := fun A => kQi D (kT cI cZ) A (zt_attributes x g1 g2) (wX cI ao au af ak a1 a2 a3 a4 x)) (cc := cT_attributes) (maxL := 4) (ret := some .int) (by decide) rfl (Nat.le_of_ble_eq_true rfl) ?_ sz
  intro p e s m args below meth c A ls hx hb hml hown hts hNw hr hlk hin hA hS hP hD hK hl
  show W p l e (rmOf 3 66) s m args below meth c s.heap [] 0 0 (MQ below (kQi D (kT cI cZ) A (zt_attributes x g1 g2) (wX cI ao au af ak a1 a2 a3 a4 x)) args s 0 0 A) (F0 m 0 ls [])
  have hts : ∀ q ∈ lw_g, q.before args s = true := fun q h => hts q (List.mem_cons_of_mem _ h)
  have hown : s.vm.findClass cnT = some m.cls := hown
  have hl : lv_has ls 4 [(0, .ref ao), (1, .int g1), (2, .int g2)] := hl
  have hP : va_P D vwCl [(ao, .inr (0, [.ref au, .ref af, .ref ak, .int x.2.2.1, .int x.2.2.2.1, .int x.2.2.2.2.1, .int x.2.2.2.2.2.1])), (au, .inr (1, [.int x.1.1, .int x.1.2])), (af, .inr (1, [.int x.2.1.1, .int x.2.1.2])), (ak, .inr (2, [.ref a1, .ref a2, .ref a3, .ref a4, .int (nI x.2.2.2.2.2.2.1), .int x.2.2.2.2.2.2.2.1])), (a1, .inl (cI, 10, .inl x.2.2.2.2.2.2.2.2.1)), (a2, .inl (cI, 10, .inl x.2.2.2.2.2.2.2.2.2.1)), (a3, .inl (cI, 10, .inl x.2.2.2.2.2.2.2.2.2.2.1)), (a4, .inl (cI, 10, .inl x.2.2.2.2.2.2.2.2.2.2.2))] s.heap := hP
  have hD : va_D A [(ao, .inr (0, [.ref au, .ref af, .ref ak, .int x.2.2.1, .int x.2.2.2.1, .int x.2.2.2.2.1, .int x.2.2.2.2.2.1])), (au, .inr (1, [.int x.1.1, .int x.1.2])), (af, .inr (1, [.int x.2.1.1, .int x.2.1.2])), (ak, .inr (2, [.ref a1, .ref a2, .ref a3, .ref a4, .int (nI x.2.2.2.2.2.2.1), .int x.2.2.2.2.2.2.2.1])), (a1, .inl (cI, 10, .inl x.2.2.2.2.2.2.2.2.1)), (a2, .inl (cI, 10, .inl x.2.2.2.2.2.2.2.2.2.1)), (a3, .inl (cI, 10, .inl x.2.2.2.2.2.2.2.2.2.2.1)), (a4, .inl (cI, 10, .inl x.2.2.2.2.2.2.2.2.2.2.2))] := hD
  refine lv_aload_n hx hb dT_attributes_0 rfl (lv_at hl 0 rfl) ?_
  refine lv_iload_n hx hb dT_attributes_1 rfl (lv_at hl 1 rfl) ?_
  refine lv_iload_n hx hb dT_attributes_2 rfl (lv_at hl 2 rfl) ?_
  refine kcI (isR := []) (isC := [0, 1, 2, 3, 4, 5, 6, 7]) (wr := []) (w2 := [(ao, .inr (0, [.ref au, .ref af, .ref ak, .int x.2.2.1, .int x.2.2.2.1, .int x.2.2.2.2.1, .int x.2.2.2.2.2.1])), (au, .inr (1, [.int x.1.1, .int x.1.2])), (af, .inr (1, [.int x.2.1.1, .int x.2.1.2])), (ak, .inr (2, [.ref a1, .ref a2, .ref a3, .ref a4, .int (nI x.2.2.2.2.2.2.1), .int x.2.2.2.2.2.2.2.1])), (a1, .inl (cI, 10, .inl x.2.2.2.2.2.2.2.2.1)), (a2, .inl (cI, 10, .inl x.2.2.2.2.2.2.2.2.2.1)), (a3, .inl (cI, 10, .inl x.2.2.2.2.2.2.2.2.2.2.1)), (a4, .inl (cI, 10, .inl x.2.2.2.2.2.2.2.2.2.2.2))]) (va_runV (As := [.int g1, .int g2]) (rest := []) ⟨hx, hb, hml, hown, hts⟩ (kt_row l D cI cZ ao au af ak a1 a2 a3 a4 x g1 g2 (hn) _) ⟨(callB_of 2 hts gd_yT_rowOrRefusal rfl rfl rfl (hts _ mw24) (hts _ mw193) (by decide +kernel) ⟨Nat.le_of_ble_eq_true rfl, Nat.le_of_ble_eq_true rfl⟩), hts _ mw195, hts _ mw10⟩ (kpreV hNw hP hD hK [0, 1, 2, 3, 4, 5, 6, 7] rfl (by decide) 0 rfl (ci := 0) rfl) rfl rfl hl.1 rfl (lv_room (Nat.le_of_ble_eq_true rfl)) dT_attributes_3 ⟨Nat.le_of_ble_eq_true rfl, Nat.le_of_ble_eq_true rfl⟩) hP hD hS hA [0, 1, 2, 3, 4, 5, 6, 7] rfl rfl (by decide) (by decide) (by decide) rfl (fun H locs hP hD hS => ?_)
  refine lv_istore_n hx hb dT_attributes_6 rfl hl (by decide) rfl (fun ls hl => ?_)
  have hl : lv_has ls 4 [(3, .int (zt_row x g1 g2)), (0, .ref ao), (1, .int g1), (2, .int g2)] := hl
  refine lv_iload_n hx hb dT_attributes_7 rfl (lv_at hl 0 rfl) ?_
  refine kJoin (pcJ := 24) (z := (if 0 ≤ (zt_row x g1 g2) then (x.2.2.2.2.2.2.2.2.2.1 (Int32.toNatClampNeg (zt_row x g1 g2))) else (zt_row x g1 g2))) (ws := [(ao, .inr (0, [.ref au, .ref af, .ref ak, .int x.2.2.1, .int x.2.2.2.1, .int x.2.2.2.2.1, .int x.2.2.2.2.2.1])), (au, .inr (1, [.int x.1.1, .int x.1.2])), (af, .inr (1, [.int x.2.1.1, .int x.2.1.2])), (ak, .inr (2, [.ref a1, .ref a2, .ref a3, .ref a4, .int (nI x.2.2.2.2.2.2.1), .int x.2.2.2.2.2.2.2.1])), (a1, .inl (cI, 10, .inl x.2.2.2.2.2.2.2.2.1)), (a2, .inl (cI, 10, .inl x.2.2.2.2.2.2.2.2.2.1)), (a3, .inl (cI, 10, .inl x.2.2.2.2.2.2.2.2.2.2.1)), (a4, .inl (cI, 10, .inl x.2.2.2.2.2.2.2.2.2.2.2))]) (rest := []) (D := D) (A := A) (H0 := s.heap) (fun J24 => ?_) (fun H locs hP hD hS => ?_)
  ·
    refine lv_if_ge (tgt := 15) hx hb dT_attributes_8 (by decide) (fun h1 => ?_) (fun h1 => ?_)
    ·
      refine lv_aload_n hx hb dT_attributes_15 rfl (lv_at hl 1 rfl) ?_
      refine va_get (D := D) (ci := 0) (v := .ref ak) (C := cnT) (T := ftT) (N := 7) hx hb hts inT hown hK hP 0 rfl rfl 2 (by decide) (hts _ mw84) (fun _ h9 => h9) rfl dT_attributes_16 ?_
      refine va_getN (D := D) (ci := 2) (v := .ref a2) (C := cnK) (T := ftK) (N := 6) hx hb hts inK hown hK hP 3 rfl rfl 1 (by decide) (va_Nw.use rfl (hNw _ mw60)) (fun _ h9 => h9) rfl dT_attributes_19 ?_
      refine lv_iload_n hx hb dT_attributes_22 rfl (lv_at hl 0 rfl) ?_
      refine va_iald hx hb hK hP 5 0 rfl rfl (zt_row_in hn h1) dT_attributes_23 ?_
      exact J24 _ _ hP hD hS _ ((if_pos h1).symm)
    ·
      refine lv_iload_n hx hb dT_attributes_11 rfl (lv_at hl 0 rfl) ?_
      refine lv_goto hx hb dT_attributes_12 (tgt := 24) (by decide) ?_
      exact J24 _ _ hP hD hS _ ((if_neg h1).symm)
  exact kretP (rfl) hx hb hr hlk hS hP hD hK dT_attributes_24

def zt_limit (x : XS) (g1 : Int32) (g2 : Int32) (g3 : Int32) : Int32 × XS := (if 0 ≤ (zt_row x g1 g2) then (if (zt_isFixedFor x g1 (zt_row x g1 g2)) = 0 then (if g3 = 0 then ((-5), x) else (if (g3 &&& (-509)) = 0 then (((upd x.2.2.2.2.2.2.2.2.2.1 (Int32.toNatClampNeg (zt_row x g1 g2)) (((x.2.2.2.2.2.2.2.2.2.1 (Int32.toNatClampNeg (zt_row x g1 g2))) &&& ((g3 &&& 504) ^^^ (-1))) ||| (g3 &&& 4))) (Int32.toNatClampNeg (zt_row x g1 g2))), (x.1, x.2.1, x.2.2.1, x.2.2.2.1, x.2.2.2.2.1, x.2.2.2.2.2.1, (x.2.2.2.2.2.2.1, x.2.2.2.2.2.2.2.1, x.2.2.2.2.2.2.2.2.1, (upd x.2.2.2.2.2.2.2.2.2.1 (Int32.toNatClampNeg (zt_row x g1 g2)) (((x.2.2.2.2.2.2.2.2.2.1 (Int32.toNatClampNeg (zt_row x g1 g2))) &&& ((g3 &&& 504) ^^^ (-1))) ||| (g3 &&& 4))), x.2.2.2.2.2.2.2.2.2.2.1, x.2.2.2.2.2.2.2.2.2.2.2))) else ((-5), x))) else ((-4), x)) else ((zt_row x g1 g2), x))

set_option maxHeartbeats 4000000 in
set_option maxRecDepth 100000 in
theorem kt_limit (l : Launch) (D : va_G) (cI cZ : ClassId) (ao au af ak a1 a2 a3 a4 : Nat) (x : XS) (g1 : Int32) (g2 : Int32) (g3 : Int32) (hn : x.2.2.2.2.2.2.1 ≤ 10) : kI l yT_limit wsT_limit (rmOf 3 66) D (kT cI cZ) [.ref ao, .int g1, .int g2, .int g3] (wX cI ao au af ak a1 a2 a3 a4 x) (zt_limit x g1 g2 g3).1 (wX cI ao au af ak a1 a2 a3 a4 ((zt_limit x g1 g2 g3).2)) := by
  intro sz
  refine kOf (Qc := fun A => kQi D (kT cI cZ) A (zt_limit x g1 g2 g3).1 (wX cI ao au af ak a1 a2 a3 a4 ((zt_limit x g1 g2 g3).2))) (cc := cT_limit) (maxL := 6) (ret := some .int) (by decide) rfl (Nat.le_of_ble_eq_true rfl) ?_ sz
  intro p e s m args below meth c A ls hx hb hml hown hts hNw hr hlk hin hA hS hP hD hK hl
  show W p l e (rmOf 3 66) s m args below meth c s.heap [] 0 0 (MQ below (kQi D (kT cI cZ) A (zt_limit x g1 g2 g3).1 (wX cI ao au af ak a1 a2 a3 a4 ((zt_limit x g1 g2 g3).2))) args s 0 0 A) (F0 m 0 ls [])
  have hts : ∀ q ∈ lw_g, q.before args s = true := fun q h => hts q (List.mem_cons_of_mem _ h)
  have hown : s.vm.findClass cnT = some m.cls := hown
  have hl : lv_has ls 6 [(0, .ref ao), (1, .int g1), (2, .int g2), (3, .int g3)] := hl
  have hP : va_P D vwCl [(ao, .inr (0, [.ref au, .ref af, .ref ak, .int x.2.2.1, .int x.2.2.2.1, .int x.2.2.2.2.1, .int x.2.2.2.2.2.1])), (au, .inr (1, [.int x.1.1, .int x.1.2])), (af, .inr (1, [.int x.2.1.1, .int x.2.1.2])), (ak, .inr (2, [.ref a1, .ref a2, .ref a3, .ref a4, .int (nI x.2.2.2.2.2.2.1), .int x.2.2.2.2.2.2.2.1])), (a1, .inl (cI, 10, .inl x.2.2.2.2.2.2.2.2.1)), (a2, .inl (cI, 10, .inl x.2.2.2.2.2.2.2.2.2.1)), (a3, .inl (cI, 10, .inl x.2.2.2.2.2.2.2.2.2.2.1)), (a4, .inl (cI, 10, .inl x.2.2.2.2.2.2.2.2.2.2.2))] s.heap := hP
  have hD : va_D A [(ao, .inr (0, [.ref au, .ref af, .ref ak, .int x.2.2.1, .int x.2.2.2.1, .int x.2.2.2.2.1, .int x.2.2.2.2.2.1])), (au, .inr (1, [.int x.1.1, .int x.1.2])), (af, .inr (1, [.int x.2.1.1, .int x.2.1.2])), (ak, .inr (2, [.ref a1, .ref a2, .ref a3, .ref a4, .int (nI x.2.2.2.2.2.2.1), .int x.2.2.2.2.2.2.2.1])), (a1, .inl (cI, 10, .inl x.2.2.2.2.2.2.2.2.1)), (a2, .inl (cI, 10, .inl x.2.2.2.2.2.2.2.2.2.1)), (a3, .inl (cI, 10, .inl x.2.2.2.2.2.2.2.2.2.2.1)), (a4, .inl (cI, 10, .inl x.2.2.2.2.2.2.2.2.2.2.2))] := hD
  refine lv_aload_n hx hb dT_limit_0 rfl (lv_at hl 0 rfl) ?_
  refine lv_iload_n hx hb dT_limit_1 rfl (lv_at hl 1 rfl) ?_
  refine lv_iload_n hx hb dT_limit_2 rfl (lv_at hl 2 rfl) ?_
  refine kcI (isR := []) (isC := [0, 1, 2, 3, 4, 5, 6, 7]) (wr := []) (w2 := [(ao, .inr (0, [.ref au, .ref af, .ref ak, .int x.2.2.1, .int x.2.2.2.1, .int x.2.2.2.2.1, .int x.2.2.2.2.2.1])), (au, .inr (1, [.int x.1.1, .int x.1.2])), (af, .inr (1, [.int x.2.1.1, .int x.2.1.2])), (ak, .inr (2, [.ref a1, .ref a2, .ref a3, .ref a4, .int (nI x.2.2.2.2.2.2.1), .int x.2.2.2.2.2.2.2.1])), (a1, .inl (cI, 10, .inl x.2.2.2.2.2.2.2.2.1)), (a2, .inl (cI, 10, .inl x.2.2.2.2.2.2.2.2.2.1)), (a3, .inl (cI, 10, .inl x.2.2.2.2.2.2.2.2.2.2.1)), (a4, .inl (cI, 10, .inl x.2.2.2.2.2.2.2.2.2.2.2))]) (va_runV (As := [.int g1, .int g2]) (rest := []) ⟨hx, hb, hml, hown, hts⟩ (kt_row l D cI cZ ao au af ak a1 a2 a3 a4 x g1 g2 (hn) _) ⟨(callB_of 2 hts gd_yT_rowOrRefusal rfl rfl rfl (hts _ mw24) (hts _ mw193) (by decide +kernel) ⟨Nat.le_of_ble_eq_true rfl, Nat.le_of_ble_eq_true rfl⟩), hts _ mw195, hts _ mw10⟩ (kpreV hNw hP hD hK [0, 1, 2, 3, 4, 5, 6, 7] rfl (by decide) 0 rfl (ci := 0) rfl) rfl rfl hl.1 rfl (lv_room (Nat.le_of_ble_eq_true rfl)) dT_limit_3 ⟨Nat.le_of_ble_eq_true rfl, Nat.le_of_ble_eq_true rfl⟩) hP hD hS hA [0, 1, 2, 3, 4, 5, 6, 7] rfl rfl (by decide) (by decide) (by decide) rfl (fun H locs hP hD hS => ?_)
  refine lv_istore hx hb dT_limit_6 hl (by decide) rfl (fun ls hl => ?_)
  have hl : lv_has ls 6 [(4, .int (zt_row x g1 g2)), (0, .ref ao), (1, .int g1), (2, .int g2), (3, .int g3)] := hl
  refine lv_iload hx hb dT_limit_8 (lv_at hl 0 rfl) ?_
  refine lv_if_ge (tgt := 16) hx hb dT_limit_10 (by decide) (fun h1 => ?_) (fun h1 => ?_)
  ·
    refine lv_aload_n hx hb dT_limit_16 rfl (lv_at hl 1 rfl) ?_
    refine lv_iload_n hx hb dT_limit_17 rfl (lv_at hl 2 rfl) ?_
    refine lv_iload hx hb dT_limit_18 (lv_at hl 0 rfl) ?_
    refine kcI (isR := []) (isC := [0, 1, 2, 3, 4, 5, 6, 7]) (wr := []) (w2 := [(ao, .inr (0, [.ref au, .ref af, .ref ak, .int x.2.2.1, .int x.2.2.2.1, .int x.2.2.2.2.1, .int x.2.2.2.2.2.1])), (au, .inr (1, [.int x.1.1, .int x.1.2])), (af, .inr (1, [.int x.2.1.1, .int x.2.1.2])), (ak, .inr (2, [.ref a1, .ref a2, .ref a3, .ref a4, .int (nI x.2.2.2.2.2.2.1), .int x.2.2.2.2.2.2.2.1])), (a1, .inl (cI, 10, .inl x.2.2.2.2.2.2.2.2.1)), (a2, .inl (cI, 10, .inl x.2.2.2.2.2.2.2.2.2.1)), (a3, .inl (cI, 10, .inl x.2.2.2.2.2.2.2.2.2.2.1)), (a4, .inl (cI, 10, .inl x.2.2.2.2.2.2.2.2.2.2.2))]) (va_runV (As := [.int g1, .int (zt_row x g1 g2)]) (rest := []) ⟨hx, hb, hml, hown, hts⟩ (kt_isFixedFor l D cI cZ ao au af ak a1 a2 a3 a4 x g1 (zt_row x g1 g2) (hn) _) ⟨(callB_of 2 hts gd_yT_isFixedFor rfl rfl rfl (hts _ mw24) (hts _ mw206) (by decide +kernel) ⟨Nat.le_of_ble_eq_true rfl, Nat.le_of_ble_eq_true rfl⟩), hts _ mw208, hts _ mw13⟩ (kpreV hNw hP hD hK [0, 1, 2, 3, 4, 5, 6, 7] rfl (by decide) 0 rfl (ci := 0) rfl) rfl rfl hl.1 rfl (lv_room (Nat.le_of_ble_eq_true rfl)) dT_limit_20 ⟨Nat.le_of_ble_eq_true rfl, Nat.le_of_ble_eq_true rfl⟩) hP hD hS hA [0, 1, 2, 3, 4, 5, 6, 7] rfl rfl (by decide) (by decide) (by decide) rfl (fun H locs hP hD hS => ?_)
    refine lv_if_eq (tgt := 29) hx hb dT_limit_23 (by decide) (fun h2 => ?_) (fun h2 => ?_)
    ·
      refine lv_iload_n hx hb dT_limit_29 rfl (lv_at hl 4 rfl) ?_
      refine lv_if_eq (tgt := 41) hx hb dT_limit_30 (by decide) (fun h3 => ?_) (fun h3 => ?_)
      ·
        refine lv_bipush (v := (-5)) hx hb dT_limit_41 (by decide) ?_
        exact kretI (wf := fun st => wX cI ao au af ak a1 a2 a3 a4 st) (st := x) (by first | (rw [zt_limit, if_pos h1, if_pos h2, if_pos h3]; done) | exact ((if_pos h1).trans ((if_pos h2).trans (if_pos h3)))) hx hb hr hlk hS hP hD hK dT_limit_43
      ·
        refine lv_iload_n hx hb dT_limit_33 rfl (lv_at hl 4 rfl) ?_
        refine lv_sipush (v := (-509)) hx hb dT_limit_34 (by decide) ?_
        refine lv_iand hx hb dT_limit_37 ?_
        refine lv_if_eq (tgt := 44) hx hb dT_limit_38 (by decide) (fun h4 => ?_) (fun h4 => ?_)
        ·
          refine lv_aload_n hx hb dT_limit_44 rfl (lv_at hl 1 rfl) ?_
          refine va_get (D := D) (ci := 0) (v := .ref ak) (C := cnT) (T := ftT) (N := 7) hx hb hts inT hown hK hP 0 rfl rfl 2 (by decide) (hts _ mw84) (fun _ h9 => h9) rfl dT_limit_45 ?_
          refine va_getN (D := D) (ci := 2) (v := .ref a2) (C := cnK) (T := ftK) (N := 6) hx hb hts inK hown hK hP 3 rfl rfl 1 (by decide) (va_Nw.use rfl (hNw _ mw60)) (fun _ h9 => h9) rfl dT_limit_48 ?_
          refine lv_iload hx hb dT_limit_51 (lv_at hl 0 rfl) ?_
          refine va_iald hx hb hK hP 5 0 rfl rfl (zt_row_in hn h1) dT_limit_53 ?_
          refine lv_iload_n hx hb dT_limit_54 rfl (lv_at hl 4 rfl) ?_
          refine lv_sipush (v := 504) hx hb dT_limit_55 (by decide) ?_
          refine lv_iand hx hb dT_limit_58 ?_
          refine lv_iconst (v := (-1)) hx hb dT_limit_59 (by decide) ?_
          refine lv_ixor hx hb dT_limit_60 ?_
          refine lv_iand hx hb dT_limit_61 ?_
          refine lv_istore hx hb dT_limit_62 hl (by decide) rfl (fun ls hl => ?_)
          have hl : lv_has ls 6 [(5, .int ((x.2.2.2.2.2.2.2.2.2.1 (Int32.toNatClampNeg (zt_row x g1 g2))) &&& ((g3 &&& 504) ^^^ (-1)))), (4, .int (zt_row x g1 g2)), (0, .ref ao), (1, .int g1), (2, .int g2), (3, .int g3)] := hl
          refine lv_aload_n hx hb dT_limit_64 rfl (lv_at hl 2 rfl) ?_
          refine va_get (D := D) (ci := 0) (v := .ref ak) (C := cnT) (T := ftT) (N := 7) hx hb hts inT hown hK hP 0 rfl rfl 2 (by decide) (hts _ mw84) (fun _ h9 => h9) rfl dT_limit_65 ?_
          refine va_getN (D := D) (ci := 2) (v := .ref a2) (C := cnK) (T := ftK) (N := 6) hx hb hts inK hown hK hP 3 rfl rfl 1 (by decide) (va_Nw.use rfl (hNw _ mw60)) (fun _ h9 => h9) rfl dT_limit_68 ?_
          refine lv_iload hx hb dT_limit_71 (lv_at hl 1 rfl) ?_
          refine lv_iload hx hb dT_limit_73 (lv_at hl 0 rfl) ?_
          refine lv_iload_n hx hb dT_limit_75 rfl (lv_at hl 5 rfl) ?_
          refine lv_iconst (v := 4) hx hb dT_limit_76 (by decide) ?_
          refine lv_iand hx hb dT_limit_77 ?_
          refine lv_ior hx hb dT_limit_78 ?_
          refine va_iast hx hb hK hP hD hS 5 0 rfl rfl (zt_row_in hn h1) dT_limit_79 (fun H locs hP hD hS => ?_)
          have hP : va_P D vwCl [(ao, .inr (0, [.ref au, .ref af, .ref ak, .int x.2.2.1, .int x.2.2.2.1, .int x.2.2.2.2.1, .int x.2.2.2.2.2.1])), (au, .inr (1, [.int x.1.1, .int x.1.2])), (af, .inr (1, [.int x.2.1.1, .int x.2.1.2])), (ak, .inr (2, [.ref a1, .ref a2, .ref a3, .ref a4, .int (nI x.2.2.2.2.2.2.1), .int x.2.2.2.2.2.2.2.1])), (a1, .inl (cI, 10, .inl x.2.2.2.2.2.2.2.2.1)), (a2, .inl (cI, 10, .inl (upd x.2.2.2.2.2.2.2.2.2.1 (Int32.toNatClampNeg (zt_row x g1 g2)) (((x.2.2.2.2.2.2.2.2.2.1 (Int32.toNatClampNeg (zt_row x g1 g2))) &&& ((g3 &&& 504) ^^^ (-1))) ||| (g3 &&& 4))))), (a3, .inl (cI, 10, .inl x.2.2.2.2.2.2.2.2.2.2.1)), (a4, .inl (cI, 10, .inl x.2.2.2.2.2.2.2.2.2.2.2))] H := hP
          have hD : va_D A [(ao, .inr (0, [.ref au, .ref af, .ref ak, .int x.2.2.1, .int x.2.2.2.1, .int x.2.2.2.2.1, .int x.2.2.2.2.2.1])), (au, .inr (1, [.int x.1.1, .int x.1.2])), (af, .inr (1, [.int x.2.1.1, .int x.2.1.2])), (ak, .inr (2, [.ref a1, .ref a2, .ref a3, .ref a4, .int (nI x.2.2.2.2.2.2.1), .int x.2.2.2.2.2.2.2.1])), (a1, .inl (cI, 10, .inl x.2.2.2.2.2.2.2.2.1)), (a2, .inl (cI, 10, .inl (upd x.2.2.2.2.2.2.2.2.2.1 (Int32.toNatClampNeg (zt_row x g1 g2)) (((x.2.2.2.2.2.2.2.2.2.1 (Int32.toNatClampNeg (zt_row x g1 g2))) &&& ((g3 &&& 504) ^^^ (-1))) ||| (g3 &&& 4))))), (a3, .inl (cI, 10, .inl x.2.2.2.2.2.2.2.2.2.2.1)), (a4, .inl (cI, 10, .inl x.2.2.2.2.2.2.2.2.2.2.2))] := hD
          refine lv_aload_n hx hb dT_limit_80 rfl (lv_at hl 2 rfl) ?_
          refine va_get (D := D) (ci := 0) (v := .ref ak) (C := cnT) (T := ftT) (N := 7) hx hb hts inT hown hK hP 0 rfl rfl 2 (by decide) (hts _ mw84) (fun _ h9 => h9) rfl dT_limit_81 ?_
          refine va_getN (D := D) (ci := 2) (v := .ref a2) (C := cnK) (T := ftK) (N := 6) hx hb hts inK hown hK hP 3 rfl rfl 1 (by decide) (va_Nw.use rfl (hNw _ mw60)) (fun _ h9 => h9) rfl dT_limit_84 ?_
          refine lv_iload hx hb dT_limit_87 (lv_at hl 1 rfl) ?_
          refine va_iald hx hb hK hP 5 0 rfl rfl (zt_row_in hn h1) dT_limit_89 ?_
          exact kretI (wf := fun st => wX cI ao au af ak a1 a2 a3 a4 st) (st := (x.1, x.2.1, x.2.2.1, x.2.2.2.1, x.2.2.2.2.1, x.2.2.2.2.2.1, (x.2.2.2.2.2.2.1, x.2.2.2.2.2.2.2.1, x.2.2.2.2.2.2.2.2.1, (upd x.2.2.2.2.2.2.2.2.2.1 (Int32.toNatClampNeg (zt_row x g1 g2)) (((x.2.2.2.2.2.2.2.2.2.1 (Int32.toNatClampNeg (zt_row x g1 g2))) &&& ((g3 &&& 504) ^^^ (-1))) ||| (g3 &&& 4))), x.2.2.2.2.2.2.2.2.2.2.1, x.2.2.2.2.2.2.2.2.2.2.2))) (by first | (rw [zt_limit, if_pos h1, if_pos h2, if_neg h3, if_pos h4]; done) | exact ((if_pos h1).trans ((if_pos h2).trans ((if_neg h3).trans (if_pos h4))))) hx hb hr hlk hS hP hD hK dT_limit_90
        ·
          refine lv_bipush (v := (-5)) hx hb dT_limit_41 (by decide) ?_
          exact kretI (wf := fun st => wX cI ao au af ak a1 a2 a3 a4 st) (st := x) (by first | (rw [zt_limit, if_pos h1, if_pos h2, if_neg h3, if_neg h4]; done) | exact ((if_pos h1).trans ((if_pos h2).trans ((if_neg h3).trans (if_neg h4))))) hx hb hr hlk hS hP hD hK dT_limit_43
    ·
      refine lv_bipush (v := (-4)) hx hb dT_limit_26 (by decide) ?_
      exact kretI (wf := fun st => wX cI ao au af ak a1 a2 a3 a4 st) (st := x) (by first | (rw [zt_limit, if_pos h1, if_neg h2]; done) | exact ((if_pos h1).trans (if_neg h2))) hx hb hr hlk hS hP hD hK dT_limit_28
  ·
    refine lv_iload hx hb dT_limit_13 (lv_at hl 0 rfl) ?_
    exact kretI (wf := fun st => wX cI ao au af ak a1 a2 a3 a4 st) (st := x) (by first | (rw [zt_limit, if_neg h1]; done) | exact (if_neg h1)) hx hb hr hlk hS hP hD hK dT_limit_15

def zt_trust (x : XS) (g1 : Int32) (g2 : Int32) : Int32 × XS := (if 0 ≤ (zt_row x g1 g2) then (if x.2.2.1 = 2 then (if (zt_isFixedFor x g1 (zt_row x g1 g2)) = 0 then (if (zk_has x.2.2.2.2.2.2 (zt_row x g1 g2) 1) = 0 then ((-5), x) else (if (zk_has x.2.2.2.2.2.2 (zt_row x g1 g2) 128) = 0 then ((-5), x) else (0, (x.1, x.2.1, x.2.2.1, x.2.2.2.1, x.2.2.2.2.1, x.2.2.2.2.2.1, (x.2.2.2.2.2.2.1, x.2.2.2.2.2.2.2.1, x.2.2.2.2.2.2.2.2.1, (upd x.2.2.2.2.2.2.2.2.2.1 (Int32.toNatClampNeg (zt_row x g1 g2)) ((x.2.2.2.2.2.2.2.2.2.1 (Int32.toNatClampNeg (zt_row x g1 g2))) ||| 512)), x.2.2.2.2.2.2.2.2.2.2.1, x.2.2.2.2.2.2.2.2.2.2.2))))) else ((-4), x)) else ((-3), x)) else ((zt_row x g1 g2), x))

set_option maxHeartbeats 4000000 in
set_option maxRecDepth 100000 in
theorem kt_trust (l : Launch) (D : va_G) (cI cZ : ClassId) (ao au af ak a1 a2 a3 a4 : Nat) (x : XS) (g1 : Int32) (g2 : Int32) (hn : x.2.2.2.2.2.2.1 ≤ 10) : kI l yT_trust wsT_trust (rmOf 3 66) D (kT cI cZ) [.ref ao, .int g1, .int g2] (wX cI ao au af ak a1 a2 a3 a4 x) (zt_trust x g1 g2).1 (wX cI ao au af ak a1 a2 a3 a4 ((zt_trust x g1 g2).2)) := by
  intro sz
  refine kOf (Qc := fun A => kQi D (kT cI cZ) A (zt_trust x g1 g2).1 (wX cI ao au af ak a1 a2 a3 a4 ((zt_trust x g1 g2).2))) (cc := cT_trust) (maxL := 4) (ret := some .int) (by decide) rfl (Nat.le_of_ble_eq_true rfl) ?_ sz
  intro p e s m args below meth c A ls hx hb hml hown hts hNw hr hlk hin hA hS hP hD hK hl
  show W p l e (rmOf 3 66) s m args below meth c s.heap [] 0 0 (MQ below (kQi D (kT cI cZ) A (zt_trust x g1 g2).1 (wX cI ao au af ak a1 a2 a3 a4 ((zt_trust x g1 g2).2))) args s 0 0 A) (F0 m 0 ls [])
  have hts : ∀ q ∈ lw_g, q.before args s = true := fun q h => hts q (List.mem_cons_of_mem _ h)
  have hown : s.vm.findClass cnT = some m.cls := hown
  have hl : lv_has ls 4 [(0, .ref ao), (1, .int g1), (2, .int g2)] := hl
  have hP : va_P D vwCl [(ao, .inr (0, [.ref au, .ref af, .ref ak, .int x.2.2.1, .int x.2.2.2.1, .int x.2.2.2.2.1, .int x.2.2.2.2.2.1])), (au, .inr (1, [.int x.1.1, .int x.1.2])), (af, .inr (1, [.int x.2.1.1, .int x.2.1.2])), (ak, .inr (2, [.ref a1, .ref a2, .ref a3, .ref a4, .int (nI x.2.2.2.2.2.2.1), .int x.2.2.2.2.2.2.2.1])), (a1, .inl (cI, 10, .inl x.2.2.2.2.2.2.2.2.1)), (a2, .inl (cI, 10, .inl x.2.2.2.2.2.2.2.2.2.1)), (a3, .inl (cI, 10, .inl x.2.2.2.2.2.2.2.2.2.2.1)), (a4, .inl (cI, 10, .inl x.2.2.2.2.2.2.2.2.2.2.2))] s.heap := hP
  have hD : va_D A [(ao, .inr (0, [.ref au, .ref af, .ref ak, .int x.2.2.1, .int x.2.2.2.1, .int x.2.2.2.2.1, .int x.2.2.2.2.2.1])), (au, .inr (1, [.int x.1.1, .int x.1.2])), (af, .inr (1, [.int x.2.1.1, .int x.2.1.2])), (ak, .inr (2, [.ref a1, .ref a2, .ref a3, .ref a4, .int (nI x.2.2.2.2.2.2.1), .int x.2.2.2.2.2.2.2.1])), (a1, .inl (cI, 10, .inl x.2.2.2.2.2.2.2.2.1)), (a2, .inl (cI, 10, .inl x.2.2.2.2.2.2.2.2.2.1)), (a3, .inl (cI, 10, .inl x.2.2.2.2.2.2.2.2.2.2.1)), (a4, .inl (cI, 10, .inl x.2.2.2.2.2.2.2.2.2.2.2))] := hD
  refine lv_aload_n hx hb dT_trust_0 rfl (lv_at hl 0 rfl) ?_
  refine lv_iload_n hx hb dT_trust_1 rfl (lv_at hl 1 rfl) ?_
  refine lv_iload_n hx hb dT_trust_2 rfl (lv_at hl 2 rfl) ?_
  refine kcI (isR := []) (isC := [0, 1, 2, 3, 4, 5, 6, 7]) (wr := []) (w2 := [(ao, .inr (0, [.ref au, .ref af, .ref ak, .int x.2.2.1, .int x.2.2.2.1, .int x.2.2.2.2.1, .int x.2.2.2.2.2.1])), (au, .inr (1, [.int x.1.1, .int x.1.2])), (af, .inr (1, [.int x.2.1.1, .int x.2.1.2])), (ak, .inr (2, [.ref a1, .ref a2, .ref a3, .ref a4, .int (nI x.2.2.2.2.2.2.1), .int x.2.2.2.2.2.2.2.1])), (a1, .inl (cI, 10, .inl x.2.2.2.2.2.2.2.2.1)), (a2, .inl (cI, 10, .inl x.2.2.2.2.2.2.2.2.2.1)), (a3, .inl (cI, 10, .inl x.2.2.2.2.2.2.2.2.2.2.1)), (a4, .inl (cI, 10, .inl x.2.2.2.2.2.2.2.2.2.2.2))]) (va_runV (As := [.int g1, .int g2]) (rest := []) ⟨hx, hb, hml, hown, hts⟩ (kt_row l D cI cZ ao au af ak a1 a2 a3 a4 x g1 g2 (hn) _) ⟨(callB_of 2 hts gd_yT_rowOrRefusal rfl rfl rfl (hts _ mw24) (hts _ mw193) (by decide +kernel) ⟨Nat.le_of_ble_eq_true rfl, Nat.le_of_ble_eq_true rfl⟩), hts _ mw195, hts _ mw10⟩ (kpreV hNw hP hD hK [0, 1, 2, 3, 4, 5, 6, 7] rfl (by decide) 0 rfl (ci := 0) rfl) rfl rfl hl.1 rfl (lv_room (Nat.le_of_ble_eq_true rfl)) dT_trust_3 ⟨Nat.le_of_ble_eq_true rfl, Nat.le_of_ble_eq_true rfl⟩) hP hD hS hA [0, 1, 2, 3, 4, 5, 6, 7] rfl rfl (by decide) (by decide) (by decide) rfl (fun H locs hP hD hS => ?_)
  refine lv_istore_n hx hb dT_trust_6 rfl hl (by decide) rfl (fun ls hl => ?_)
  have hl : lv_has ls 4 [(3, .int (zt_row x g1 g2)), (0, .ref ao), (1, .int g1), (2, .int g2)] := hl
  refine lv_iload_n hx hb dT_trust_7 rfl (lv_at hl 0 rfl) ?_
  refine lv_if_ge (tgt := 13) hx hb dT_trust_8 (by decide) (fun h1 => ?_) (fun h1 => ?_)
  ·
    refine lv_aload_n hx hb dT_trust_13 rfl (lv_at hl 1 rfl) ?_
    refine va_get (D := D) (ci := 0) (v := .int x.2.2.1) (C := cnT) (T := ftT) (N := 7) hx hb hts inT hown hK hP 0 rfl rfl 3 (by decide) (hts _ mw85) (fun _ h9 => h9) rfl dT_trust_14 ?_
    refine lv_iconst (v := 2) hx hb dT_trust_17 (by decide) ?_
    refine lv_icmp_eq (tgt := 24) hx hb dT_trust_18 (by decide) (fun h2 => ?_) (fun h2 => ?_)
    ·
      refine lv_aload_n hx hb dT_trust_24 rfl (lv_at hl 1 rfl) ?_
      refine lv_iload_n hx hb dT_trust_25 rfl (lv_at hl 2 rfl) ?_
      refine lv_iload_n hx hb dT_trust_26 rfl (lv_at hl 0 rfl) ?_
      refine kcI (isR := []) (isC := [0, 1, 2, 3, 4, 5, 6, 7]) (wr := []) (w2 := [(ao, .inr (0, [.ref au, .ref af, .ref ak, .int x.2.2.1, .int x.2.2.2.1, .int x.2.2.2.2.1, .int x.2.2.2.2.2.1])), (au, .inr (1, [.int x.1.1, .int x.1.2])), (af, .inr (1, [.int x.2.1.1, .int x.2.1.2])), (ak, .inr (2, [.ref a1, .ref a2, .ref a3, .ref a4, .int (nI x.2.2.2.2.2.2.1), .int x.2.2.2.2.2.2.2.1])), (a1, .inl (cI, 10, .inl x.2.2.2.2.2.2.2.2.1)), (a2, .inl (cI, 10, .inl x.2.2.2.2.2.2.2.2.2.1)), (a3, .inl (cI, 10, .inl x.2.2.2.2.2.2.2.2.2.2.1)), (a4, .inl (cI, 10, .inl x.2.2.2.2.2.2.2.2.2.2.2))]) (va_runV (As := [.int g1, .int (zt_row x g1 g2)]) (rest := []) ⟨hx, hb, hml, hown, hts⟩ (kt_isFixedFor l D cI cZ ao au af ak a1 a2 a3 a4 x g1 (zt_row x g1 g2) (hn) _) ⟨(callB_of 2 hts gd_yT_isFixedFor rfl rfl rfl (hts _ mw24) (hts _ mw206) (by decide +kernel) ⟨Nat.le_of_ble_eq_true rfl, Nat.le_of_ble_eq_true rfl⟩), hts _ mw208, hts _ mw13⟩ (kpreV hNw hP hD hK [0, 1, 2, 3, 4, 5, 6, 7] rfl (by decide) 0 rfl (ci := 0) rfl) rfl rfl hl.1 rfl (lv_room (Nat.le_of_ble_eq_true rfl)) dT_trust_27 ⟨Nat.le_of_ble_eq_true rfl, Nat.le_of_ble_eq_true rfl⟩) hP hD hS hA [0, 1, 2, 3, 4, 5, 6, 7] rfl rfl (by decide) (by decide) (by decide) rfl (fun H locs hP hD hS => ?_)
      refine lv_if_eq (tgt := 36) hx hb dT_trust_30 (by decide) (fun h3 => ?_) (fun h3 => ?_)
      ·
        refine lv_aload_n hx hb dT_trust_36 rfl (lv_at hl 1 rfl) ?_
        refine va_get (D := D) (ci := 0) (v := .ref ak) (C := cnT) (T := ftT) (N := 7) hx hb hts inT hown hK hP 0 rfl rfl 2 (by decide) (hts _ mw84) (fun _ h9 => h9) rfl dT_trust_37 ?_
        refine lv_iload_n hx hb dT_trust_40 rfl (lv_at hl 0 rfl) ?_
        refine lv_iconst (v := 1) hx hb dT_trust_41 (by decide) ?_
        refine kcI (isR := [0, 1, 2]) (isC := [3, 4, 5, 6, 7]) (wr := [(ao, .inr (0, [.ref au, .ref af, .ref ak, .int x.2.2.1, .int x.2.2.2.1, .int x.2.2.2.2.1, .int x.2.2.2.2.2.1])), (au, .inr (1, [.int x.1.1, .int x.1.2])), (af, .inr (1, [.int x.2.1.1, .int x.2.1.2]))]) (w2 := [(ao, .inr (0, [.ref au, .ref af, .ref ak, .int x.2.2.1, .int x.2.2.2.1, .int x.2.2.2.2.1, .int x.2.2.2.2.2.1])), (au, .inr (1, [.int x.1.1, .int x.1.2])), (af, .inr (1, [.int x.2.1.1, .int x.2.1.2])), (ak, .inr (2, [.ref a1, .ref a2, .ref a3, .ref a4, .int (nI x.2.2.2.2.2.2.1), .int x.2.2.2.2.2.2.2.1])), (a1, .inl (cI, 10, .inl x.2.2.2.2.2.2.2.2.1)), (a2, .inl (cI, 10, .inl x.2.2.2.2.2.2.2.2.2.1)), (a3, .inl (cI, 10, .inl x.2.2.2.2.2.2.2.2.2.2.1)), (a4, .inl (cI, 10, .inl x.2.2.2.2.2.2.2.2.2.2.2))]) (va_runVN (As := [.int (zt_row x g1 g2), .int 1]) (rest := []) ⟨hx, hb, hml, hown, hts⟩ (kk_has l D cI cZ ak a1 a2 a3 a4 x.2.2.2.2.2.2 (zt_row x g1 g2) 1 (hn) _) ⟨(va_cnB 2 hts gd_yK_has rfl rfl rfl (hNw _ mw205) (hts _ mw26) (by decide +kernel) ⟨Nat.le_of_ble_eq_true rfl, Nat.le_of_ble_eq_true rfl⟩), hts _ mw142, hts _ mw5⟩ (kpreV hNw hP hD hK [3, 4, 5, 6, 7] rfl (by decide) 3 rfl (ci := 2) rfl) rfl rfl hl.1 rfl (lv_room (Nat.le_of_ble_eq_true rfl)) dT_trust_42 ⟨Nat.le_of_ble_eq_true rfl, Nat.le_of_ble_eq_true rfl⟩) hP hD hS hA [0, 1, 2, 3, 4, 5, 6, 7] rfl rfl (by decide) (by decide) (by decide) rfl (fun H locs hP hD hS => ?_)
        refine lv_if_eq (tgt := 62) hx hb dT_trust_45 (by decide) (fun h4 => ?_) (fun h4 => ?_)
        ·
          refine lv_bipush (v := (-5)) hx hb dT_trust_62 (by decide) ?_
          exact kretI (wf := fun st => wX cI ao au af ak a1 a2 a3 a4 st) (st := x) (by first | (rw [zt_trust, if_pos h1, if_pos h2, if_pos h3, if_pos h4]; done) | exact ((if_pos h1).trans ((if_pos h2).trans ((if_pos h3).trans (if_pos h4))))) hx hb hr hlk hS hP hD hK dT_trust_64
        ·
          refine lv_aload_n hx hb dT_trust_48 rfl (lv_at hl 1 rfl) ?_
          refine va_get (D := D) (ci := 0) (v := .ref ak) (C := cnT) (T := ftT) (N := 7) hx hb hts inT hown hK hP 0 rfl rfl 2 (by decide) (hts _ mw84) (fun _ h9 => h9) rfl dT_trust_49 ?_
          refine lv_iload_n hx hb dT_trust_52 rfl (lv_at hl 0 rfl) ?_
          refine lv_sipush (v := 128) hx hb dT_trust_53 (by decide) ?_
          refine kcI (isR := [0, 1, 2]) (isC := [3, 4, 5, 6, 7]) (wr := [(ao, .inr (0, [.ref au, .ref af, .ref ak, .int x.2.2.1, .int x.2.2.2.1, .int x.2.2.2.2.1, .int x.2.2.2.2.2.1])), (au, .inr (1, [.int x.1.1, .int x.1.2])), (af, .inr (1, [.int x.2.1.1, .int x.2.1.2]))]) (w2 := [(ao, .inr (0, [.ref au, .ref af, .ref ak, .int x.2.2.1, .int x.2.2.2.1, .int x.2.2.2.2.1, .int x.2.2.2.2.2.1])), (au, .inr (1, [.int x.1.1, .int x.1.2])), (af, .inr (1, [.int x.2.1.1, .int x.2.1.2])), (ak, .inr (2, [.ref a1, .ref a2, .ref a3, .ref a4, .int (nI x.2.2.2.2.2.2.1), .int x.2.2.2.2.2.2.2.1])), (a1, .inl (cI, 10, .inl x.2.2.2.2.2.2.2.2.1)), (a2, .inl (cI, 10, .inl x.2.2.2.2.2.2.2.2.2.1)), (a3, .inl (cI, 10, .inl x.2.2.2.2.2.2.2.2.2.2.1)), (a4, .inl (cI, 10, .inl x.2.2.2.2.2.2.2.2.2.2.2))]) (va_runVN (As := [.int (zt_row x g1 g2), .int 128]) (rest := []) ⟨hx, hb, hml, hown, hts⟩ (kk_has l D cI cZ ak a1 a2 a3 a4 x.2.2.2.2.2.2 (zt_row x g1 g2) 128 (hn) _) ⟨(va_cnB 2 hts gd_yK_has rfl rfl rfl (hNw _ mw205) (hts _ mw26) (by decide +kernel) ⟨Nat.le_of_ble_eq_true rfl, Nat.le_of_ble_eq_true rfl⟩), hts _ mw142, hts _ mw5⟩ (kpreV hNw hP hD hK [3, 4, 5, 6, 7] rfl (by decide) 3 rfl (ci := 2) rfl) rfl rfl hl.1 rfl (lv_room (Nat.le_of_ble_eq_true rfl)) dT_trust_56 ⟨Nat.le_of_ble_eq_true rfl, Nat.le_of_ble_eq_true rfl⟩) hP hD hS hA [0, 1, 2, 3, 4, 5, 6, 7] rfl rfl (by decide) (by decide) (by decide) rfl (fun H locs hP hD hS => ?_)
          refine lv_if_ne (tgt := 65) hx hb dT_trust_59 (by decide) (fun h5 => ?_) (fun h5 => ?_)
          ·
            refine lv_aload_n hx hb dT_trust_65 rfl (lv_at hl 1 rfl) ?_
            refine va_get (D := D) (ci := 0) (v := .ref ak) (C := cnT) (T := ftT) (N := 7) hx hb hts inT hown hK hP 0 rfl rfl 2 (by decide) (hts _ mw84) (fun _ h9 => h9) rfl dT_trust_66 ?_
            refine va_getN (D := D) (ci := 2) (v := .ref a2) (C := cnK) (T := ftK) (N := 6) hx hb hts inK hown hK hP 3 rfl rfl 1 (by decide) (va_Nw.use rfl (hNw _ mw60)) (fun _ h9 => h9) rfl dT_trust_69 ?_
            refine lv_iload_n hx hb dT_trust_72 rfl (lv_at hl 0 rfl) ?_
            refine lv_dup2_11 hx hb dT_trust_73 rfl rfl ?_
            refine va_iald hx hb hK hP 5 0 rfl rfl (zt_row_in hn h1) dT_trust_74 ?_
            refine lv_sipush (v := 512) hx hb dT_trust_75 (by decide) ?_
            refine lv_ior hx hb dT_trust_78 ?_
            refine va_iast hx hb hK hP hD hS 5 0 rfl rfl (zt_row_in hn h1) dT_trust_79 (fun H locs hP hD hS => ?_)
            have hP : va_P D vwCl [(ao, .inr (0, [.ref au, .ref af, .ref ak, .int x.2.2.1, .int x.2.2.2.1, .int x.2.2.2.2.1, .int x.2.2.2.2.2.1])), (au, .inr (1, [.int x.1.1, .int x.1.2])), (af, .inr (1, [.int x.2.1.1, .int x.2.1.2])), (ak, .inr (2, [.ref a1, .ref a2, .ref a3, .ref a4, .int (nI x.2.2.2.2.2.2.1), .int x.2.2.2.2.2.2.2.1])), (a1, .inl (cI, 10, .inl x.2.2.2.2.2.2.2.2.1)), (a2, .inl (cI, 10, .inl (upd x.2.2.2.2.2.2.2.2.2.1 (Int32.toNatClampNeg (zt_row x g1 g2)) ((x.2.2.2.2.2.2.2.2.2.1 (Int32.toNatClampNeg (zt_row x g1 g2))) ||| 512)))), (a3, .inl (cI, 10, .inl x.2.2.2.2.2.2.2.2.2.2.1)), (a4, .inl (cI, 10, .inl x.2.2.2.2.2.2.2.2.2.2.2))] H := hP
            have hD : va_D A [(ao, .inr (0, [.ref au, .ref af, .ref ak, .int x.2.2.1, .int x.2.2.2.1, .int x.2.2.2.2.1, .int x.2.2.2.2.2.1])), (au, .inr (1, [.int x.1.1, .int x.1.2])), (af, .inr (1, [.int x.2.1.1, .int x.2.1.2])), (ak, .inr (2, [.ref a1, .ref a2, .ref a3, .ref a4, .int (nI x.2.2.2.2.2.2.1), .int x.2.2.2.2.2.2.2.1])), (a1, .inl (cI, 10, .inl x.2.2.2.2.2.2.2.2.1)), (a2, .inl (cI, 10, .inl (upd x.2.2.2.2.2.2.2.2.2.1 (Int32.toNatClampNeg (zt_row x g1 g2)) ((x.2.2.2.2.2.2.2.2.2.1 (Int32.toNatClampNeg (zt_row x g1 g2))) ||| 512)))), (a3, .inl (cI, 10, .inl x.2.2.2.2.2.2.2.2.2.2.1)), (a4, .inl (cI, 10, .inl x.2.2.2.2.2.2.2.2.2.2.2))] := hD
            refine lv_iconst (v := 0) hx hb dT_trust_80 (by decide) ?_
            exact kretI (wf := fun st => wX cI ao au af ak a1 a2 a3 a4 st) (st := (x.1, x.2.1, x.2.2.1, x.2.2.2.1, x.2.2.2.2.1, x.2.2.2.2.2.1, (x.2.2.2.2.2.2.1, x.2.2.2.2.2.2.2.1, x.2.2.2.2.2.2.2.2.1, (upd x.2.2.2.2.2.2.2.2.2.1 (Int32.toNatClampNeg (zt_row x g1 g2)) ((x.2.2.2.2.2.2.2.2.2.1 (Int32.toNatClampNeg (zt_row x g1 g2))) ||| 512)), x.2.2.2.2.2.2.2.2.2.2.1, x.2.2.2.2.2.2.2.2.2.2.2))) (by first | (rw [zt_trust, if_pos h1, if_pos h2, if_pos h3, if_neg h4, if_neg h5]; done) | exact ((if_pos h1).trans ((if_pos h2).trans ((if_pos h3).trans ((if_neg h4).trans (if_neg h5)))))) hx hb hr hlk hS hP hD hK dT_trust_81
          ·
            refine lv_bipush (v := (-5)) hx hb dT_trust_62 (by decide) ?_
            exact kretI (wf := fun st => wX cI ao au af ak a1 a2 a3 a4 st) (st := x) (by first | (rw [zt_trust, if_pos h1, if_pos h2, if_pos h3, if_neg h4, if_pos h5]; done) | exact ((if_pos h1).trans ((if_pos h2).trans ((if_pos h3).trans ((if_neg h4).trans (if_pos h5)))))) hx hb hr hlk hS hP hD hK dT_trust_64
      ·
        refine lv_bipush (v := (-4)) hx hb dT_trust_33 (by decide) ?_
        exact kretI (wf := fun st => wX cI ao au af ak a1 a2 a3 a4 st) (st := x) (by first | (rw [zt_trust, if_pos h1, if_pos h2, if_neg h3]; done) | exact ((if_pos h1).trans ((if_pos h2).trans (if_neg h3)))) hx hb hr hlk hS hP hD hK dT_trust_35
    ·
      refine lv_bipush (v := (-3)) hx hb dT_trust_21 (by decide) ?_
      exact kretI (wf := fun st => wX cI ao au af ak a1 a2 a3 a4 st) (st := x) (by first | (rw [zt_trust, if_pos h1, if_neg h2]; done) | exact ((if_pos h1).trans (if_neg h2))) hx hb hr hlk hS hP hD hK dT_trust_23
  ·
    refine lv_iload_n hx hb dT_trust_11 rfl (lv_at hl 0 rfl) ?_
    exact kretI (wf := fun st => wX cI ao au af ak a1 a2 a3 a4 st) (st := x) (by first | (rw [zt_trust, if_neg h1]; done) | exact (if_neg h1)) hx hb hr hlk hS hP hD hK dT_trust_12

def zt_read (x : XS) (g1 : Int32) (g2 : Int32) : Int64 := (if 0 ≤ (zt_row x g1 g2) then (if (zk_has x.2.2.2.2.2.2 (zt_row x g1 g2) 4) = 0 then (zt_answered (x.2.2.2.2.2.2.2.2.2.2.1 (Int32.toNatClampNeg (zt_row x g1 g2)))) else (-5)) else (Int32.toInt64 (zt_row x g1 g2)))

set_option maxHeartbeats 4000000 in
set_option maxRecDepth 100000 in
theorem kt_read (l : Launch) (D : va_G) (cI cZ : ClassId) (ao au af ak a1 a2 a3 a4 : Nat) (x : XS) (g1 : Int32) (g2 : Int32) (hn : x.2.2.2.2.2.2.1 ≤ 10) : kL l yT_read wsT_read (rmOf 3 66) D (kT cI cZ) [.ref ao, .int g1, .int g2] (wX cI ao au af ak a1 a2 a3 a4 x) (zt_read x g1 g2) (wX cI ao au af ak a1 a2 a3 a4 x) := by
  intro sz
  refine kOf (Qc := fun A => kQl D (kT cI cZ) A (zt_read x g1 g2) (wX cI ao au af ak a1 a2 a3 a4 x)) (cc := cT_read) (maxL := 4) (ret := some .long) (by decide) rfl (Nat.le_of_ble_eq_true rfl) ?_ sz
  intro p e s m args below meth c A ls hx hb hml hown hts hNw hr hlk hin hA hS hP hD hK hl
  show W p l e (rmOf 3 66) s m args below meth c s.heap [] 0 0 (MQ below (kQl D (kT cI cZ) A (zt_read x g1 g2) (wX cI ao au af ak a1 a2 a3 a4 x)) args s 0 0 A) (F0 m 0 ls [])
  have hts : ∀ q ∈ lw_g, q.before args s = true := fun q h => hts q (List.mem_cons_of_mem _ h)
  have hown : s.vm.findClass cnT = some m.cls := hown
  have hl : lv_has ls 4 [(0, .ref ao), (1, .int g1), (2, .int g2)] := hl
  have hP : va_P D vwCl [(ao, .inr (0, [.ref au, .ref af, .ref ak, .int x.2.2.1, .int x.2.2.2.1, .int x.2.2.2.2.1, .int x.2.2.2.2.2.1])), (au, .inr (1, [.int x.1.1, .int x.1.2])), (af, .inr (1, [.int x.2.1.1, .int x.2.1.2])), (ak, .inr (2, [.ref a1, .ref a2, .ref a3, .ref a4, .int (nI x.2.2.2.2.2.2.1), .int x.2.2.2.2.2.2.2.1])), (a1, .inl (cI, 10, .inl x.2.2.2.2.2.2.2.2.1)), (a2, .inl (cI, 10, .inl x.2.2.2.2.2.2.2.2.2.1)), (a3, .inl (cI, 10, .inl x.2.2.2.2.2.2.2.2.2.2.1)), (a4, .inl (cI, 10, .inl x.2.2.2.2.2.2.2.2.2.2.2))] s.heap := hP
  have hD : va_D A [(ao, .inr (0, [.ref au, .ref af, .ref ak, .int x.2.2.1, .int x.2.2.2.1, .int x.2.2.2.2.1, .int x.2.2.2.2.2.1])), (au, .inr (1, [.int x.1.1, .int x.1.2])), (af, .inr (1, [.int x.2.1.1, .int x.2.1.2])), (ak, .inr (2, [.ref a1, .ref a2, .ref a3, .ref a4, .int (nI x.2.2.2.2.2.2.1), .int x.2.2.2.2.2.2.2.1])), (a1, .inl (cI, 10, .inl x.2.2.2.2.2.2.2.2.1)), (a2, .inl (cI, 10, .inl x.2.2.2.2.2.2.2.2.2.1)), (a3, .inl (cI, 10, .inl x.2.2.2.2.2.2.2.2.2.2.1)), (a4, .inl (cI, 10, .inl x.2.2.2.2.2.2.2.2.2.2.2))] := hD
  refine lv_aload_n hx hb dT_read_0 rfl (lv_at hl 0 rfl) ?_
  refine lv_iload_n hx hb dT_read_1 rfl (lv_at hl 1 rfl) ?_
  refine lv_iload_n hx hb dT_read_2 rfl (lv_at hl 2 rfl) ?_
  refine kcI (isR := []) (isC := [0, 1, 2, 3, 4, 5, 6, 7]) (wr := []) (w2 := [(ao, .inr (0, [.ref au, .ref af, .ref ak, .int x.2.2.1, .int x.2.2.2.1, .int x.2.2.2.2.1, .int x.2.2.2.2.2.1])), (au, .inr (1, [.int x.1.1, .int x.1.2])), (af, .inr (1, [.int x.2.1.1, .int x.2.1.2])), (ak, .inr (2, [.ref a1, .ref a2, .ref a3, .ref a4, .int (nI x.2.2.2.2.2.2.1), .int x.2.2.2.2.2.2.2.1])), (a1, .inl (cI, 10, .inl x.2.2.2.2.2.2.2.2.1)), (a2, .inl (cI, 10, .inl x.2.2.2.2.2.2.2.2.2.1)), (a3, .inl (cI, 10, .inl x.2.2.2.2.2.2.2.2.2.2.1)), (a4, .inl (cI, 10, .inl x.2.2.2.2.2.2.2.2.2.2.2))]) (va_runV (As := [.int g1, .int g2]) (rest := []) ⟨hx, hb, hml, hown, hts⟩ (kt_row l D cI cZ ao au af ak a1 a2 a3 a4 x g1 g2 (hn) _) ⟨(callB_of 2 hts gd_yT_rowOrRefusal rfl rfl rfl (hts _ mw24) (hts _ mw193) (by decide +kernel) ⟨Nat.le_of_ble_eq_true rfl, Nat.le_of_ble_eq_true rfl⟩), hts _ mw195, hts _ mw10⟩ (kpreV hNw hP hD hK [0, 1, 2, 3, 4, 5, 6, 7] rfl (by decide) 0 rfl (ci := 0) rfl) rfl rfl hl.1 rfl (lv_room (Nat.le_of_ble_eq_true rfl)) dT_read_3 ⟨Nat.le_of_ble_eq_true rfl, Nat.le_of_ble_eq_true rfl⟩) hP hD hS hA [0, 1, 2, 3, 4, 5, 6, 7] rfl rfl (by decide) (by decide) (by decide) rfl (fun H locs hP hD hS => ?_)
  refine lv_istore_n hx hb dT_read_6 rfl hl (by decide) rfl (fun ls hl => ?_)
  have hl : lv_has ls 4 [(3, .int (zt_row x g1 g2)), (0, .ref ao), (1, .int g1), (2, .int g2)] := hl
  refine lv_iload_n hx hb dT_read_7 rfl (lv_at hl 0 rfl) ?_
  refine lv_if_ge (tgt := 14) hx hb dT_read_8 (by decide) (fun h1 => ?_) (fun h1 => ?_)
  ·
    refine lv_aload_n hx hb dT_read_14 rfl (lv_at hl 1 rfl) ?_
    refine va_get (D := D) (ci := 0) (v := .ref ak) (C := cnT) (T := ftT) (N := 7) hx hb hts inT hown hK hP 0 rfl rfl 2 (by decide) (hts _ mw84) (fun _ h9 => h9) rfl dT_read_15 ?_
    refine lv_iload_n hx hb dT_read_18 rfl (lv_at hl 0 rfl) ?_
    refine lv_iconst (v := 4) hx hb dT_read_19 (by decide) ?_
    refine kcI (isR := [0, 1, 2]) (isC := [3, 4, 5, 6, 7]) (wr := [(ao, .inr (0, [.ref au, .ref af, .ref ak, .int x.2.2.1, .int x.2.2.2.1, .int x.2.2.2.2.1, .int x.2.2.2.2.2.1])), (au, .inr (1, [.int x.1.1, .int x.1.2])), (af, .inr (1, [.int x.2.1.1, .int x.2.1.2]))]) (w2 := [(ao, .inr (0, [.ref au, .ref af, .ref ak, .int x.2.2.1, .int x.2.2.2.1, .int x.2.2.2.2.1, .int x.2.2.2.2.2.1])), (au, .inr (1, [.int x.1.1, .int x.1.2])), (af, .inr (1, [.int x.2.1.1, .int x.2.1.2])), (ak, .inr (2, [.ref a1, .ref a2, .ref a3, .ref a4, .int (nI x.2.2.2.2.2.2.1), .int x.2.2.2.2.2.2.2.1])), (a1, .inl (cI, 10, .inl x.2.2.2.2.2.2.2.2.1)), (a2, .inl (cI, 10, .inl x.2.2.2.2.2.2.2.2.2.1)), (a3, .inl (cI, 10, .inl x.2.2.2.2.2.2.2.2.2.2.1)), (a4, .inl (cI, 10, .inl x.2.2.2.2.2.2.2.2.2.2.2))]) (va_runVN (As := [.int (zt_row x g1 g2), .int 4]) (rest := []) ⟨hx, hb, hml, hown, hts⟩ (kk_has l D cI cZ ak a1 a2 a3 a4 x.2.2.2.2.2.2 (zt_row x g1 g2) 4 (hn) _) ⟨(va_cnB 2 hts gd_yK_has rfl rfl rfl (hNw _ mw205) (hts _ mw26) (by decide +kernel) ⟨Nat.le_of_ble_eq_true rfl, Nat.le_of_ble_eq_true rfl⟩), hts _ mw142, hts _ mw5⟩ (kpreV hNw hP hD hK [3, 4, 5, 6, 7] rfl (by decide) 3 rfl (ci := 2) rfl) rfl rfl hl.1 rfl (lv_room (Nat.le_of_ble_eq_true rfl)) dT_read_20 ⟨Nat.le_of_ble_eq_true rfl, Nat.le_of_ble_eq_true rfl⟩) hP hD hS hA [0, 1, 2, 3, 4, 5, 6, 7] rfl rfl (by decide) (by decide) (by decide) rfl (fun H locs hP hD hS => ?_)
    refine lv_if_eq (tgt := 30) hx hb dT_read_23 (by decide) (fun h2 => ?_) (fun h2 => ?_)
    ·
      refine lv_aload_n hx hb dT_read_30 rfl (lv_at hl 1 rfl) ?_
      refine va_get (D := D) (ci := 0) (v := .ref ak) (C := cnT) (T := ftT) (N := 7) hx hb hts inT hown hK hP 0 rfl rfl 2 (by decide) (hts _ mw84) (fun _ h9 => h9) rfl dT_read_31 ?_
      refine va_getN (D := D) (ci := 2) (v := .ref a3) (C := cnK) (T := ftK) (N := 6) hx hb hts inK hown hK hP 3 rfl rfl 2 (by decide) (va_Nw.use rfl (hNw _ mw62)) (fun _ h9 => h9) rfl dT_read_34 ?_
      refine lv_iload_n hx hb dT_read_37 rfl (lv_at hl 0 rfl) ?_
      refine va_iald hx hb hK hP 6 0 rfl rfl (zt_row_in hn h1) dT_read_38 ?_
      refine kcL (isR := [0, 1, 2, 3, 4, 5, 6, 7]) (isC := []) (wr := [(ao, .inr (0, [.ref au, .ref af, .ref ak, .int x.2.2.1, .int x.2.2.2.1, .int x.2.2.2.2.1, .int x.2.2.2.2.2.1])), (au, .inr (1, [.int x.1.1, .int x.1.2])), (af, .inr (1, [.int x.2.1.1, .int x.2.1.2])), (ak, .inr (2, [.ref a1, .ref a2, .ref a3, .ref a4, .int (nI x.2.2.2.2.2.2.1), .int x.2.2.2.2.2.2.2.1])), (a1, .inl (cI, 10, .inl x.2.2.2.2.2.2.2.2.1)), (a2, .inl (cI, 10, .inl x.2.2.2.2.2.2.2.2.2.1)), (a3, .inl (cI, 10, .inl x.2.2.2.2.2.2.2.2.2.2.1)), (a4, .inl (cI, 10, .inl x.2.2.2.2.2.2.2.2.2.2.2))]) (w2 := [(ao, .inr (0, [.ref au, .ref af, .ref ak, .int x.2.2.1, .int x.2.2.2.1, .int x.2.2.2.2.1, .int x.2.2.2.2.2.1])), (au, .inr (1, [.int x.1.1, .int x.1.2])), (af, .inr (1, [.int x.2.1.1, .int x.2.1.2])), (ak, .inr (2, [.ref a1, .ref a2, .ref a3, .ref a4, .int (nI x.2.2.2.2.2.2.1), .int x.2.2.2.2.2.2.2.1])), (a1, .inl (cI, 10, .inl x.2.2.2.2.2.2.2.2.1)), (a2, .inl (cI, 10, .inl x.2.2.2.2.2.2.2.2.2.1)), (a3, .inl (cI, 10, .inl x.2.2.2.2.2.2.2.2.2.2.1)), (a4, .inl (cI, 10, .inl x.2.2.2.2.2.2.2.2.2.2.2))]) (va_runS (As := [.int (x.2.2.2.2.2.2.2.2.2.2.1 (Int32.toNatClampNeg (zt_row x g1 g2)))]) (rest := []) ⟨hx, hb, hml, hown, hts⟩ (kt_answered l D cI cZ (x.2.2.2.2.2.2.2.2.2.2.1 (Int32.toNatClampNeg (zt_row x g1 g2))) _) ⟨(callB_of 1 hts gd_yT_answered rfl rfl rfl (hts _ mw24) (hts _ mw228) (by decide +kernel) ⟨Nat.le_of_ble_eq_true rfl, Nat.le_of_ble_eq_true rfl⟩), hts _ mw229⟩ (kpreS hNw hP hD hK [] rfl (by decide)) rfl rfl hl.1 rfl (lv_room (Nat.le_of_ble_eq_true rfl)) dT_read_39 ⟨Nat.le_of_ble_eq_true rfl, Nat.le_of_ble_eq_true rfl⟩) hP hD hS hA [0, 1, 2, 3, 4, 5, 6, 7] rfl rfl (by decide) (by decide) (by decide) rfl (fun H locs hP hD hS => ?_)
      exact kretL (by first | (rw [zt_read, if_pos h1, if_pos h2]; done) | exact ((if_pos h1).trans (if_pos h2))) hx hb hr hlk hS hP hD hK dT_read_42
    ·
      refine lv_ldc2 (v := (-5)) hx hb hown (hts _ mw227) dT_read_26 ?_
      exact kretL (by first | (rw [zt_read, if_pos h1, if_neg h2]; done) | exact ((if_pos h1).trans (if_neg h2))) hx hb hr hlk hS hP hD hK dT_read_29
  ·
    refine lv_iload_n hx hb dT_read_11 rfl (lv_at hl 0 rfl) ?_
    refine lv_i2l (v := (Int32.toInt64 (zt_row x g1 g2))) hx hb dT_read_12 rfl ?_
    exact kretL (by first | (rw [zt_read, if_neg h1]; done) | exact (if_neg h1)) hx hb hr hlk hS hP hD hK dT_read_13

def zt_encrypt (x : XS) (g1 : Int32) (g2 : Int32) (g3 : Int32) : Int64 := (if 0 ≤ (zt_use x g1 g2 16) then (zt_answered (zw_enc (x.2.2.2.2.2.2.2.2.2.2.1 (Int32.toNatClampNeg (zt_use x g1 g2 16))) g3)) else (Int32.toInt64 (zt_use x g1 g2 16)))

set_option maxHeartbeats 4000000 in
set_option maxRecDepth 100000 in
theorem kt_encrypt (l : Launch) (D : va_G) (cI cZ : ClassId) (ao au af ak a1 a2 a3 a4 : Nat) (x : XS) (g1 : Int32) (g2 : Int32) (g3 : Int32) (hn : x.2.2.2.2.2.2.1 ≤ 10) : kL l yT_encrypt wsT_encrypt (rmOf 4 90) D (kT cI cZ) [.ref ao, .int g1, .int g2, .int g3] (wX cI ao au af ak a1 a2 a3 a4 x) (zt_encrypt x g1 g2 g3) (wX cI ao au af ak a1 a2 a3 a4 x) := by
  intro sz
  refine kOf (Qc := fun A => kQl D (kT cI cZ) A (zt_encrypt x g1 g2 g3) (wX cI ao au af ak a1 a2 a3 a4 x)) (cc := cT_encrypt) (maxL := 5) (ret := some .long) (by decide) rfl (Nat.le_of_ble_eq_true rfl) ?_ sz
  intro p e s m args below meth c A ls hx hb hml hown hts hNw hr hlk hin hA hS hP hD hK hl
  show W p l e (rmOf 4 90) s m args below meth c s.heap [] 0 0 (MQ below (kQl D (kT cI cZ) A (zt_encrypt x g1 g2 g3) (wX cI ao au af ak a1 a2 a3 a4 x)) args s 0 0 A) (F0 m 0 ls [])
  have hts : ∀ q ∈ lw_g, q.before args s = true := fun q h => hts q (List.mem_cons_of_mem _ h)
  have hown : s.vm.findClass cnT = some m.cls := hown
  have hl : lv_has ls 5 [(0, .ref ao), (1, .int g1), (2, .int g2), (3, .int g3)] := hl
  have hP : va_P D vwCl [(ao, .inr (0, [.ref au, .ref af, .ref ak, .int x.2.2.1, .int x.2.2.2.1, .int x.2.2.2.2.1, .int x.2.2.2.2.2.1])), (au, .inr (1, [.int x.1.1, .int x.1.2])), (af, .inr (1, [.int x.2.1.1, .int x.2.1.2])), (ak, .inr (2, [.ref a1, .ref a2, .ref a3, .ref a4, .int (nI x.2.2.2.2.2.2.1), .int x.2.2.2.2.2.2.2.1])), (a1, .inl (cI, 10, .inl x.2.2.2.2.2.2.2.2.1)), (a2, .inl (cI, 10, .inl x.2.2.2.2.2.2.2.2.2.1)), (a3, .inl (cI, 10, .inl x.2.2.2.2.2.2.2.2.2.2.1)), (a4, .inl (cI, 10, .inl x.2.2.2.2.2.2.2.2.2.2.2))] s.heap := hP
  have hD : va_D A [(ao, .inr (0, [.ref au, .ref af, .ref ak, .int x.2.2.1, .int x.2.2.2.1, .int x.2.2.2.2.1, .int x.2.2.2.2.2.1])), (au, .inr (1, [.int x.1.1, .int x.1.2])), (af, .inr (1, [.int x.2.1.1, .int x.2.1.2])), (ak, .inr (2, [.ref a1, .ref a2, .ref a3, .ref a4, .int (nI x.2.2.2.2.2.2.1), .int x.2.2.2.2.2.2.2.1])), (a1, .inl (cI, 10, .inl x.2.2.2.2.2.2.2.2.1)), (a2, .inl (cI, 10, .inl x.2.2.2.2.2.2.2.2.2.1)), (a3, .inl (cI, 10, .inl x.2.2.2.2.2.2.2.2.2.2.1)), (a4, .inl (cI, 10, .inl x.2.2.2.2.2.2.2.2.2.2.2))] := hD
  refine lv_aload_n hx hb dT_encrypt_0 rfl (lv_at hl 0 rfl) ?_
  refine lv_iload_n hx hb dT_encrypt_1 rfl (lv_at hl 1 rfl) ?_
  refine lv_iload_n hx hb dT_encrypt_2 rfl (lv_at hl 2 rfl) ?_
  refine lv_bipush (v := 16) hx hb dT_encrypt_3 (by decide) ?_
  refine kcI (isR := []) (isC := [0, 1, 2, 3, 4, 5, 6, 7]) (wr := []) (w2 := [(ao, .inr (0, [.ref au, .ref af, .ref ak, .int x.2.2.1, .int x.2.2.2.1, .int x.2.2.2.2.1, .int x.2.2.2.2.2.1])), (au, .inr (1, [.int x.1.1, .int x.1.2])), (af, .inr (1, [.int x.2.1.1, .int x.2.1.2])), (ak, .inr (2, [.ref a1, .ref a2, .ref a3, .ref a4, .int (nI x.2.2.2.2.2.2.1), .int x.2.2.2.2.2.2.2.1])), (a1, .inl (cI, 10, .inl x.2.2.2.2.2.2.2.2.1)), (a2, .inl (cI, 10, .inl x.2.2.2.2.2.2.2.2.2.1)), (a3, .inl (cI, 10, .inl x.2.2.2.2.2.2.2.2.2.2.1)), (a4, .inl (cI, 10, .inl x.2.2.2.2.2.2.2.2.2.2.2))]) (va_runV (As := [.int g1, .int g2, .int 16]) (rest := []) ⟨hx, hb, hml, hown, hts⟩ (kt_use l D cI cZ ao au af ak a1 a2 a3 a4 x g1 g2 16 (hn) _) ⟨(callB_of 3 hts gd_yT_rowForUse rfl rfl rfl (hts _ mw24) (hts _ mw236) (by decide +kernel) ⟨Nat.le_of_ble_eq_true rfl, Nat.le_of_ble_eq_true rfl⟩), hts _ mw238, hts _ mw14⟩ (kpreV hNw hP hD hK [0, 1, 2, 3, 4, 5, 6, 7] rfl (by decide) 0 rfl (ci := 0) rfl) rfl rfl hl.1 rfl (lv_room (Nat.le_of_ble_eq_true rfl)) dT_encrypt_5 ⟨Nat.le_of_ble_eq_true rfl, Nat.le_of_ble_eq_true rfl⟩) hP hD hS hA [0, 1, 2, 3, 4, 5, 6, 7] rfl rfl (by decide) (by decide) (by decide) rfl (fun H locs hP hD hS => ?_)
  refine lv_istore hx hb dT_encrypt_8 hl (by decide) rfl (fun ls hl => ?_)
  have hl : lv_has ls 5 [(4, .int (zt_use x g1 g2 16)), (0, .ref ao), (1, .int g1), (2, .int g2), (3, .int g3)] := hl
  refine lv_iload hx hb dT_encrypt_10 (lv_at hl 0 rfl) ?_
  refine lv_if_ge (tgt := 21) hx hb dT_encrypt_12 (by decide) (fun h1 => ?_) (fun h1 => ?_)
  ·
    refine lv_aload_n hx hb dT_encrypt_21 rfl (lv_at hl 1 rfl) ?_
    refine va_get (D := D) (ci := 0) (v := .ref ak) (C := cnT) (T := ftT) (N := 7) hx hb hts inT hown hK hP 0 rfl rfl 2 (by decide) (hts _ mw84) (fun _ h9 => h9) rfl dT_encrypt_22 ?_
    refine va_getN (D := D) (ci := 2) (v := .ref a3) (C := cnK) (T := ftK) (N := 6) hx hb hts inK hown hK hP 3 rfl rfl 2 (by decide) (va_Nw.use rfl (hNw _ mw62)) (fun _ h9 => h9) rfl dT_encrypt_25 ?_
    refine lv_iload hx hb dT_encrypt_28 (lv_at hl 0 rfl) ?_
    refine va_iald hx hb hK hP 6 0 rfl rfl (zt_use_in hn h1) dT_encrypt_30 ?_
    refine lv_iload_n hx hb dT_encrypt_31 rfl (lv_at hl 4 rfl) ?_
    refine kcI (isR := [0, 1, 2, 3, 4, 5, 6, 7]) (isC := []) (wr := [(ao, .inr (0, [.ref au, .ref af, .ref ak, .int x.2.2.1, .int x.2.2.2.1, .int x.2.2.2.2.1, .int x.2.2.2.2.2.1])), (au, .inr (1, [.int x.1.1, .int x.1.2])), (af, .inr (1, [.int x.2.1.1, .int x.2.1.2])), (ak, .inr (2, [.ref a1, .ref a2, .ref a3, .ref a4, .int (nI x.2.2.2.2.2.2.1), .int x.2.2.2.2.2.2.2.1])), (a1, .inl (cI, 10, .inl x.2.2.2.2.2.2.2.2.1)), (a2, .inl (cI, 10, .inl x.2.2.2.2.2.2.2.2.2.1)), (a3, .inl (cI, 10, .inl x.2.2.2.2.2.2.2.2.2.2.1)), (a4, .inl (cI, 10, .inl x.2.2.2.2.2.2.2.2.2.2.2))]) (w2 := [(ao, .inr (0, [.ref au, .ref af, .ref ak, .int x.2.2.1, .int x.2.2.2.1, .int x.2.2.2.2.1, .int x.2.2.2.2.2.1])), (au, .inr (1, [.int x.1.1, .int x.1.2])), (af, .inr (1, [.int x.2.1.1, .int x.2.1.2])), (ak, .inr (2, [.ref a1, .ref a2, .ref a3, .ref a4, .int (nI x.2.2.2.2.2.2.1), .int x.2.2.2.2.2.2.2.1])), (a1, .inl (cI, 10, .inl x.2.2.2.2.2.2.2.2.1)), (a2, .inl (cI, 10, .inl x.2.2.2.2.2.2.2.2.2.1)), (a3, .inl (cI, 10, .inl x.2.2.2.2.2.2.2.2.2.2.1)), (a4, .inl (cI, 10, .inl x.2.2.2.2.2.2.2.2.2.2.2))]) (va_runSN (As := [.int (x.2.2.2.2.2.2.2.2.2.2.1 (Int32.toNatClampNeg (zt_use x g1 g2 16))), .int g3]) (rest := []) ⟨hx, hb, hml, hown, hts⟩ (kw_enc l D cI cZ (x.2.2.2.2.2.2.2.2.2.2.1 (Int32.toNatClampNeg (zt_use x g1 g2 16))) g3 _) ⟨(va_cnB 2 hts gd_yW_enc rfl rfl rfl (hNw _ mw240) (hts _ mw28) (by decide +kernel) ⟨Nat.le_of_ble_eq_true rfl, Nat.le_of_ble_eq_true rfl⟩), hts _ mw241, trivial⟩ (kpreS hNw hP hD hK [] rfl (by decide)) rfl rfl hl.1 rfl (lv_room (Nat.le_of_ble_eq_true rfl)) dT_encrypt_32 ⟨Nat.le_of_ble_eq_true rfl, Nat.le_of_ble_eq_true rfl⟩) hP hD hS hA [0, 1, 2, 3, 4, 5, 6, 7] rfl rfl (by decide) (by decide) (by decide) rfl (fun H locs hP hD hS => ?_)
    refine kcL (isR := [0, 1, 2, 3, 4, 5, 6, 7]) (isC := []) (wr := [(ao, .inr (0, [.ref au, .ref af, .ref ak, .int x.2.2.1, .int x.2.2.2.1, .int x.2.2.2.2.1, .int x.2.2.2.2.2.1])), (au, .inr (1, [.int x.1.1, .int x.1.2])), (af, .inr (1, [.int x.2.1.1, .int x.2.1.2])), (ak, .inr (2, [.ref a1, .ref a2, .ref a3, .ref a4, .int (nI x.2.2.2.2.2.2.1), .int x.2.2.2.2.2.2.2.1])), (a1, .inl (cI, 10, .inl x.2.2.2.2.2.2.2.2.1)), (a2, .inl (cI, 10, .inl x.2.2.2.2.2.2.2.2.2.1)), (a3, .inl (cI, 10, .inl x.2.2.2.2.2.2.2.2.2.2.1)), (a4, .inl (cI, 10, .inl x.2.2.2.2.2.2.2.2.2.2.2))]) (w2 := [(ao, .inr (0, [.ref au, .ref af, .ref ak, .int x.2.2.1, .int x.2.2.2.1, .int x.2.2.2.2.1, .int x.2.2.2.2.2.1])), (au, .inr (1, [.int x.1.1, .int x.1.2])), (af, .inr (1, [.int x.2.1.1, .int x.2.1.2])), (ak, .inr (2, [.ref a1, .ref a2, .ref a3, .ref a4, .int (nI x.2.2.2.2.2.2.1), .int x.2.2.2.2.2.2.2.1])), (a1, .inl (cI, 10, .inl x.2.2.2.2.2.2.2.2.1)), (a2, .inl (cI, 10, .inl x.2.2.2.2.2.2.2.2.2.1)), (a3, .inl (cI, 10, .inl x.2.2.2.2.2.2.2.2.2.2.1)), (a4, .inl (cI, 10, .inl x.2.2.2.2.2.2.2.2.2.2.2))]) (va_runS (As := [.int (zw_enc (x.2.2.2.2.2.2.2.2.2.2.1 (Int32.toNatClampNeg (zt_use x g1 g2 16))) g3)]) (rest := []) ⟨hx, hb, hml, hown, hts⟩ (kt_answered l D cI cZ (zw_enc (x.2.2.2.2.2.2.2.2.2.2.1 (Int32.toNatClampNeg (zt_use x g1 g2 16))) g3) _) ⟨(callB_of 1 hts gd_yT_answered rfl rfl rfl (hts _ mw24) (hts _ mw228) (by decide +kernel) ⟨Nat.le_of_ble_eq_true rfl, Nat.le_of_ble_eq_true rfl⟩), hts _ mw229⟩ (kpreS hNw hP hD hK [] rfl (by decide)) rfl rfl hl.1 rfl (lv_room (Nat.le_of_ble_eq_true rfl)) dT_encrypt_35 ⟨Nat.le_of_ble_eq_true rfl, Nat.le_of_ble_eq_true rfl⟩) hP hD hS hA [0, 1, 2, 3, 4, 5, 6, 7] rfl rfl (by decide) (by decide) (by decide) rfl (fun H locs hP hD hS => ?_)
    exact kretL (by first | (rw [zt_encrypt, if_pos h1]; done) | exact (if_pos h1)) hx hb hr hlk hS hP hD hK dT_encrypt_38
  ·
    refine lv_iload hx hb dT_encrypt_15 (lv_at hl 0 rfl) ?_
    refine lv_i2l (v := (Int32.toInt64 (zt_use x g1 g2 16))) hx hb dT_encrypt_17 rfl ?_
    refine lv_goto hx hb dT_encrypt_18 (tgt := 38) (by decide) ?_
    exact kretL (by first | (rw [zt_encrypt, if_neg h1]; done) | exact (if_neg h1)) hx hb hr hlk hS hP hD hK dT_encrypt_38

def zt_decrypt (x : XS) (g1 : Int32) (g2 : Int32) (g3 : Int32) : Int64 := (if 0 ≤ (zt_use x g1 g2 32) then (zt_answered (zw_dec (x.2.2.2.2.2.2.2.2.2.2.1 (Int32.toNatClampNeg (zt_use x g1 g2 32))) g3)) else (Int32.toInt64 (zt_use x g1 g2 32)))

set_option maxHeartbeats 4000000 in
set_option maxRecDepth 100000 in
theorem kt_decrypt (l : Launch) (D : va_G) (cI cZ : ClassId) (ao au af ak a1 a2 a3 a4 : Nat) (x : XS) (g1 : Int32) (g2 : Int32) (g3 : Int32) (hn : x.2.2.2.2.2.2.1 ≤ 10) : kL l yT_decrypt wsT_decrypt (rmOf 4 90) D (kT cI cZ) [.ref ao, .int g1, .int g2, .int g3] (wX cI ao au af ak a1 a2 a3 a4 x) (zt_decrypt x g1 g2 g3) (wX cI ao au af ak a1 a2 a3 a4 x) := by
  intro sz
  refine kOf (Qc := fun A => kQl D (kT cI cZ) A (zt_decrypt x g1 g2 g3) (wX cI ao au af ak a1 a2 a3 a4 x)) (cc := cT_decrypt) (maxL := 5) (ret := some .long) (by decide) rfl (Nat.le_of_ble_eq_true rfl) ?_ sz
  intro p e s m args below meth c A ls hx hb hml hown hts hNw hr hlk hin hA hS hP hD hK hl
  show W p l e (rmOf 4 90) s m args below meth c s.heap [] 0 0 (MQ below (kQl D (kT cI cZ) A (zt_decrypt x g1 g2 g3) (wX cI ao au af ak a1 a2 a3 a4 x)) args s 0 0 A) (F0 m 0 ls [])
  have hts : ∀ q ∈ lw_g, q.before args s = true := fun q h => hts q (List.mem_cons_of_mem _ h)
  have hown : s.vm.findClass cnT = some m.cls := hown
  have hl : lv_has ls 5 [(0, .ref ao), (1, .int g1), (2, .int g2), (3, .int g3)] := hl
  have hP : va_P D vwCl [(ao, .inr (0, [.ref au, .ref af, .ref ak, .int x.2.2.1, .int x.2.2.2.1, .int x.2.2.2.2.1, .int x.2.2.2.2.2.1])), (au, .inr (1, [.int x.1.1, .int x.1.2])), (af, .inr (1, [.int x.2.1.1, .int x.2.1.2])), (ak, .inr (2, [.ref a1, .ref a2, .ref a3, .ref a4, .int (nI x.2.2.2.2.2.2.1), .int x.2.2.2.2.2.2.2.1])), (a1, .inl (cI, 10, .inl x.2.2.2.2.2.2.2.2.1)), (a2, .inl (cI, 10, .inl x.2.2.2.2.2.2.2.2.2.1)), (a3, .inl (cI, 10, .inl x.2.2.2.2.2.2.2.2.2.2.1)), (a4, .inl (cI, 10, .inl x.2.2.2.2.2.2.2.2.2.2.2))] s.heap := hP
  have hD : va_D A [(ao, .inr (0, [.ref au, .ref af, .ref ak, .int x.2.2.1, .int x.2.2.2.1, .int x.2.2.2.2.1, .int x.2.2.2.2.2.1])), (au, .inr (1, [.int x.1.1, .int x.1.2])), (af, .inr (1, [.int x.2.1.1, .int x.2.1.2])), (ak, .inr (2, [.ref a1, .ref a2, .ref a3, .ref a4, .int (nI x.2.2.2.2.2.2.1), .int x.2.2.2.2.2.2.2.1])), (a1, .inl (cI, 10, .inl x.2.2.2.2.2.2.2.2.1)), (a2, .inl (cI, 10, .inl x.2.2.2.2.2.2.2.2.2.1)), (a3, .inl (cI, 10, .inl x.2.2.2.2.2.2.2.2.2.2.1)), (a4, .inl (cI, 10, .inl x.2.2.2.2.2.2.2.2.2.2.2))] := hD
  refine lv_aload_n hx hb dT_decrypt_0 rfl (lv_at hl 0 rfl) ?_
  refine lv_iload_n hx hb dT_decrypt_1 rfl (lv_at hl 1 rfl) ?_
  refine lv_iload_n hx hb dT_decrypt_2 rfl (lv_at hl 2 rfl) ?_
  refine lv_bipush (v := 32) hx hb dT_decrypt_3 (by decide) ?_
  refine kcI (isR := []) (isC := [0, 1, 2, 3, 4, 5, 6, 7]) (wr := []) (w2 := [(ao, .inr (0, [.ref au, .ref af, .ref ak, .int x.2.2.1, .int x.2.2.2.1, .int x.2.2.2.2.1, .int x.2.2.2.2.2.1])), (au, .inr (1, [.int x.1.1, .int x.1.2])), (af, .inr (1, [.int x.2.1.1, .int x.2.1.2])), (ak, .inr (2, [.ref a1, .ref a2, .ref a3, .ref a4, .int (nI x.2.2.2.2.2.2.1), .int x.2.2.2.2.2.2.2.1])), (a1, .inl (cI, 10, .inl x.2.2.2.2.2.2.2.2.1)), (a2, .inl (cI, 10, .inl x.2.2.2.2.2.2.2.2.2.1)), (a3, .inl (cI, 10, .inl x.2.2.2.2.2.2.2.2.2.2.1)), (a4, .inl (cI, 10, .inl x.2.2.2.2.2.2.2.2.2.2.2))]) (va_runV (As := [.int g1, .int g2, .int 32]) (rest := []) ⟨hx, hb, hml, hown, hts⟩ (kt_use l D cI cZ ao au af ak a1 a2 a3 a4 x g1 g2 32 (hn) _) ⟨(callB_of 3 hts gd_yT_rowForUse rfl rfl rfl (hts _ mw24) (hts _ mw236) (by decide +kernel) ⟨Nat.le_of_ble_eq_true rfl, Nat.le_of_ble_eq_true rfl⟩), hts _ mw238, hts _ mw14⟩ (kpreV hNw hP hD hK [0, 1, 2, 3, 4, 5, 6, 7] rfl (by decide) 0 rfl (ci := 0) rfl) rfl rfl hl.1 rfl (lv_room (Nat.le_of_ble_eq_true rfl)) dT_decrypt_5 ⟨Nat.le_of_ble_eq_true rfl, Nat.le_of_ble_eq_true rfl⟩) hP hD hS hA [0, 1, 2, 3, 4, 5, 6, 7] rfl rfl (by decide) (by decide) (by decide) rfl (fun H locs hP hD hS => ?_)
  refine lv_istore hx hb dT_decrypt_8 hl (by decide) rfl (fun ls hl => ?_)
  have hl : lv_has ls 5 [(4, .int (zt_use x g1 g2 32)), (0, .ref ao), (1, .int g1), (2, .int g2), (3, .int g3)] := hl
  refine lv_iload hx hb dT_decrypt_10 (lv_at hl 0 rfl) ?_
  refine lv_if_ge (tgt := 21) hx hb dT_decrypt_12 (by decide) (fun h1 => ?_) (fun h1 => ?_)
  ·
    refine lv_aload_n hx hb dT_decrypt_21 rfl (lv_at hl 1 rfl) ?_
    refine va_get (D := D) (ci := 0) (v := .ref ak) (C := cnT) (T := ftT) (N := 7) hx hb hts inT hown hK hP 0 rfl rfl 2 (by decide) (hts _ mw84) (fun _ h9 => h9) rfl dT_decrypt_22 ?_
    refine va_getN (D := D) (ci := 2) (v := .ref a3) (C := cnK) (T := ftK) (N := 6) hx hb hts inK hown hK hP 3 rfl rfl 2 (by decide) (va_Nw.use rfl (hNw _ mw62)) (fun _ h9 => h9) rfl dT_decrypt_25 ?_
    refine lv_iload hx hb dT_decrypt_28 (lv_at hl 0 rfl) ?_
    refine va_iald hx hb hK hP 6 0 rfl rfl (zt_use_in hn h1) dT_decrypt_30 ?_
    refine lv_iload_n hx hb dT_decrypt_31 rfl (lv_at hl 4 rfl) ?_
    refine kcI (isR := [0, 1, 2, 3, 4, 5, 6, 7]) (isC := []) (wr := [(ao, .inr (0, [.ref au, .ref af, .ref ak, .int x.2.2.1, .int x.2.2.2.1, .int x.2.2.2.2.1, .int x.2.2.2.2.2.1])), (au, .inr (1, [.int x.1.1, .int x.1.2])), (af, .inr (1, [.int x.2.1.1, .int x.2.1.2])), (ak, .inr (2, [.ref a1, .ref a2, .ref a3, .ref a4, .int (nI x.2.2.2.2.2.2.1), .int x.2.2.2.2.2.2.2.1])), (a1, .inl (cI, 10, .inl x.2.2.2.2.2.2.2.2.1)), (a2, .inl (cI, 10, .inl x.2.2.2.2.2.2.2.2.2.1)), (a3, .inl (cI, 10, .inl x.2.2.2.2.2.2.2.2.2.2.1)), (a4, .inl (cI, 10, .inl x.2.2.2.2.2.2.2.2.2.2.2))]) (w2 := [(ao, .inr (0, [.ref au, .ref af, .ref ak, .int x.2.2.1, .int x.2.2.2.1, .int x.2.2.2.2.1, .int x.2.2.2.2.2.1])), (au, .inr (1, [.int x.1.1, .int x.1.2])), (af, .inr (1, [.int x.2.1.1, .int x.2.1.2])), (ak, .inr (2, [.ref a1, .ref a2, .ref a3, .ref a4, .int (nI x.2.2.2.2.2.2.1), .int x.2.2.2.2.2.2.2.1])), (a1, .inl (cI, 10, .inl x.2.2.2.2.2.2.2.2.1)), (a2, .inl (cI, 10, .inl x.2.2.2.2.2.2.2.2.2.1)), (a3, .inl (cI, 10, .inl x.2.2.2.2.2.2.2.2.2.2.1)), (a4, .inl (cI, 10, .inl x.2.2.2.2.2.2.2.2.2.2.2))]) (va_runSN (As := [.int (x.2.2.2.2.2.2.2.2.2.2.1 (Int32.toNatClampNeg (zt_use x g1 g2 32))), .int g3]) (rest := []) ⟨hx, hb, hml, hown, hts⟩ (kw_dec l D cI cZ (x.2.2.2.2.2.2.2.2.2.2.1 (Int32.toNatClampNeg (zt_use x g1 g2 32))) g3 _) ⟨(va_cnB 2 hts gd_yW_dec rfl rfl rfl (hNw _ mw253) (hts _ mw28) (by decide +kernel) ⟨Nat.le_of_ble_eq_true rfl, Nat.le_of_ble_eq_true rfl⟩), hts _ mw254, trivial⟩ (kpreS hNw hP hD hK [] rfl (by decide)) rfl rfl hl.1 rfl (lv_room (Nat.le_of_ble_eq_true rfl)) dT_decrypt_32 ⟨Nat.le_of_ble_eq_true rfl, Nat.le_of_ble_eq_true rfl⟩) hP hD hS hA [0, 1, 2, 3, 4, 5, 6, 7] rfl rfl (by decide) (by decide) (by decide) rfl (fun H locs hP hD hS => ?_)
    refine kcL (isR := [0, 1, 2, 3, 4, 5, 6, 7]) (isC := []) (wr := [(ao, .inr (0, [.ref au, .ref af, .ref ak, .int x.2.2.1, .int x.2.2.2.1, .int x.2.2.2.2.1, .int x.2.2.2.2.2.1])), (au, .inr (1, [.int x.1.1, .int x.1.2])), (af, .inr (1, [.int x.2.1.1, .int x.2.1.2])), (ak, .inr (2, [.ref a1, .ref a2, .ref a3, .ref a4, .int (nI x.2.2.2.2.2.2.1), .int x.2.2.2.2.2.2.2.1])), (a1, .inl (cI, 10, .inl x.2.2.2.2.2.2.2.2.1)), (a2, .inl (cI, 10, .inl x.2.2.2.2.2.2.2.2.2.1)), (a3, .inl (cI, 10, .inl x.2.2.2.2.2.2.2.2.2.2.1)), (a4, .inl (cI, 10, .inl x.2.2.2.2.2.2.2.2.2.2.2))]) (w2 := [(ao, .inr (0, [.ref au, .ref af, .ref ak, .int x.2.2.1, .int x.2.2.2.1, .int x.2.2.2.2.1, .int x.2.2.2.2.2.1])), (au, .inr (1, [.int x.1.1, .int x.1.2])), (af, .inr (1, [.int x.2.1.1, .int x.2.1.2])), (ak, .inr (2, [.ref a1, .ref a2, .ref a3, .ref a4, .int (nI x.2.2.2.2.2.2.1), .int x.2.2.2.2.2.2.2.1])), (a1, .inl (cI, 10, .inl x.2.2.2.2.2.2.2.2.1)), (a2, .inl (cI, 10, .inl x.2.2.2.2.2.2.2.2.2.1)), (a3, .inl (cI, 10, .inl x.2.2.2.2.2.2.2.2.2.2.1)), (a4, .inl (cI, 10, .inl x.2.2.2.2.2.2.2.2.2.2.2))]) (va_runS (As := [.int (zw_dec (x.2.2.2.2.2.2.2.2.2.2.1 (Int32.toNatClampNeg (zt_use x g1 g2 32))) g3)]) (rest := []) ⟨hx, hb, hml, hown, hts⟩ (kt_answered l D cI cZ (zw_dec (x.2.2.2.2.2.2.2.2.2.2.1 (Int32.toNatClampNeg (zt_use x g1 g2 32))) g3) _) ⟨(callB_of 1 hts gd_yT_answered rfl rfl rfl (hts _ mw24) (hts _ mw228) (by decide +kernel) ⟨Nat.le_of_ble_eq_true rfl, Nat.le_of_ble_eq_true rfl⟩), hts _ mw229⟩ (kpreS hNw hP hD hK [] rfl (by decide)) rfl rfl hl.1 rfl (lv_room (Nat.le_of_ble_eq_true rfl)) dT_decrypt_35 ⟨Nat.le_of_ble_eq_true rfl, Nat.le_of_ble_eq_true rfl⟩) hP hD hS hA [0, 1, 2, 3, 4, 5, 6, 7] rfl rfl (by decide) (by decide) (by decide) rfl (fun H locs hP hD hS => ?_)
    exact kretL (by first | (rw [zt_decrypt, if_pos h1]; done) | exact (if_pos h1)) hx hb hr hlk hS hP hD hK dT_decrypt_38
  ·
    refine lv_iload hx hb dT_decrypt_15 (lv_at hl 0 rfl) ?_
    refine lv_i2l (v := (Int32.toInt64 (zt_use x g1 g2 32))) hx hb dT_decrypt_17 rfl ?_
    refine lv_goto hx hb dT_decrypt_18 (tgt := 38) (by decide) ?_
    exact kretL (by first | (rw [zt_decrypt, if_neg h1]; done) | exact (if_neg h1)) hx hb hr hlk hS hP hD hK dT_decrypt_38

def zt_sign (x : XS) (g1 : Int32) (g2 : Int32) (g3 : Int32) : Int64 := (if 0 ≤ (zt_use x g1 g2 64) then (zt_answered (zw_mac (x.2.2.2.2.2.2.2.2.2.2.1 (Int32.toNatClampNeg (zt_use x g1 g2 64))) g3)) else (Int32.toInt64 (zt_use x g1 g2 64)))

set_option maxHeartbeats 4000000 in
set_option maxRecDepth 100000 in
theorem kt_sign (l : Launch) (D : va_G) (cI cZ : ClassId) (ao au af ak a1 a2 a3 a4 : Nat) (x : XS) (g1 : Int32) (g2 : Int32) (g3 : Int32) (hn : x.2.2.2.2.2.2.1 ≤ 10) : kL l yT_sign wsT_sign (rmOf 4 90) D (kT cI cZ) [.ref ao, .int g1, .int g2, .int g3] (wX cI ao au af ak a1 a2 a3 a4 x) (zt_sign x g1 g2 g3) (wX cI ao au af ak a1 a2 a3 a4 x) := by
  intro sz
  refine kOf (Qc := fun A => kQl D (kT cI cZ) A (zt_sign x g1 g2 g3) (wX cI ao au af ak a1 a2 a3 a4 x)) (cc := cT_sign) (maxL := 5) (ret := some .long) (by decide) rfl (Nat.le_of_ble_eq_true rfl) ?_ sz
  intro p e s m args below meth c A ls hx hb hml hown hts hNw hr hlk hin hA hS hP hD hK hl
  show W p l e (rmOf 4 90) s m args below meth c s.heap [] 0 0 (MQ below (kQl D (kT cI cZ) A (zt_sign x g1 g2 g3) (wX cI ao au af ak a1 a2 a3 a4 x)) args s 0 0 A) (F0 m 0 ls [])
  have hts : ∀ q ∈ lw_g, q.before args s = true := fun q h => hts q (List.mem_cons_of_mem _ h)
  have hown : s.vm.findClass cnT = some m.cls := hown
  have hl : lv_has ls 5 [(0, .ref ao), (1, .int g1), (2, .int g2), (3, .int g3)] := hl
  have hP : va_P D vwCl [(ao, .inr (0, [.ref au, .ref af, .ref ak, .int x.2.2.1, .int x.2.2.2.1, .int x.2.2.2.2.1, .int x.2.2.2.2.2.1])), (au, .inr (1, [.int x.1.1, .int x.1.2])), (af, .inr (1, [.int x.2.1.1, .int x.2.1.2])), (ak, .inr (2, [.ref a1, .ref a2, .ref a3, .ref a4, .int (nI x.2.2.2.2.2.2.1), .int x.2.2.2.2.2.2.2.1])), (a1, .inl (cI, 10, .inl x.2.2.2.2.2.2.2.2.1)), (a2, .inl (cI, 10, .inl x.2.2.2.2.2.2.2.2.2.1)), (a3, .inl (cI, 10, .inl x.2.2.2.2.2.2.2.2.2.2.1)), (a4, .inl (cI, 10, .inl x.2.2.2.2.2.2.2.2.2.2.2))] s.heap := hP
  have hD : va_D A [(ao, .inr (0, [.ref au, .ref af, .ref ak, .int x.2.2.1, .int x.2.2.2.1, .int x.2.2.2.2.1, .int x.2.2.2.2.2.1])), (au, .inr (1, [.int x.1.1, .int x.1.2])), (af, .inr (1, [.int x.2.1.1, .int x.2.1.2])), (ak, .inr (2, [.ref a1, .ref a2, .ref a3, .ref a4, .int (nI x.2.2.2.2.2.2.1), .int x.2.2.2.2.2.2.2.1])), (a1, .inl (cI, 10, .inl x.2.2.2.2.2.2.2.2.1)), (a2, .inl (cI, 10, .inl x.2.2.2.2.2.2.2.2.2.1)), (a3, .inl (cI, 10, .inl x.2.2.2.2.2.2.2.2.2.2.1)), (a4, .inl (cI, 10, .inl x.2.2.2.2.2.2.2.2.2.2.2))] := hD
  refine lv_aload_n hx hb dT_sign_0 rfl (lv_at hl 0 rfl) ?_
  refine lv_iload_n hx hb dT_sign_1 rfl (lv_at hl 1 rfl) ?_
  refine lv_iload_n hx hb dT_sign_2 rfl (lv_at hl 2 rfl) ?_
  refine lv_bipush (v := 64) hx hb dT_sign_3 (by decide) ?_
  refine kcI (isR := []) (isC := [0, 1, 2, 3, 4, 5, 6, 7]) (wr := []) (w2 := [(ao, .inr (0, [.ref au, .ref af, .ref ak, .int x.2.2.1, .int x.2.2.2.1, .int x.2.2.2.2.1, .int x.2.2.2.2.2.1])), (au, .inr (1, [.int x.1.1, .int x.1.2])), (af, .inr (1, [.int x.2.1.1, .int x.2.1.2])), (ak, .inr (2, [.ref a1, .ref a2, .ref a3, .ref a4, .int (nI x.2.2.2.2.2.2.1), .int x.2.2.2.2.2.2.2.1])), (a1, .inl (cI, 10, .inl x.2.2.2.2.2.2.2.2.1)), (a2, .inl (cI, 10, .inl x.2.2.2.2.2.2.2.2.2.1)), (a3, .inl (cI, 10, .inl x.2.2.2.2.2.2.2.2.2.2.1)), (a4, .inl (cI, 10, .inl x.2.2.2.2.2.2.2.2.2.2.2))]) (va_runV (As := [.int g1, .int g2, .int 64]) (rest := []) ⟨hx, hb, hml, hown, hts⟩ (kt_use l D cI cZ ao au af ak a1 a2 a3 a4 x g1 g2 64 (hn) _) ⟨(callB_of 3 hts gd_yT_rowForUse rfl rfl rfl (hts _ mw24) (hts _ mw236) (by decide +kernel) ⟨Nat.le_of_ble_eq_true rfl, Nat.le_of_ble_eq_true rfl⟩), hts _ mw238, hts _ mw14⟩ (kpreV hNw hP hD hK [0, 1, 2, 3, 4, 5, 6, 7] rfl (by decide) 0 rfl (ci := 0) rfl) rfl rfl hl.1 rfl (lv_room (Nat.le_of_ble_eq_true rfl)) dT_sign_5 ⟨Nat.le_of_ble_eq_true rfl, Nat.le_of_ble_eq_true rfl⟩) hP hD hS hA [0, 1, 2, 3, 4, 5, 6, 7] rfl rfl (by decide) (by decide) (by decide) rfl (fun H locs hP hD hS => ?_)
  refine lv_istore hx hb dT_sign_8 hl (by decide) rfl (fun ls hl => ?_)
  have hl : lv_has ls 5 [(4, .int (zt_use x g1 g2 64)), (0, .ref ao), (1, .int g1), (2, .int g2), (3, .int g3)] := hl
  refine lv_iload hx hb dT_sign_10 (lv_at hl 0 rfl) ?_
  refine lv_if_ge (tgt := 21) hx hb dT_sign_12 (by decide) (fun h1 => ?_) (fun h1 => ?_)
  ·
    refine lv_aload_n hx hb dT_sign_21 rfl (lv_at hl 1 rfl) ?_
    refine va_get (D := D) (ci := 0) (v := .ref ak) (C := cnT) (T := ftT) (N := 7) hx hb hts inT hown hK hP 0 rfl rfl 2 (by decide) (hts _ mw84) (fun _ h9 => h9) rfl dT_sign_22 ?_
    refine va_getN (D := D) (ci := 2) (v := .ref a3) (C := cnK) (T := ftK) (N := 6) hx hb hts inK hown hK hP 3 rfl rfl 2 (by decide) (va_Nw.use rfl (hNw _ mw62)) (fun _ h9 => h9) rfl dT_sign_25 ?_
    refine lv_iload hx hb dT_sign_28 (lv_at hl 0 rfl) ?_
    refine va_iald hx hb hK hP 6 0 rfl rfl (zt_use_in hn h1) dT_sign_30 ?_
    refine lv_iload_n hx hb dT_sign_31 rfl (lv_at hl 4 rfl) ?_
    refine kcI (isR := [0, 1, 2, 3, 4, 5, 6, 7]) (isC := []) (wr := [(ao, .inr (0, [.ref au, .ref af, .ref ak, .int x.2.2.1, .int x.2.2.2.1, .int x.2.2.2.2.1, .int x.2.2.2.2.2.1])), (au, .inr (1, [.int x.1.1, .int x.1.2])), (af, .inr (1, [.int x.2.1.1, .int x.2.1.2])), (ak, .inr (2, [.ref a1, .ref a2, .ref a3, .ref a4, .int (nI x.2.2.2.2.2.2.1), .int x.2.2.2.2.2.2.2.1])), (a1, .inl (cI, 10, .inl x.2.2.2.2.2.2.2.2.1)), (a2, .inl (cI, 10, .inl x.2.2.2.2.2.2.2.2.2.1)), (a3, .inl (cI, 10, .inl x.2.2.2.2.2.2.2.2.2.2.1)), (a4, .inl (cI, 10, .inl x.2.2.2.2.2.2.2.2.2.2.2))]) (w2 := [(ao, .inr (0, [.ref au, .ref af, .ref ak, .int x.2.2.1, .int x.2.2.2.1, .int x.2.2.2.2.1, .int x.2.2.2.2.2.1])), (au, .inr (1, [.int x.1.1, .int x.1.2])), (af, .inr (1, [.int x.2.1.1, .int x.2.1.2])), (ak, .inr (2, [.ref a1, .ref a2, .ref a3, .ref a4, .int (nI x.2.2.2.2.2.2.1), .int x.2.2.2.2.2.2.2.1])), (a1, .inl (cI, 10, .inl x.2.2.2.2.2.2.2.2.1)), (a2, .inl (cI, 10, .inl x.2.2.2.2.2.2.2.2.2.1)), (a3, .inl (cI, 10, .inl x.2.2.2.2.2.2.2.2.2.2.1)), (a4, .inl (cI, 10, .inl x.2.2.2.2.2.2.2.2.2.2.2))]) (va_runSN (As := [.int (x.2.2.2.2.2.2.2.2.2.2.1 (Int32.toNatClampNeg (zt_use x g1 g2 64))), .int g3]) (rest := []) ⟨hx, hb, hml, hown, hts⟩ (kw_mac l D cI cZ (x.2.2.2.2.2.2.2.2.2.2.1 (Int32.toNatClampNeg (zt_use x g1 g2 64))) g3 _) ⟨(va_cnB 2 hts gd_yW_mac rfl rfl rfl (hNw _ mw179) (hts _ mw28) (by decide +kernel) ⟨Nat.le_of_ble_eq_true rfl, Nat.le_of_ble_eq_true rfl⟩), hts _ mw180, trivial⟩ (kpreS hNw hP hD hK [] rfl (by decide)) rfl rfl hl.1 rfl (lv_room (Nat.le_of_ble_eq_true rfl)) dT_sign_32 ⟨Nat.le_of_ble_eq_true rfl, Nat.le_of_ble_eq_true rfl⟩) hP hD hS hA [0, 1, 2, 3, 4, 5, 6, 7] rfl rfl (by decide) (by decide) (by decide) rfl (fun H locs hP hD hS => ?_)
    refine kcL (isR := [0, 1, 2, 3, 4, 5, 6, 7]) (isC := []) (wr := [(ao, .inr (0, [.ref au, .ref af, .ref ak, .int x.2.2.1, .int x.2.2.2.1, .int x.2.2.2.2.1, .int x.2.2.2.2.2.1])), (au, .inr (1, [.int x.1.1, .int x.1.2])), (af, .inr (1, [.int x.2.1.1, .int x.2.1.2])), (ak, .inr (2, [.ref a1, .ref a2, .ref a3, .ref a4, .int (nI x.2.2.2.2.2.2.1), .int x.2.2.2.2.2.2.2.1])), (a1, .inl (cI, 10, .inl x.2.2.2.2.2.2.2.2.1)), (a2, .inl (cI, 10, .inl x.2.2.2.2.2.2.2.2.2.1)), (a3, .inl (cI, 10, .inl x.2.2.2.2.2.2.2.2.2.2.1)), (a4, .inl (cI, 10, .inl x.2.2.2.2.2.2.2.2.2.2.2))]) (w2 := [(ao, .inr (0, [.ref au, .ref af, .ref ak, .int x.2.2.1, .int x.2.2.2.1, .int x.2.2.2.2.1, .int x.2.2.2.2.2.1])), (au, .inr (1, [.int x.1.1, .int x.1.2])), (af, .inr (1, [.int x.2.1.1, .int x.2.1.2])), (ak, .inr (2, [.ref a1, .ref a2, .ref a3, .ref a4, .int (nI x.2.2.2.2.2.2.1), .int x.2.2.2.2.2.2.2.1])), (a1, .inl (cI, 10, .inl x.2.2.2.2.2.2.2.2.1)), (a2, .inl (cI, 10, .inl x.2.2.2.2.2.2.2.2.2.1)), (a3, .inl (cI, 10, .inl x.2.2.2.2.2.2.2.2.2.2.1)), (a4, .inl (cI, 10, .inl x.2.2.2.2.2.2.2.2.2.2.2))]) (va_runS (As := [.int (zw_mac (x.2.2.2.2.2.2.2.2.2.2.1 (Int32.toNatClampNeg (zt_use x g1 g2 64))) g3)]) (rest := []) ⟨hx, hb, hml, hown, hts⟩ (kt_answered l D cI cZ (zw_mac (x.2.2.2.2.2.2.2.2.2.2.1 (Int32.toNatClampNeg (zt_use x g1 g2 64))) g3) _) ⟨(callB_of 1 hts gd_yT_answered rfl rfl rfl (hts _ mw24) (hts _ mw228) (by decide +kernel) ⟨Nat.le_of_ble_eq_true rfl, Nat.le_of_ble_eq_true rfl⟩), hts _ mw229⟩ (kpreS hNw hP hD hK [] rfl (by decide)) rfl rfl hl.1 rfl (lv_room (Nat.le_of_ble_eq_true rfl)) dT_sign_35 ⟨Nat.le_of_ble_eq_true rfl, Nat.le_of_ble_eq_true rfl⟩) hP hD hS hA [0, 1, 2, 3, 4, 5, 6, 7] rfl rfl (by decide) (by decide) (by decide) rfl (fun H locs hP hD hS => ?_)
    exact kretL (by first | (rw [zt_sign, if_pos h1]; done) | exact (if_pos h1)) hx hb hr hlk hS hP hD hK dT_sign_38
  ·
    refine lv_iload hx hb dT_sign_15 (lv_at hl 0 rfl) ?_
    refine lv_i2l (v := (Int32.toInt64 (zt_use x g1 g2 64))) hx hb dT_sign_17 rfl ?_
    refine lv_goto hx hb dT_sign_18 (tgt := 38) (by decide) ?_
    exact kretL (by first | (rw [zt_sign, if_neg h1]; done) | exact (if_neg h1)) hx hb hr hlk hS hP hD hK dT_sign_38

def zt_wrap (x : XS) (g1 : Int32) (g2 : Int32) (g3 : Int32) : Int64 := (if 0 ≤ (zt_row x g1 g2) then (if 0 ≤ (zt_row x g1 g3) then (if (if (zk_has x.2.2.2.2.2.2 (zt_row x g1 g2) 128) = 0 then (0 : Int32) else (if (zk_has x.2.2.2.2.2.2 (zt_row x g1 g2) 512) = 0 then (0 : Int32) else (1 : Int32))) = 0 then (-5) else (if (zk_has x.2.2.2.2.2.2 (zt_row x g1 g3) 8) = 0 then (-5) else ((zlshl (zt_tagOf (x.2.2.2.2.2.2.2.2.2.2.1 (Int32.toNatClampNeg (zt_row x g1 g2))) (x.2.2.2.2.2.2.2.2.2.2.1 (Int32.toNatClampNeg (zt_row x g1 g3)))) 32) + (zt_answered (zw_enc (x.2.2.2.2.2.2.2.2.2.2.1 (Int32.toNatClampNeg (zt_row x g1 g2))) (x.2.2.2.2.2.2.2.2.2.2.1 (Int32.toNatClampNeg (zt_row x g1 g3)))))))) else (Int32.toInt64 (zt_row x g1 g3))) else (Int32.toInt64 (zt_row x g1 g2)))

set_option maxHeartbeats 4000000 in
set_option maxRecDepth 100000 in
theorem kt_wrap (l : Launch) (D : va_G) (cI cZ : ClassId) (ao au af ak a1 a2 a3 a4 : Nat) (x : XS) (g1 : Int32) (g2 : Int32) (g3 : Int32) (hn : x.2.2.2.2.2.2.1 ≤ 10) : kL l yT_wrap wsT_wrap (rmOf 3 69) D (kT cI cZ) [.ref ao, .int g1, .int g2, .int g3] (wX cI ao au af ak a1 a2 a3 a4 x) (zt_wrap x g1 g2 g3) (wX cI ao au af ak a1 a2 a3 a4 x) := by
  intro sz
  refine kOf (Qc := fun A => kQl D (kT cI cZ) A (zt_wrap x g1 g2 g3) (wX cI ao au af ak a1 a2 a3 a4 x)) (cc := cT_wrap) (maxL := 9) (ret := some .long) (by decide) rfl (Nat.le_of_ble_eq_true rfl) ?_ sz
  intro p e s m args below meth c A ls hx hb hml hown hts hNw hr hlk hin hA hS hP hD hK hl
  show W p l e (rmOf 3 69) s m args below meth c s.heap [] 0 0 (MQ below (kQl D (kT cI cZ) A (zt_wrap x g1 g2 g3) (wX cI ao au af ak a1 a2 a3 a4 x)) args s 0 0 A) (F0 m 0 ls [])
  have hts : ∀ q ∈ lw_g, q.before args s = true := fun q h => hts q (List.mem_cons_of_mem _ h)
  have hown : s.vm.findClass cnT = some m.cls := hown
  have hl : lv_has ls 9 [(0, .ref ao), (1, .int g1), (2, .int g2), (3, .int g3)] := hl
  have hP : va_P D vwCl [(ao, .inr (0, [.ref au, .ref af, .ref ak, .int x.2.2.1, .int x.2.2.2.1, .int x.2.2.2.2.1, .int x.2.2.2.2.2.1])), (au, .inr (1, [.int x.1.1, .int x.1.2])), (af, .inr (1, [.int x.2.1.1, .int x.2.1.2])), (ak, .inr (2, [.ref a1, .ref a2, .ref a3, .ref a4, .int (nI x.2.2.2.2.2.2.1), .int x.2.2.2.2.2.2.2.1])), (a1, .inl (cI, 10, .inl x.2.2.2.2.2.2.2.2.1)), (a2, .inl (cI, 10, .inl x.2.2.2.2.2.2.2.2.2.1)), (a3, .inl (cI, 10, .inl x.2.2.2.2.2.2.2.2.2.2.1)), (a4, .inl (cI, 10, .inl x.2.2.2.2.2.2.2.2.2.2.2))] s.heap := hP
  have hD : va_D A [(ao, .inr (0, [.ref au, .ref af, .ref ak, .int x.2.2.1, .int x.2.2.2.1, .int x.2.2.2.2.1, .int x.2.2.2.2.2.1])), (au, .inr (1, [.int x.1.1, .int x.1.2])), (af, .inr (1, [.int x.2.1.1, .int x.2.1.2])), (ak, .inr (2, [.ref a1, .ref a2, .ref a3, .ref a4, .int (nI x.2.2.2.2.2.2.1), .int x.2.2.2.2.2.2.2.1])), (a1, .inl (cI, 10, .inl x.2.2.2.2.2.2.2.2.1)), (a2, .inl (cI, 10, .inl x.2.2.2.2.2.2.2.2.2.1)), (a3, .inl (cI, 10, .inl x.2.2.2.2.2.2.2.2.2.2.1)), (a4, .inl (cI, 10, .inl x.2.2.2.2.2.2.2.2.2.2.2))] := hD
  refine lv_aload_n hx hb dT_wrap_0 rfl (lv_at hl 0 rfl) ?_
  refine lv_iload_n hx hb dT_wrap_1 rfl (lv_at hl 1 rfl) ?_
  refine lv_iload_n hx hb dT_wrap_2 rfl (lv_at hl 2 rfl) ?_
  refine kcI (isR := []) (isC := [0, 1, 2, 3, 4, 5, 6, 7]) (wr := []) (w2 := [(ao, .inr (0, [.ref au, .ref af, .ref ak, .int x.2.2.1, .int x.2.2.2.1, .int x.2.2.2.2.1, .int x.2.2.2.2.2.1])), (au, .inr (1, [.int x.1.1, .int x.1.2])), (af, .inr (1, [.int x.2.1.1, .int x.2.1.2])), (ak, .inr (2, [.ref a1, .ref a2, .ref a3, .ref a4, .int (nI x.2.2.2.2.2.2.1), .int x.2.2.2.2.2.2.2.1])), (a1, .inl (cI, 10, .inl x.2.2.2.2.2.2.2.2.1)), (a2, .inl (cI, 10, .inl x.2.2.2.2.2.2.2.2.2.1)), (a3, .inl (cI, 10, .inl x.2.2.2.2.2.2.2.2.2.2.1)), (a4, .inl (cI, 10, .inl x.2.2.2.2.2.2.2.2.2.2.2))]) (va_runV (As := [.int g1, .int g2]) (rest := []) ⟨hx, hb, hml, hown, hts⟩ (kt_row l D cI cZ ao au af ak a1 a2 a3 a4 x g1 g2 (hn) _) ⟨(callB_of 2 hts gd_yT_rowOrRefusal rfl rfl rfl (hts _ mw24) (hts _ mw193) (by decide +kernel) ⟨Nat.le_of_ble_eq_true rfl, Nat.le_of_ble_eq_true rfl⟩), hts _ mw195, hts _ mw10⟩ (kpreV hNw hP hD hK [0, 1, 2, 3, 4, 5, 6, 7] rfl (by decide) 0 rfl (ci := 0) rfl) rfl rfl hl.1 rfl (lv_room (Nat.le_of_ble_eq_true rfl)) dT_wrap_3 ⟨Nat.le_of_ble_eq_true rfl, Nat.le_of_ble_eq_true rfl⟩) hP hD hS hA [0, 1, 2, 3, 4, 5, 6, 7] rfl rfl (by decide) (by decide) (by decide) rfl (fun H locs hP hD hS => ?_)
  refine lv_istore hx hb dT_wrap_6 hl (by decide) rfl (fun ls hl => ?_)
  have hl : lv_has ls 9 [(4, .int (zt_row x g1 g2)), (0, .ref ao), (1, .int g1), (2, .int g2), (3, .int g3)] := hl
  refine lv_iload hx hb dT_wrap_8 (lv_at hl 0 rfl) ?_
  refine lv_if_ge (tgt := 17) hx hb dT_wrap_10 (by decide) (fun h1 => ?_) (fun h1 => ?_)
  ·
    refine lv_aload_n hx hb dT_wrap_17 rfl (lv_at hl 1 rfl) ?_
    refine lv_iload_n hx hb dT_wrap_18 rfl (lv_at hl 2 rfl) ?_
    refine lv_iload_n hx hb dT_wrap_19 rfl (lv_at hl 4 rfl) ?_
    refine kcI (isR := []) (isC := [0, 1, 2, 3, 4, 5, 6, 7]) (wr := []) (w2 := [(ao, .inr (0, [.ref au, .ref af, .ref ak, .int x.2.2.1, .int x.2.2.2.1, .int x.2.2.2.2.1, .int x.2.2.2.2.2.1])), (au, .inr (1, [.int x.1.1, .int x.1.2])), (af, .inr (1, [.int x.2.1.1, .int x.2.1.2])), (ak, .inr (2, [.ref a1, .ref a2, .ref a3, .ref a4, .int (nI x.2.2.2.2.2.2.1), .int x.2.2.2.2.2.2.2.1])), (a1, .inl (cI, 10, .inl x.2.2.2.2.2.2.2.2.1)), (a2, .inl (cI, 10, .inl x.2.2.2.2.2.2.2.2.2.1)), (a3, .inl (cI, 10, .inl x.2.2.2.2.2.2.2.2.2.2.1)), (a4, .inl (cI, 10, .inl x.2.2.2.2.2.2.2.2.2.2.2))]) (va_runV (As := [.int g1, .int g3]) (rest := []) ⟨hx, hb, hml, hown, hts⟩ (kt_row l D cI cZ ao au af ak a1 a2 a3 a4 x g1 g3 (hn) _) ⟨(callB_of 2 hts gd_yT_rowOrRefusal rfl rfl rfl (hts _ mw24) (hts _ mw193) (by decide +kernel) ⟨Nat.le_of_ble_eq_true rfl, Nat.le_of_ble_eq_true rfl⟩), hts _ mw195, hts _ mw10⟩ (kpreV hNw hP hD hK [0, 1, 2, 3, 4, 5, 6, 7] rfl (by decide) 0 rfl (ci := 0) rfl) rfl rfl hl.1 rfl (lv_room (Nat.le_of_ble_eq_true rfl)) dT_wrap_20 ⟨Nat.le_of_ble_eq_true rfl, Nat.le_of_ble_eq_true rfl⟩) hP hD hS hA [0, 1, 2, 3, 4, 5, 6, 7] rfl rfl (by decide) (by decide) (by decide) rfl (fun H locs hP hD hS => ?_)
    refine lv_istore hx hb dT_wrap_23 hl (by decide) rfl (fun ls hl => ?_)
    have hl : lv_has ls 9 [(5, .int (zt_row x g1 g3)), (4, .int (zt_row x g1 g2)), (0, .ref ao), (1, .int g1), (2, .int g2), (3, .int g3)] := hl
    refine lv_iload hx hb dT_wrap_25 (lv_at hl 0 rfl) ?_
    refine lv_if_ge (tgt := 34) hx hb dT_wrap_27 (by decide) (fun h2 => ?_) (fun h2 => ?_)
    ·
      refine lv_aload_n hx hb dT_wrap_34 rfl (lv_at hl 2 rfl) ?_
      refine va_get (D := D) (ci := 0) (v := .ref ak) (C := cnT) (T := ftT) (N := 7) hx hb hts inT hown hK hP 0 rfl rfl 2 (by decide) (hts _ mw84) (fun _ h9 => h9) rfl dT_wrap_35 ?_
      refine lv_iload hx hb dT_wrap_38 (lv_at hl 1 rfl) ?_
      refine lv_sipush (v := 128) hx hb dT_wrap_40 (by decide) ?_
      refine kcI (isR := [0, 1, 2]) (isC := [3, 4, 5, 6, 7]) (wr := [(ao, .inr (0, [.ref au, .ref af, .ref ak, .int x.2.2.1, .int x.2.2.2.1, .int x.2.2.2.2.1, .int x.2.2.2.2.2.1])), (au, .inr (1, [.int x.1.1, .int x.1.2])), (af, .inr (1, [.int x.2.1.1, .int x.2.1.2]))]) (w2 := [(ao, .inr (0, [.ref au, .ref af, .ref ak, .int x.2.2.1, .int x.2.2.2.1, .int x.2.2.2.2.1, .int x.2.2.2.2.2.1])), (au, .inr (1, [.int x.1.1, .int x.1.2])), (af, .inr (1, [.int x.2.1.1, .int x.2.1.2])), (ak, .inr (2, [.ref a1, .ref a2, .ref a3, .ref a4, .int (nI x.2.2.2.2.2.2.1), .int x.2.2.2.2.2.2.2.1])), (a1, .inl (cI, 10, .inl x.2.2.2.2.2.2.2.2.1)), (a2, .inl (cI, 10, .inl x.2.2.2.2.2.2.2.2.2.1)), (a3, .inl (cI, 10, .inl x.2.2.2.2.2.2.2.2.2.2.1)), (a4, .inl (cI, 10, .inl x.2.2.2.2.2.2.2.2.2.2.2))]) (va_runVN (As := [.int (zt_row x g1 g2), .int 128]) (rest := []) ⟨hx, hb, hml, hown, hts⟩ (kk_has l D cI cZ ak a1 a2 a3 a4 x.2.2.2.2.2.2 (zt_row x g1 g2) 128 (hn) _) ⟨(va_cnB 2 hts gd_yK_has rfl rfl rfl (hNw _ mw205) (hts _ mw26) (by decide +kernel) ⟨Nat.le_of_ble_eq_true rfl, Nat.le_of_ble_eq_true rfl⟩), hts _ mw142, hts _ mw5⟩ (kpreV hNw hP hD hK [3, 4, 5, 6, 7] rfl (by decide) 3 rfl (ci := 2) rfl) rfl rfl hl.1 rfl (lv_room (Nat.le_of_ble_eq_true rfl)) dT_wrap_43 ⟨Nat.le_of_ble_eq_true rfl, Nat.le_of_ble_eq_true rfl⟩) hP hD hS hA [0, 1, 2, 3, 4, 5, 6, 7] rfl rfl (by decide) (by decide) (by decide) rfl (fun H locs hP hD hS => ?_)
      refine kJoin (pcJ := 69) (z := (if (zk_has x.2.2.2.2.2.2 (zt_row x g1 g2) 128) = 0 then (0 : Int32) else (if (zk_has x.2.2.2.2.2.2 (zt_row x g1 g2) 512) = 0 then (0 : Int32) else (1 : Int32)))) (ws := [(ao, .inr (0, [.ref au, .ref af, .ref ak, .int x.2.2.1, .int x.2.2.2.1, .int x.2.2.2.2.1, .int x.2.2.2.2.2.1])), (au, .inr (1, [.int x.1.1, .int x.1.2])), (af, .inr (1, [.int x.2.1.1, .int x.2.1.2])), (ak, .inr (2, [.ref a1, .ref a2, .ref a3, .ref a4, .int (nI x.2.2.2.2.2.2.1), .int x.2.2.2.2.2.2.2.1])), (a1, .inl (cI, 10, .inl x.2.2.2.2.2.2.2.2.1)), (a2, .inl (cI, 10, .inl x.2.2.2.2.2.2.2.2.2.1)), (a3, .inl (cI, 10, .inl x.2.2.2.2.2.2.2.2.2.2.1)), (a4, .inl (cI, 10, .inl x.2.2.2.2.2.2.2.2.2.2.2))]) (rest := []) (D := D) (A := A) (H0 := s.heap) (fun J69 => ?_) (fun H locs hP hD hS => ?_)
      ·
        refine lv_if_eq (tgt := 68) hx hb dT_wrap_46 (by decide) (fun h3 => ?_) (fun h3 => ?_)
        ·
          refine lv_iconst (v := 0) hx hb dT_wrap_68 (by decide) ?_
          exact J69 _ _ hP hD hS _ ((if_pos h3).symm)
        ·
          refine lv_aload_n hx hb dT_wrap_49 rfl (lv_at hl 2 rfl) ?_
          refine va_get (D := D) (ci := 0) (v := .ref ak) (C := cnT) (T := ftT) (N := 7) hx hb hts inT hown hK hP 0 rfl rfl 2 (by decide) (hts _ mw84) (fun _ h9 => h9) rfl dT_wrap_50 ?_
          refine lv_iload hx hb dT_wrap_53 (lv_at hl 1 rfl) ?_
          refine lv_sipush (v := 512) hx hb dT_wrap_55 (by decide) ?_
          refine kcI (isR := [0, 1, 2]) (isC := [3, 4, 5, 6, 7]) (wr := [(ao, .inr (0, [.ref au, .ref af, .ref ak, .int x.2.2.1, .int x.2.2.2.1, .int x.2.2.2.2.1, .int x.2.2.2.2.2.1])), (au, .inr (1, [.int x.1.1, .int x.1.2])), (af, .inr (1, [.int x.2.1.1, .int x.2.1.2]))]) (w2 := [(ao, .inr (0, [.ref au, .ref af, .ref ak, .int x.2.2.1, .int x.2.2.2.1, .int x.2.2.2.2.1, .int x.2.2.2.2.2.1])), (au, .inr (1, [.int x.1.1, .int x.1.2])), (af, .inr (1, [.int x.2.1.1, .int x.2.1.2])), (ak, .inr (2, [.ref a1, .ref a2, .ref a3, .ref a4, .int (nI x.2.2.2.2.2.2.1), .int x.2.2.2.2.2.2.2.1])), (a1, .inl (cI, 10, .inl x.2.2.2.2.2.2.2.2.1)), (a2, .inl (cI, 10, .inl x.2.2.2.2.2.2.2.2.2.1)), (a3, .inl (cI, 10, .inl x.2.2.2.2.2.2.2.2.2.2.1)), (a4, .inl (cI, 10, .inl x.2.2.2.2.2.2.2.2.2.2.2))]) (va_runVN (As := [.int (zt_row x g1 g2), .int 512]) (rest := []) ⟨hx, hb, hml, hown, hts⟩ (kk_has l D cI cZ ak a1 a2 a3 a4 x.2.2.2.2.2.2 (zt_row x g1 g2) 512 (hn) _) ⟨(va_cnB 2 hts gd_yK_has rfl rfl rfl (hNw _ mw205) (hts _ mw26) (by decide +kernel) ⟨Nat.le_of_ble_eq_true rfl, Nat.le_of_ble_eq_true rfl⟩), hts _ mw142, hts _ mw5⟩ (kpreV hNw hP hD hK [3, 4, 5, 6, 7] rfl (by decide) 3 rfl (ci := 2) rfl) rfl rfl hl.1 rfl (lv_room (Nat.le_of_ble_eq_true rfl)) dT_wrap_58 ⟨Nat.le_of_ble_eq_true rfl, Nat.le_of_ble_eq_true rfl⟩) hP hD hS hA [0, 1, 2, 3, 4, 5, 6, 7] rfl rfl (by decide) (by decide) (by decide) rfl (fun H locs hP hD hS => ?_)
          refine lv_if_eq (tgt := 68) hx hb dT_wrap_61 (by decide) (fun h4 => ?_) (fun h4 => ?_)
          ·
            refine lv_iconst (v := 0) hx hb dT_wrap_68 (by decide) ?_
            exact J69 _ _ hP hD hS _ (((if_neg h3).trans (if_pos h4)).symm)
          ·
            refine lv_iconst (v := 1) hx hb dT_wrap_64 (by decide) ?_
            refine lv_goto hx hb dT_wrap_65 (tgt := 69) (by decide) ?_
            exact J69 _ _ hP hD hS _ (((if_neg h3).trans (if_neg h4)).symm)
      refine lv_istore hx hb dT_wrap_69 hl (by decide) rfl (fun ls hl => ?_)
      have hl : lv_has ls 9 [(6, .int (if (zk_has x.2.2.2.2.2.2 (zt_row x g1 g2) 128) = 0 then (0 : Int32) else (if (zk_has x.2.2.2.2.2.2 (zt_row x g1 g2) 512) = 0 then (0 : Int32) else (1 : Int32)))), (5, .int (zt_row x g1 g3)), (4, .int (zt_row x g1 g2)), (0, .ref ao), (1, .int g1), (2, .int g2), (3, .int g3)] := hl
      refine lv_iload hx hb dT_wrap_71 (lv_at hl 0 rfl) ?_
      refine lv_if_eq (tgt := 90) hx hb dT_wrap_73 (by decide) (fun h5 => ?_) (fun h5 => ?_)
      ·
        refine lv_ldc2 (v := (-5)) hx hb hown (hts _ mw227) dT_wrap_90 ?_
        exact kretL (by first | (rw [zt_wrap, if_pos h1, if_pos h2, if_pos h5]; done) | exact ((if_pos h1).trans ((if_pos h2).trans (if_pos h5)))) hx hb hr hlk hS hP hD hK dT_wrap_93
      ·
        refine lv_aload_n hx hb dT_wrap_76 rfl (lv_at hl 3 rfl) ?_
        refine va_get (D := D) (ci := 0) (v := .ref ak) (C := cnT) (T := ftT) (N := 7) hx hb hts inT hown hK hP 0 rfl rfl 2 (by decide) (hts _ mw84) (fun _ h9 => h9) rfl dT_wrap_77 ?_
        refine lv_iload hx hb dT_wrap_80 (lv_at hl 1 rfl) ?_
        refine lv_bipush (v := 8) hx hb dT_wrap_82 (by decide) ?_
        refine kcI (isR := [0, 1, 2]) (isC := [3, 4, 5, 6, 7]) (wr := [(ao, .inr (0, [.ref au, .ref af, .ref ak, .int x.2.2.1, .int x.2.2.2.1, .int x.2.2.2.2.1, .int x.2.2.2.2.2.1])), (au, .inr (1, [.int x.1.1, .int x.1.2])), (af, .inr (1, [.int x.2.1.1, .int x.2.1.2]))]) (w2 := [(ao, .inr (0, [.ref au, .ref af, .ref ak, .int x.2.2.1, .int x.2.2.2.1, .int x.2.2.2.2.1, .int x.2.2.2.2.2.1])), (au, .inr (1, [.int x.1.1, .int x.1.2])), (af, .inr (1, [.int x.2.1.1, .int x.2.1.2])), (ak, .inr (2, [.ref a1, .ref a2, .ref a3, .ref a4, .int (nI x.2.2.2.2.2.2.1), .int x.2.2.2.2.2.2.2.1])), (a1, .inl (cI, 10, .inl x.2.2.2.2.2.2.2.2.1)), (a2, .inl (cI, 10, .inl x.2.2.2.2.2.2.2.2.2.1)), (a3, .inl (cI, 10, .inl x.2.2.2.2.2.2.2.2.2.2.1)), (a4, .inl (cI, 10, .inl x.2.2.2.2.2.2.2.2.2.2.2))]) (va_runVN (As := [.int (zt_row x g1 g3), .int 8]) (rest := []) ⟨hx, hb, hml, hown, hts⟩ (kk_has l D cI cZ ak a1 a2 a3 a4 x.2.2.2.2.2.2 (zt_row x g1 g3) 8 (hn) _) ⟨(va_cnB 2 hts gd_yK_has rfl rfl rfl (hNw _ mw205) (hts _ mw26) (by decide +kernel) ⟨Nat.le_of_ble_eq_true rfl, Nat.le_of_ble_eq_true rfl⟩), hts _ mw142, hts _ mw5⟩ (kpreV hNw hP hD hK [3, 4, 5, 6, 7] rfl (by decide) 3 rfl (ci := 2) rfl) rfl rfl hl.1 rfl (lv_room (Nat.le_of_ble_eq_true rfl)) dT_wrap_84 ⟨Nat.le_of_ble_eq_true rfl, Nat.le_of_ble_eq_true rfl⟩) hP hD hS hA [0, 1, 2, 3, 4, 5, 6, 7] rfl rfl (by decide) (by decide) (by decide) rfl (fun H locs hP hD hS => ?_)
        refine lv_if_ne (tgt := 94) hx hb dT_wrap_87 (by decide) (fun h6 => ?_) (fun h6 => ?_)
        ·
          refine lv_aload_n hx hb dT_wrap_94 rfl (lv_at hl 3 rfl) ?_
          refine va_get (D := D) (ci := 0) (v := .ref ak) (C := cnT) (T := ftT) (N := 7) hx hb hts inT hown hK hP 0 rfl rfl 2 (by decide) (hts _ mw84) (fun _ h9 => h9) rfl dT_wrap_95 ?_
          refine va_getN (D := D) (ci := 2) (v := .ref a3) (C := cnK) (T := ftK) (N := 6) hx hb hts inK hown hK hP 3 rfl rfl 2 (by decide) (va_Nw.use rfl (hNw _ mw62)) (fun _ h9 => h9) rfl dT_wrap_98 ?_
          refine lv_iload hx hb dT_wrap_101 (lv_at hl 2 rfl) ?_
          refine va_iald hx hb hK hP 6 0 rfl rfl (zt_row_in hn h1) dT_wrap_103 ?_
          refine lv_istore hx hb dT_wrap_104 hl (by decide) rfl (fun ls hl => ?_)
          have hl : lv_has ls 9 [(7, .int (x.2.2.2.2.2.2.2.2.2.2.1 (Int32.toNatClampNeg (zt_row x g1 g2)))), (6, .int (if (zk_has x.2.2.2.2.2.2 (zt_row x g1 g2) 128) = 0 then (0 : Int32) else (if (zk_has x.2.2.2.2.2.2 (zt_row x g1 g2) 512) = 0 then (0 : Int32) else (1 : Int32)))), (5, .int (zt_row x g1 g3)), (4, .int (zt_row x g1 g2)), (0, .ref ao), (1, .int g1), (2, .int g2), (3, .int g3)] := hl
          refine lv_aload_n hx hb dT_wrap_106 rfl (lv_at hl 4 rfl) ?_
          refine va_get (D := D) (ci := 0) (v := .ref ak) (C := cnT) (T := ftT) (N := 7) hx hb hts inT hown hK hP 0 rfl rfl 2 (by decide) (hts _ mw84) (fun _ h9 => h9) rfl dT_wrap_107 ?_
          refine va_getN (D := D) (ci := 2) (v := .ref a3) (C := cnK) (T := ftK) (N := 6) hx hb hts inK hown hK hP 3 rfl rfl 2 (by decide) (va_Nw.use rfl (hNw _ mw62)) (fun _ h9 => h9) rfl dT_wrap_110 ?_
          refine lv_iload hx hb dT_wrap_113 (lv_at hl 2 rfl) ?_
          refine va_iald hx hb hK hP 6 0 rfl rfl (zt_row_in hn h2) dT_wrap_115 ?_
          refine lv_istore hx hb dT_wrap_116 hl (by decide) rfl (fun ls hl => ?_)
          have hl : lv_has ls 9 [(8, .int (x.2.2.2.2.2.2.2.2.2.2.1 (Int32.toNatClampNeg (zt_row x g1 g3)))), (7, .int (x.2.2.2.2.2.2.2.2.2.2.1 (Int32.toNatClampNeg (zt_row x g1 g2)))), (6, .int (if (zk_has x.2.2.2.2.2.2 (zt_row x g1 g2) 128) = 0 then (0 : Int32) else (if (zk_has x.2.2.2.2.2.2 (zt_row x g1 g2) 512) = 0 then (0 : Int32) else (1 : Int32)))), (5, .int (zt_row x g1 g3)), (4, .int (zt_row x g1 g2)), (0, .ref ao), (1, .int g1), (2, .int g2), (3, .int g3)] := hl
          refine lv_iload hx hb dT_wrap_118 (lv_at hl 1 rfl) ?_
          refine lv_iload hx hb dT_wrap_120 (lv_at hl 0 rfl) ?_
          refine kcL (isR := [0, 1, 2, 3, 4, 5, 6, 7]) (isC := []) (wr := [(ao, .inr (0, [.ref au, .ref af, .ref ak, .int x.2.2.1, .int x.2.2.2.1, .int x.2.2.2.2.1, .int x.2.2.2.2.2.1])), (au, .inr (1, [.int x.1.1, .int x.1.2])), (af, .inr (1, [.int x.2.1.1, .int x.2.1.2])), (ak, .inr (2, [.ref a1, .ref a2, .ref a3, .ref a4, .int (nI x.2.2.2.2.2.2.1), .int x.2.2.2.2.2.2.2.1])), (a1, .inl (cI, 10, .inl x.2.2.2.2.2.2.2.2.1)), (a2, .inl (cI, 10, .inl x.2.2.2.2.2.2.2.2.2.1)), (a3, .inl (cI, 10, .inl x.2.2.2.2.2.2.2.2.2.2.1)), (a4, .inl (cI, 10, .inl x.2.2.2.2.2.2.2.2.2.2.2))]) (w2 := [(ao, .inr (0, [.ref au, .ref af, .ref ak, .int x.2.2.1, .int x.2.2.2.1, .int x.2.2.2.2.1, .int x.2.2.2.2.2.1])), (au, .inr (1, [.int x.1.1, .int x.1.2])), (af, .inr (1, [.int x.2.1.1, .int x.2.1.2])), (ak, .inr (2, [.ref a1, .ref a2, .ref a3, .ref a4, .int (nI x.2.2.2.2.2.2.1), .int x.2.2.2.2.2.2.2.1])), (a1, .inl (cI, 10, .inl x.2.2.2.2.2.2.2.2.1)), (a2, .inl (cI, 10, .inl x.2.2.2.2.2.2.2.2.2.1)), (a3, .inl (cI, 10, .inl x.2.2.2.2.2.2.2.2.2.2.1)), (a4, .inl (cI, 10, .inl x.2.2.2.2.2.2.2.2.2.2.2))]) (va_runS (As := [.int (x.2.2.2.2.2.2.2.2.2.2.1 (Int32.toNatClampNeg (zt_row x g1 g2))), .int (x.2.2.2.2.2.2.2.2.2.2.1 (Int32.toNatClampNeg (zt_row x g1 g3)))]) (rest := []) ⟨hx, hb, hml, hown, hts⟩ (kt_tagOf l D cI cZ (x.2.2.2.2.2.2.2.2.2.2.1 (Int32.toNatClampNeg (zt_row x g1 g2))) (x.2.2.2.2.2.2.2.2.2.2.1 (Int32.toNatClampNeg (zt_row x g1 g3))) _) ⟨(callB_of 2 hts gd_yT_tagOf rfl rfl rfl (hts _ mw24) (hts _ mw264) (by decide +kernel) ⟨Nat.le_of_ble_eq_true rfl, Nat.le_of_ble_eq_true rfl⟩), hts _ mw265⟩ (kpreS hNw hP hD hK [] rfl (by decide)) rfl rfl hl.1 rfl (lv_room (Nat.le_of_ble_eq_true rfl)) dT_wrap_122 ⟨Nat.le_of_ble_eq_true rfl, Nat.le_of_ble_eq_true rfl⟩) hP hD hS hA [0, 1, 2, 3, 4, 5, 6, 7] rfl rfl (by decide) (by decide) (by decide) rfl (fun H locs hP hD hS => ?_)
          refine lv_bipush (v := 32) hx hb dT_wrap_125 (by decide) ?_
          refine lv_lshl (v := (zlshl (zt_tagOf (x.2.2.2.2.2.2.2.2.2.2.1 (Int32.toNatClampNeg (zt_row x g1 g2))) (x.2.2.2.2.2.2.2.2.2.2.1 (Int32.toNatClampNeg (zt_row x g1 g3)))) 32)) hx hb dT_wrap_127 rfl ?_
          refine lv_iload hx hb dT_wrap_128 (lv_at hl 1 rfl) ?_
          refine lv_iload hx hb dT_wrap_130 (lv_at hl 0 rfl) ?_
          refine kcI (isR := [0, 1, 2, 3, 4, 5, 6, 7]) (isC := []) (wr := [(ao, .inr (0, [.ref au, .ref af, .ref ak, .int x.2.2.1, .int x.2.2.2.1, .int x.2.2.2.2.1, .int x.2.2.2.2.2.1])), (au, .inr (1, [.int x.1.1, .int x.1.2])), (af, .inr (1, [.int x.2.1.1, .int x.2.1.2])), (ak, .inr (2, [.ref a1, .ref a2, .ref a3, .ref a4, .int (nI x.2.2.2.2.2.2.1), .int x.2.2.2.2.2.2.2.1])), (a1, .inl (cI, 10, .inl x.2.2.2.2.2.2.2.2.1)), (a2, .inl (cI, 10, .inl x.2.2.2.2.2.2.2.2.2.1)), (a3, .inl (cI, 10, .inl x.2.2.2.2.2.2.2.2.2.2.1)), (a4, .inl (cI, 10, .inl x.2.2.2.2.2.2.2.2.2.2.2))]) (w2 := [(ao, .inr (0, [.ref au, .ref af, .ref ak, .int x.2.2.1, .int x.2.2.2.1, .int x.2.2.2.2.1, .int x.2.2.2.2.2.1])), (au, .inr (1, [.int x.1.1, .int x.1.2])), (af, .inr (1, [.int x.2.1.1, .int x.2.1.2])), (ak, .inr (2, [.ref a1, .ref a2, .ref a3, .ref a4, .int (nI x.2.2.2.2.2.2.1), .int x.2.2.2.2.2.2.2.1])), (a1, .inl (cI, 10, .inl x.2.2.2.2.2.2.2.2.1)), (a2, .inl (cI, 10, .inl x.2.2.2.2.2.2.2.2.2.1)), (a3, .inl (cI, 10, .inl x.2.2.2.2.2.2.2.2.2.2.1)), (a4, .inl (cI, 10, .inl x.2.2.2.2.2.2.2.2.2.2.2))]) (va_runSN (As := [.int (x.2.2.2.2.2.2.2.2.2.2.1 (Int32.toNatClampNeg (zt_row x g1 g2))), .int (x.2.2.2.2.2.2.2.2.2.2.1 (Int32.toNatClampNeg (zt_row x g1 g3)))]) (rest := [.long (zlshl (zt_tagOf (x.2.2.2.2.2.2.2.2.2.2.1 (Int32.toNatClampNeg (zt_row x g1 g2))) (x.2.2.2.2.2.2.2.2.2.2.1 (Int32.toNatClampNeg (zt_row x g1 g3)))) 32)]) ⟨hx, hb, hml, hown, hts⟩ (kw_enc l D cI cZ (x.2.2.2.2.2.2.2.2.2.2.1 (Int32.toNatClampNeg (zt_row x g1 g2))) (x.2.2.2.2.2.2.2.2.2.2.1 (Int32.toNatClampNeg (zt_row x g1 g3))) _) ⟨(va_cnB 2 hts gd_yW_enc rfl rfl rfl (hNw _ mw240) (hts _ mw28) (by decide +kernel) ⟨Nat.le_of_ble_eq_true rfl, Nat.le_of_ble_eq_true rfl⟩), hts _ mw241, trivial⟩ (kpreS hNw hP hD hK [] rfl (by decide)) rfl rfl hl.1 rfl (lv_room (Nat.le_of_ble_eq_true rfl)) dT_wrap_132 ⟨Nat.le_of_ble_eq_true rfl, Nat.le_of_ble_eq_true rfl⟩) hP hD hS hA [0, 1, 2, 3, 4, 5, 6, 7] rfl rfl (by decide) (by decide) (by decide) rfl (fun H locs hP hD hS => ?_)
          refine kcL (isR := [0, 1, 2, 3, 4, 5, 6, 7]) (isC := []) (wr := [(ao, .inr (0, [.ref au, .ref af, .ref ak, .int x.2.2.1, .int x.2.2.2.1, .int x.2.2.2.2.1, .int x.2.2.2.2.2.1])), (au, .inr (1, [.int x.1.1, .int x.1.2])), (af, .inr (1, [.int x.2.1.1, .int x.2.1.2])), (ak, .inr (2, [.ref a1, .ref a2, .ref a3, .ref a4, .int (nI x.2.2.2.2.2.2.1), .int x.2.2.2.2.2.2.2.1])), (a1, .inl (cI, 10, .inl x.2.2.2.2.2.2.2.2.1)), (a2, .inl (cI, 10, .inl x.2.2.2.2.2.2.2.2.2.1)), (a3, .inl (cI, 10, .inl x.2.2.2.2.2.2.2.2.2.2.1)), (a4, .inl (cI, 10, .inl x.2.2.2.2.2.2.2.2.2.2.2))]) (w2 := [(ao, .inr (0, [.ref au, .ref af, .ref ak, .int x.2.2.1, .int x.2.2.2.1, .int x.2.2.2.2.1, .int x.2.2.2.2.2.1])), (au, .inr (1, [.int x.1.1, .int x.1.2])), (af, .inr (1, [.int x.2.1.1, .int x.2.1.2])), (ak, .inr (2, [.ref a1, .ref a2, .ref a3, .ref a4, .int (nI x.2.2.2.2.2.2.1), .int x.2.2.2.2.2.2.2.1])), (a1, .inl (cI, 10, .inl x.2.2.2.2.2.2.2.2.1)), (a2, .inl (cI, 10, .inl x.2.2.2.2.2.2.2.2.2.1)), (a3, .inl (cI, 10, .inl x.2.2.2.2.2.2.2.2.2.2.1)), (a4, .inl (cI, 10, .inl x.2.2.2.2.2.2.2.2.2.2.2))]) (va_runS (As := [.int (zw_enc (x.2.2.2.2.2.2.2.2.2.2.1 (Int32.toNatClampNeg (zt_row x g1 g2))) (x.2.2.2.2.2.2.2.2.2.2.1 (Int32.toNatClampNeg (zt_row x g1 g3))))]) (rest := [.long (zlshl (zt_tagOf (x.2.2.2.2.2.2.2.2.2.2.1 (Int32.toNatClampNeg (zt_row x g1 g2))) (x.2.2.2.2.2.2.2.2.2.2.1 (Int32.toNatClampNeg (zt_row x g1 g3)))) 32)]) ⟨hx, hb, hml, hown, hts⟩ (kt_answered l D cI cZ (zw_enc (x.2.2.2.2.2.2.2.2.2.2.1 (Int32.toNatClampNeg (zt_row x g1 g2))) (x.2.2.2.2.2.2.2.2.2.2.1 (Int32.toNatClampNeg (zt_row x g1 g3)))) _) ⟨(callB_of 1 hts gd_yT_answered rfl rfl rfl (hts _ mw24) (hts _ mw228) (by decide +kernel) ⟨Nat.le_of_ble_eq_true rfl, Nat.le_of_ble_eq_true rfl⟩), hts _ mw229⟩ (kpreS hNw hP hD hK [] rfl (by decide)) rfl rfl hl.1 rfl (lv_room (Nat.le_of_ble_eq_true rfl)) dT_wrap_135 ⟨Nat.le_of_ble_eq_true rfl, Nat.le_of_ble_eq_true rfl⟩) hP hD hS hA [0, 1, 2, 3, 4, 5, 6, 7] rfl rfl (by decide) (by decide) (by decide) rfl (fun H locs hP hD hS => ?_)
          refine lv_ladd hx hb dT_wrap_138 ?_
          exact kretL (by first | (rw [zt_wrap, if_pos h1, if_pos h2, if_neg h5, if_neg h6]; done) | exact ((if_pos h1).trans ((if_pos h2).trans ((if_neg h5).trans (if_neg h6))))) hx hb hr hlk hS hP hD hK dT_wrap_139
        ·
          refine lv_ldc2 (v := (-5)) hx hb hown (hts _ mw227) dT_wrap_90 ?_
          exact kretL (by first | (rw [zt_wrap, if_pos h1, if_pos h2, if_neg h5, if_pos h6]; done) | exact ((if_pos h1).trans ((if_pos h2).trans ((if_neg h5).trans (if_pos h6))))) hx hb hr hlk hS hP hD hK dT_wrap_93
    ·
      refine lv_iload hx hb dT_wrap_30 (lv_at hl 0 rfl) ?_
      refine lv_i2l (v := (Int32.toInt64 (zt_row x g1 g3))) hx hb dT_wrap_32 rfl ?_
      exact kretL (by first | (rw [zt_wrap, if_pos h1, if_neg h2]; done) | exact ((if_pos h1).trans (if_neg h2))) hx hb hr hlk hS hP hD hK dT_wrap_33
  ·
    refine lv_iload hx hb dT_wrap_13 (lv_at hl 0 rfl) ?_
    refine lv_i2l (v := (Int32.toInt64 (zt_row x g1 g2))) hx hb dT_wrap_15 rfl ?_
    exact kretL (by first | (rw [zt_wrap, if_neg h1]; done) | exact (if_neg h1)) hx hb hr hlk hS hP hD hK dT_wrap_16

def zt_unwrap (x : XS) (g1 : Int32) (g2 : Int32) (g3 : Int64) (g4 : Int32) : Int32 × XS := (if 0 ≤ (zt_row x g1 g2) then (if (zt_refusal x g1 g4 (if (zk_has x.2.2.2.2.2.2 (zt_row x g1 g2) 256) = 0 then (0 : Int32) else (if (g4 &&& 128) = 0 then (1 : Int32) else (0 : Int32)))) = 0 then (if (lg_cmp (zlush g3 32) (zt_tagOf (x.2.2.2.2.2.2.2.2.2.2.1 (Int32.toNatClampNeg (zt_row x g1 g2))) (zw_dec (x.2.2.2.2.2.2.2.2.2.2.1 (Int32.toNatClampNeg (zt_row x g1 g2))) (Int64.toInt32 g3)))) = 0 then ((zk_add x.2.2.2.2.2.2 g4 (zw_dec (x.2.2.2.2.2.2.2.2.2.2.1 (Int32.toNatClampNeg (zt_row x g1 g2))) (Int64.toInt32 g3)) g1).1, (x.1, x.2.1, x.2.2.1, x.2.2.2.1, x.2.2.2.2.1, x.2.2.2.2.2.1, (zk_add x.2.2.2.2.2.2 g4 (zw_dec (x.2.2.2.2.2.2.2.2.2.2.1 (Int32.toNatClampNeg (zt_row x g1 g2))) (Int64.toInt32 g3)) g1).2)) else ((-7), x)) else ((zt_refusal x g1 g4 (if (zk_has x.2.2.2.2.2.2 (zt_row x g1 g2) 256) = 0 then (0 : Int32) else (if (g4 &&& 128) = 0 then (1 : Int32) else (0 : Int32)))), x)) else ((zt_row x g1 g2), x))

set_option maxHeartbeats 4000000 in
set_option maxRecDepth 100000 in
theorem kt_unwrap (l : Launch) (D : va_G) (cI cZ : ClassId) (ao au af ak a1 a2 a3 a4 : Nat) (x : XS) (g1 : Int32) (g2 : Int32) (g3 : Int64) (g4 : Int32) (hn : x.2.2.2.2.2.2.1 ≤ 10) : kI l yT_unwrap wsT_unwrap (rmOf 3 69) D (kT cI cZ) [.ref ao, .int g1, .int g2, .long g3, .int g4] (wX cI ao au af ak a1 a2 a3 a4 x) (zt_unwrap x g1 g2 g3 g4).1 (wX cI ao au af ak a1 a2 a3 a4 ((zt_unwrap x g1 g2 g3 g4).2)) := by
  intro sz
  refine kOf (Qc := fun A => kQi D (kT cI cZ) A (zt_unwrap x g1 g2 g3 g4).1 (wX cI ao au af ak a1 a2 a3 a4 ((zt_unwrap x g1 g2 g3 g4).2))) (cc := cT_unwrap) (maxL := 11) (ret := some .int) (by decide) rfl (Nat.le_of_ble_eq_true rfl) ?_ sz
  intro p e s m args below meth c A ls hx hb hml hown hts hNw hr hlk hin hA hS hP hD hK hl
  show W p l e (rmOf 3 69) s m args below meth c s.heap [] 0 0 (MQ below (kQi D (kT cI cZ) A (zt_unwrap x g1 g2 g3 g4).1 (wX cI ao au af ak a1 a2 a3 a4 ((zt_unwrap x g1 g2 g3 g4).2))) args s 0 0 A) (F0 m 0 ls [])
  have hts : ∀ q ∈ lw_g, q.before args s = true := fun q h => hts q (List.mem_cons_of_mem _ h)
  have hown : s.vm.findClass cnT = some m.cls := hown
  have hl : lv_has ls 11 [(0, .ref ao), (1, .int g1), (2, .int g2), (3, .long g3), (5, .int g4)] := hl
  have hP : va_P D vwCl [(ao, .inr (0, [.ref au, .ref af, .ref ak, .int x.2.2.1, .int x.2.2.2.1, .int x.2.2.2.2.1, .int x.2.2.2.2.2.1])), (au, .inr (1, [.int x.1.1, .int x.1.2])), (af, .inr (1, [.int x.2.1.1, .int x.2.1.2])), (ak, .inr (2, [.ref a1, .ref a2, .ref a3, .ref a4, .int (nI x.2.2.2.2.2.2.1), .int x.2.2.2.2.2.2.2.1])), (a1, .inl (cI, 10, .inl x.2.2.2.2.2.2.2.2.1)), (a2, .inl (cI, 10, .inl x.2.2.2.2.2.2.2.2.2.1)), (a3, .inl (cI, 10, .inl x.2.2.2.2.2.2.2.2.2.2.1)), (a4, .inl (cI, 10, .inl x.2.2.2.2.2.2.2.2.2.2.2))] s.heap := hP
  have hD : va_D A [(ao, .inr (0, [.ref au, .ref af, .ref ak, .int x.2.2.1, .int x.2.2.2.1, .int x.2.2.2.2.1, .int x.2.2.2.2.2.1])), (au, .inr (1, [.int x.1.1, .int x.1.2])), (af, .inr (1, [.int x.2.1.1, .int x.2.1.2])), (ak, .inr (2, [.ref a1, .ref a2, .ref a3, .ref a4, .int (nI x.2.2.2.2.2.2.1), .int x.2.2.2.2.2.2.2.1])), (a1, .inl (cI, 10, .inl x.2.2.2.2.2.2.2.2.1)), (a2, .inl (cI, 10, .inl x.2.2.2.2.2.2.2.2.2.1)), (a3, .inl (cI, 10, .inl x.2.2.2.2.2.2.2.2.2.2.1)), (a4, .inl (cI, 10, .inl x.2.2.2.2.2.2.2.2.2.2.2))] := hD
  refine lv_aload_n hx hb dT_unwrap_0 rfl (lv_at hl 0 rfl) ?_
  refine lv_iload_n hx hb dT_unwrap_1 rfl (lv_at hl 1 rfl) ?_
  refine lv_iload_n hx hb dT_unwrap_2 rfl (lv_at hl 2 rfl) ?_
  refine kcI (isR := []) (isC := [0, 1, 2, 3, 4, 5, 6, 7]) (wr := []) (w2 := [(ao, .inr (0, [.ref au, .ref af, .ref ak, .int x.2.2.1, .int x.2.2.2.1, .int x.2.2.2.2.1, .int x.2.2.2.2.2.1])), (au, .inr (1, [.int x.1.1, .int x.1.2])), (af, .inr (1, [.int x.2.1.1, .int x.2.1.2])), (ak, .inr (2, [.ref a1, .ref a2, .ref a3, .ref a4, .int (nI x.2.2.2.2.2.2.1), .int x.2.2.2.2.2.2.2.1])), (a1, .inl (cI, 10, .inl x.2.2.2.2.2.2.2.2.1)), (a2, .inl (cI, 10, .inl x.2.2.2.2.2.2.2.2.2.1)), (a3, .inl (cI, 10, .inl x.2.2.2.2.2.2.2.2.2.2.1)), (a4, .inl (cI, 10, .inl x.2.2.2.2.2.2.2.2.2.2.2))]) (va_runV (As := [.int g1, .int g2]) (rest := []) ⟨hx, hb, hml, hown, hts⟩ (kt_row l D cI cZ ao au af ak a1 a2 a3 a4 x g1 g2 (hn) _) ⟨(callB_of 2 hts gd_yT_rowOrRefusal rfl rfl rfl (hts _ mw24) (hts _ mw193) (by decide +kernel) ⟨Nat.le_of_ble_eq_true rfl, Nat.le_of_ble_eq_true rfl⟩), hts _ mw195, hts _ mw10⟩ (kpreV hNw hP hD hK [0, 1, 2, 3, 4, 5, 6, 7] rfl (by decide) 0 rfl (ci := 0) rfl) rfl rfl hl.1 rfl (lv_room (Nat.le_of_ble_eq_true rfl)) dT_unwrap_3 ⟨Nat.le_of_ble_eq_true rfl, Nat.le_of_ble_eq_true rfl⟩) hP hD hS hA [0, 1, 2, 3, 4, 5, 6, 7] rfl rfl (by decide) (by decide) (by decide) rfl (fun H locs hP hD hS => ?_)
  refine lv_istore hx hb dT_unwrap_6 hl (by decide) rfl (fun ls hl => ?_)
  have hl : lv_has ls 11 [(6, .int (zt_row x g1 g2)), (0, .ref ao), (1, .int g1), (2, .int g2), (3, .long g3), (5, .int g4)] := hl
  refine lv_iload hx hb dT_unwrap_8 (lv_at hl 0 rfl) ?_
  refine lv_if_ge (tgt := 16) hx hb dT_unwrap_10 (by decide) (fun h1 => ?_) (fun h1 => ?_)
  ·
    refine lv_aload_n hx hb dT_unwrap_16 rfl (lv_at hl 1 rfl) ?_
    refine va_get (D := D) (ci := 0) (v := .ref ak) (C := cnT) (T := ftT) (N := 7) hx hb hts inT hown hK hP 0 rfl rfl 2 (by decide) (hts _ mw84) (fun _ h9 => h9) rfl dT_unwrap_17 ?_
    refine lv_iload hx hb dT_unwrap_20 (lv_at hl 0 rfl) ?_
    refine lv_sipush (v := 256) hx hb dT_unwrap_22 (by decide) ?_
    refine kcI (isR := [0, 1, 2]) (isC := [3, 4, 5, 6, 7]) (wr := [(ao, .inr (0, [.ref au, .ref af, .ref ak, .int x.2.2.1, .int x.2.2.2.1, .int x.2.2.2.2.1, .int x.2.2.2.2.2.1])), (au, .inr (1, [.int x.1.1, .int x.1.2])), (af, .inr (1, [.int x.2.1.1, .int x.2.1.2]))]) (w2 := [(ao, .inr (0, [.ref au, .ref af, .ref ak, .int x.2.2.1, .int x.2.2.2.1, .int x.2.2.2.2.1, .int x.2.2.2.2.2.1])), (au, .inr (1, [.int x.1.1, .int x.1.2])), (af, .inr (1, [.int x.2.1.1, .int x.2.1.2])), (ak, .inr (2, [.ref a1, .ref a2, .ref a3, .ref a4, .int (nI x.2.2.2.2.2.2.1), .int x.2.2.2.2.2.2.2.1])), (a1, .inl (cI, 10, .inl x.2.2.2.2.2.2.2.2.1)), (a2, .inl (cI, 10, .inl x.2.2.2.2.2.2.2.2.2.1)), (a3, .inl (cI, 10, .inl x.2.2.2.2.2.2.2.2.2.2.1)), (a4, .inl (cI, 10, .inl x.2.2.2.2.2.2.2.2.2.2.2))]) (va_runVN (As := [.int (zt_row x g1 g2), .int 256]) (rest := []) ⟨hx, hb, hml, hown, hts⟩ (kk_has l D cI cZ ak a1 a2 a3 a4 x.2.2.2.2.2.2 (zt_row x g1 g2) 256 (hn) _) ⟨(va_cnB 2 hts gd_yK_has rfl rfl rfl (hNw _ mw205) (hts _ mw26) (by decide +kernel) ⟨Nat.le_of_ble_eq_true rfl, Nat.le_of_ble_eq_true rfl⟩), hts _ mw142, hts _ mw5⟩ (kpreV hNw hP hD hK [3, 4, 5, 6, 7] rfl (by decide) 3 rfl (ci := 2) rfl) rfl rfl hl.1 rfl (lv_room (Nat.le_of_ble_eq_true rfl)) dT_unwrap_25 ⟨Nat.le_of_ble_eq_true rfl, Nat.le_of_ble_eq_true rfl⟩) hP hD hS hA [0, 1, 2, 3, 4, 5, 6, 7] rfl rfl (by decide) (by decide) (by decide) rfl (fun H locs hP hD hS => ?_)
    refine kJoin (pcJ := 45) (z := (if (zk_has x.2.2.2.2.2.2 (zt_row x g1 g2) 256) = 0 then (0 : Int32) else (if (g4 &&& 128) = 0 then (1 : Int32) else (0 : Int32)))) (ws := [(ao, .inr (0, [.ref au, .ref af, .ref ak, .int x.2.2.1, .int x.2.2.2.1, .int x.2.2.2.2.1, .int x.2.2.2.2.2.1])), (au, .inr (1, [.int x.1.1, .int x.1.2])), (af, .inr (1, [.int x.2.1.1, .int x.2.1.2])), (ak, .inr (2, [.ref a1, .ref a2, .ref a3, .ref a4, .int (nI x.2.2.2.2.2.2.1), .int x.2.2.2.2.2.2.2.1])), (a1, .inl (cI, 10, .inl x.2.2.2.2.2.2.2.2.1)), (a2, .inl (cI, 10, .inl x.2.2.2.2.2.2.2.2.2.1)), (a3, .inl (cI, 10, .inl x.2.2.2.2.2.2.2.2.2.2.1)), (a4, .inl (cI, 10, .inl x.2.2.2.2.2.2.2.2.2.2.2))]) (rest := []) (D := D) (A := A) (H0 := s.heap) (fun J45 => ?_) (fun H locs hP hD hS => ?_)
    ·
      refine lv_if_eq (tgt := 44) hx hb dT_unwrap_28 (by decide) (fun h2 => ?_) (fun h2 => ?_)
      ·
        refine lv_iconst (v := 0) hx hb dT_unwrap_44 (by decide) ?_
        exact J45 _ _ hP hD hS _ ((if_pos h2).symm)
      ·
        refine lv_iload hx hb dT_unwrap_31 (lv_at hl 5 rfl) ?_
        refine lv_sipush (v := 128) hx hb dT_unwrap_33 (by decide) ?_
        refine lv_iand hx hb dT_unwrap_36 ?_
        refine lv_if_ne (tgt := 44) hx hb dT_unwrap_37 (by decide) (fun h3 => ?_) (fun h3 => ?_)
        ·
          refine lv_iconst (v := 0) hx hb dT_unwrap_44 (by decide) ?_
          exact J45 _ _ hP hD hS _ (((if_neg h2).trans (if_neg h3)).symm)
        ·
          refine lv_iconst (v := 1) hx hb dT_unwrap_40 (by decide) ?_
          refine lv_goto hx hb dT_unwrap_41 (tgt := 45) (by decide) ?_
          exact J45 _ _ hP hD hS _ (((if_neg h2).trans (if_pos h3)).symm)
    refine lv_istore hx hb dT_unwrap_45 hl (by decide) rfl (fun ls hl => ?_)
    have hl : lv_has ls 11 [(7, .int (if (zk_has x.2.2.2.2.2.2 (zt_row x g1 g2) 256) = 0 then (0 : Int32) else (if (g4 &&& 128) = 0 then (1 : Int32) else (0 : Int32)))), (6, .int (zt_row x g1 g2)), (0, .ref ao), (1, .int g1), (2, .int g2), (3, .long g3), (5, .int g4)] := hl
    refine lv_aload_n hx hb dT_unwrap_47 rfl (lv_at hl 2 rfl) ?_
    refine lv_iload_n hx hb dT_unwrap_48 rfl (lv_at hl 3 rfl) ?_
    refine lv_iload hx hb dT_unwrap_49 (lv_at hl 6 rfl) ?_
    refine lv_iload hx hb dT_unwrap_51 (lv_at hl 0 rfl) ?_
    refine kcI (isR := []) (isC := [0, 1, 2, 3, 4, 5, 6, 7]) (wr := []) (w2 := [(ao, .inr (0, [.ref au, .ref af, .ref ak, .int x.2.2.1, .int x.2.2.2.1, .int x.2.2.2.2.1, .int x.2.2.2.2.2.1])), (au, .inr (1, [.int x.1.1, .int x.1.2])), (af, .inr (1, [.int x.2.1.1, .int x.2.1.2])), (ak, .inr (2, [.ref a1, .ref a2, .ref a3, .ref a4, .int (nI x.2.2.2.2.2.2.1), .int x.2.2.2.2.2.2.2.1])), (a1, .inl (cI, 10, .inl x.2.2.2.2.2.2.2.2.1)), (a2, .inl (cI, 10, .inl x.2.2.2.2.2.2.2.2.2.1)), (a3, .inl (cI, 10, .inl x.2.2.2.2.2.2.2.2.2.2.1)), (a4, .inl (cI, 10, .inl x.2.2.2.2.2.2.2.2.2.2.2))]) (va_runV (As := [.int g1, .int g4, .int (if (zk_has x.2.2.2.2.2.2 (zt_row x g1 g2) 256) = 0 then (0 : Int32) else (if (g4 &&& 128) = 0 then (1 : Int32) else (0 : Int32)))]) (rest := []) ⟨hx, hb, hml, hown, hts⟩ (kt_refusal l D cI cZ ao au af ak a1 a2 a3 a4 x g1 g4 (if (zk_has x.2.2.2.2.2.2 (zt_row x g1 g2) 256) = 0 then (0 : Int32) else (if (g4 &&& 128) = 0 then (1 : Int32) else (0 : Int32))) (hn) _) ⟨(callB_of 3 hts gd_yT_refusalToMake rfl rfl rfl (hts _ mw24) (hts _ mw156) (by decide +kernel) ⟨Nat.le_of_ble_eq_true rfl, Nat.le_of_ble_eq_true rfl⟩), hts _ mw158, hts _ mw7⟩ (kpreV hNw hP hD hK [0, 1, 2, 3, 4, 5, 6, 7] rfl (by decide) 0 rfl (ci := 0) rfl) rfl rfl hl.1 rfl (lv_room (Nat.le_of_ble_eq_true rfl)) dT_unwrap_53 ⟨Nat.le_of_ble_eq_true rfl, Nat.le_of_ble_eq_true rfl⟩) hP hD hS hA [0, 1, 2, 3, 4, 5, 6, 7] rfl rfl (by decide) (by decide) (by decide) rfl (fun H locs hP hD hS => ?_)
    refine lv_istore hx hb dT_unwrap_56 hl (by decide) rfl (fun ls hl => ?_)
    have hl : lv_has ls 11 [(8, .int (zt_refusal x g1 g4 (if (zk_has x.2.2.2.2.2.2 (zt_row x g1 g2) 256) = 0 then (0 : Int32) else (if (g4 &&& 128) = 0 then (1 : Int32) else (0 : Int32))))), (7, .int (if (zk_has x.2.2.2.2.2.2 (zt_row x g1 g2) 256) = 0 then (0 : Int32) else (if (g4 &&& 128) = 0 then (1 : Int32) else (0 : Int32)))), (6, .int (zt_row x g1 g2)), (0, .ref ao), (1, .int g1), (2, .int g2), (3, .long g3), (5, .int g4)] := hl
    refine lv_iload hx hb dT_unwrap_58 (lv_at hl 0 rfl) ?_
    refine lv_if_eq (tgt := 66) hx hb dT_unwrap_60 (by decide) (fun h4 => ?_) (fun h4 => ?_)
    ·
      refine lv_aload_n hx hb dT_unwrap_66 rfl (lv_at hl 3 rfl) ?_
      refine va_get (D := D) (ci := 0) (v := .ref ak) (C := cnT) (T := ftT) (N := 7) hx hb hts inT hown hK hP 0 rfl rfl 2 (by decide) (hts _ mw84) (fun _ h9 => h9) rfl dT_unwrap_67 ?_
      refine va_getN (D := D) (ci := 2) (v := .ref a3) (C := cnK) (T := ftK) (N := 6) hx hb hts inK hown hK hP 3 rfl rfl 2 (by decide) (va_Nw.use rfl (hNw _ mw62)) (fun _ h9 => h9) rfl dT_unwrap_70 ?_
      refine lv_iload hx hb dT_unwrap_73 (lv_at hl 2 rfl) ?_
      refine va_iald hx hb hK hP 6 0 rfl rfl (zt_row_in hn h1) dT_unwrap_75 ?_
      refine lv_istore hx hb dT_unwrap_76 hl (by decide) rfl (fun ls hl => ?_)
      have hl : lv_has ls 11 [(9, .int (x.2.2.2.2.2.2.2.2.2.2.1 (Int32.toNatClampNeg (zt_row x g1 g2)))), (8, .int (zt_refusal x g1 g4 (if (zk_has x.2.2.2.2.2.2 (zt_row x g1 g2) 256) = 0 then (0 : Int32) else (if (g4 &&& 128) = 0 then (1 : Int32) else (0 : Int32))))), (7, .int (if (zk_has x.2.2.2.2.2.2 (zt_row x g1 g2) 256) = 0 then (0 : Int32) else (if (g4 &&& 128) = 0 then (1 : Int32) else (0 : Int32)))), (6, .int (zt_row x g1 g2)), (0, .ref ao), (1, .int g1), (2, .int g2), (3, .long g3), (5, .int g4)] := hl
      refine lv_iload hx hb dT_unwrap_78 (lv_at hl 0 rfl) ?_
      refine lv_lload_n hx hb dT_unwrap_80 rfl (lv_at hl 7 rfl) ?_
      refine lv_l2i (v := (Int64.toInt32 g3)) hx hb dT_unwrap_81 rfl ?_
      refine kcI (isR := [0, 1, 2, 3, 4, 5, 6, 7]) (isC := []) (wr := [(ao, .inr (0, [.ref au, .ref af, .ref ak, .int x.2.2.1, .int x.2.2.2.1, .int x.2.2.2.2.1, .int x.2.2.2.2.2.1])), (au, .inr (1, [.int x.1.1, .int x.1.2])), (af, .inr (1, [.int x.2.1.1, .int x.2.1.2])), (ak, .inr (2, [.ref a1, .ref a2, .ref a3, .ref a4, .int (nI x.2.2.2.2.2.2.1), .int x.2.2.2.2.2.2.2.1])), (a1, .inl (cI, 10, .inl x.2.2.2.2.2.2.2.2.1)), (a2, .inl (cI, 10, .inl x.2.2.2.2.2.2.2.2.2.1)), (a3, .inl (cI, 10, .inl x.2.2.2.2.2.2.2.2.2.2.1)), (a4, .inl (cI, 10, .inl x.2.2.2.2.2.2.2.2.2.2.2))]) (w2 := [(ao, .inr (0, [.ref au, .ref af, .ref ak, .int x.2.2.1, .int x.2.2.2.1, .int x.2.2.2.2.1, .int x.2.2.2.2.2.1])), (au, .inr (1, [.int x.1.1, .int x.1.2])), (af, .inr (1, [.int x.2.1.1, .int x.2.1.2])), (ak, .inr (2, [.ref a1, .ref a2, .ref a3, .ref a4, .int (nI x.2.2.2.2.2.2.1), .int x.2.2.2.2.2.2.2.1])), (a1, .inl (cI, 10, .inl x.2.2.2.2.2.2.2.2.1)), (a2, .inl (cI, 10, .inl x.2.2.2.2.2.2.2.2.2.1)), (a3, .inl (cI, 10, .inl x.2.2.2.2.2.2.2.2.2.2.1)), (a4, .inl (cI, 10, .inl x.2.2.2.2.2.2.2.2.2.2.2))]) (va_runSN (As := [.int (x.2.2.2.2.2.2.2.2.2.2.1 (Int32.toNatClampNeg (zt_row x g1 g2))), .int (Int64.toInt32 g3)]) (rest := []) ⟨hx, hb, hml, hown, hts⟩ (kw_dec l D cI cZ (x.2.2.2.2.2.2.2.2.2.2.1 (Int32.toNatClampNeg (zt_row x g1 g2))) (Int64.toInt32 g3) _) ⟨(va_cnB 2 hts gd_yW_dec rfl rfl rfl (hNw _ mw253) (hts _ mw28) (by decide +kernel) ⟨Nat.le_of_ble_eq_true rfl, Nat.le_of_ble_eq_true rfl⟩), hts _ mw254, trivial⟩ (kpreS hNw hP hD hK [] rfl (by decide)) rfl rfl hl.1 rfl (lv_room (Nat.le_of_ble_eq_true rfl)) dT_unwrap_82 ⟨Nat.le_of_ble_eq_true rfl, Nat.le_of_ble_eq_true rfl⟩) hP hD hS hA [0, 1, 2, 3, 4, 5, 6, 7] rfl rfl (by decide) (by decide) (by decide) rfl (fun H locs hP hD hS => ?_)
      refine lv_istore hx hb dT_unwrap_85 hl (by decide) rfl (fun ls hl => ?_)
      have hl : lv_has ls 11 [(10, .int (zw_dec (x.2.2.2.2.2.2.2.2.2.2.1 (Int32.toNatClampNeg (zt_row x g1 g2))) (Int64.toInt32 g3))), (9, .int (x.2.2.2.2.2.2.2.2.2.2.1 (Int32.toNatClampNeg (zt_row x g1 g2)))), (8, .int (zt_refusal x g1 g4 (if (zk_has x.2.2.2.2.2.2 (zt_row x g1 g2) 256) = 0 then (0 : Int32) else (if (g4 &&& 128) = 0 then (1 : Int32) else (0 : Int32))))), (7, .int (if (zk_has x.2.2.2.2.2.2 (zt_row x g1 g2) 256) = 0 then (0 : Int32) else (if (g4 &&& 128) = 0 then (1 : Int32) else (0 : Int32)))), (6, .int (zt_row x g1 g2)), (0, .ref ao), (1, .int g1), (2, .int g2), (3, .long g3), (5, .int g4)] := hl
      refine lv_lload_n hx hb dT_unwrap_87 rfl (lv_at hl 8 rfl) ?_
      refine lv_bipush (v := 32) hx hb dT_unwrap_88 (by decide) ?_
      refine lv_lushr (v := (zlush g3 32)) hx hb dT_unwrap_90 rfl ?_
      refine lv_iload hx hb dT_unwrap_91 (lv_at hl 1 rfl) ?_
      refine lv_iload hx hb dT_unwrap_93 (lv_at hl 0 rfl) ?_
      refine kcL (isR := [0, 1, 2, 3, 4, 5, 6, 7]) (isC := []) (wr := [(ao, .inr (0, [.ref au, .ref af, .ref ak, .int x.2.2.1, .int x.2.2.2.1, .int x.2.2.2.2.1, .int x.2.2.2.2.2.1])), (au, .inr (1, [.int x.1.1, .int x.1.2])), (af, .inr (1, [.int x.2.1.1, .int x.2.1.2])), (ak, .inr (2, [.ref a1, .ref a2, .ref a3, .ref a4, .int (nI x.2.2.2.2.2.2.1), .int x.2.2.2.2.2.2.2.1])), (a1, .inl (cI, 10, .inl x.2.2.2.2.2.2.2.2.1)), (a2, .inl (cI, 10, .inl x.2.2.2.2.2.2.2.2.2.1)), (a3, .inl (cI, 10, .inl x.2.2.2.2.2.2.2.2.2.2.1)), (a4, .inl (cI, 10, .inl x.2.2.2.2.2.2.2.2.2.2.2))]) (w2 := [(ao, .inr (0, [.ref au, .ref af, .ref ak, .int x.2.2.1, .int x.2.2.2.1, .int x.2.2.2.2.1, .int x.2.2.2.2.2.1])), (au, .inr (1, [.int x.1.1, .int x.1.2])), (af, .inr (1, [.int x.2.1.1, .int x.2.1.2])), (ak, .inr (2, [.ref a1, .ref a2, .ref a3, .ref a4, .int (nI x.2.2.2.2.2.2.1), .int x.2.2.2.2.2.2.2.1])), (a1, .inl (cI, 10, .inl x.2.2.2.2.2.2.2.2.1)), (a2, .inl (cI, 10, .inl x.2.2.2.2.2.2.2.2.2.1)), (a3, .inl (cI, 10, .inl x.2.2.2.2.2.2.2.2.2.2.1)), (a4, .inl (cI, 10, .inl x.2.2.2.2.2.2.2.2.2.2.2))]) (va_runS (As := [.int (x.2.2.2.2.2.2.2.2.2.2.1 (Int32.toNatClampNeg (zt_row x g1 g2))), .int (zw_dec (x.2.2.2.2.2.2.2.2.2.2.1 (Int32.toNatClampNeg (zt_row x g1 g2))) (Int64.toInt32 g3))]) (rest := [.long (zlush g3 32)]) ⟨hx, hb, hml, hown, hts⟩ (kt_tagOf l D cI cZ (x.2.2.2.2.2.2.2.2.2.2.1 (Int32.toNatClampNeg (zt_row x g1 g2))) (zw_dec (x.2.2.2.2.2.2.2.2.2.2.1 (Int32.toNatClampNeg (zt_row x g1 g2))) (Int64.toInt32 g3)) _) ⟨(callB_of 2 hts gd_yT_tagOf rfl rfl rfl (hts _ mw24) (hts _ mw264) (by decide +kernel) ⟨Nat.le_of_ble_eq_true rfl, Nat.le_of_ble_eq_true rfl⟩), hts _ mw265⟩ (kpreS hNw hP hD hK [] rfl (by decide)) rfl rfl hl.1 rfl (lv_room (Nat.le_of_ble_eq_true rfl)) dT_unwrap_95 ⟨Nat.le_of_ble_eq_true rfl, Nat.le_of_ble_eq_true rfl⟩) hP hD hS hA [0, 1, 2, 3, 4, 5, 6, 7] rfl rfl (by decide) (by decide) (by decide) rfl (fun H locs hP hD hS => ?_)
      refine W.lcmp hx hb dT_unwrap_98 ?_
      refine lv_if_eq (tgt := 105) hx hb dT_unwrap_99 (by decide) (fun h5 => ?_) (fun h5 => ?_)
      ·
        refine lv_aload_n hx hb dT_unwrap_105 rfl (lv_at hl 5 rfl) ?_
        refine va_get (D := D) (ci := 0) (v := .ref ak) (C := cnT) (T := ftT) (N := 7) hx hb hts inT hown hK hP 0 rfl rfl 2 (by decide) (hts _ mw84) (fun _ h9 => h9) rfl dT_unwrap_106 ?_
        refine lv_iload hx hb dT_unwrap_109 (lv_at hl 9 rfl) ?_
        refine lv_iload hx hb dT_unwrap_111 (lv_at hl 0 rfl) ?_
        refine lv_iload_n hx hb dT_unwrap_113 rfl (lv_at hl 6 rfl) ?_
        refine kcI (isR := [0, 1, 2]) (isC := [3, 4, 5, 6, 7]) (wr := [(ao, .inr (0, [.ref au, .ref af, .ref ak, .int x.2.2.1, .int x.2.2.2.1, .int x.2.2.2.2.1, .int x.2.2.2.2.2.1])), (au, .inr (1, [.int x.1.1, .int x.1.2])), (af, .inr (1, [.int x.2.1.1, .int x.2.1.2]))]) (w2 := [(ao, .inr (0, [.ref au, .ref af, .ref ak, .int x.2.2.1, .int x.2.2.2.1, .int x.2.2.2.2.1, .int x.2.2.2.2.2.1])), (au, .inr (1, [.int x.1.1, .int x.1.2])), (af, .inr (1, [.int x.2.1.1, .int x.2.1.2])), (ak, .inr (2, [.ref a1, .ref a2, .ref a3, .ref a4, .int (nI (zk_add x.2.2.2.2.2.2 g4 (zw_dec (x.2.2.2.2.2.2.2.2.2.2.1 (Int32.toNatClampNeg (zt_row x g1 g2))) (Int64.toInt32 g3)) g1).2.1), .int ((zk_add x.2.2.2.2.2.2 g4 (zw_dec (x.2.2.2.2.2.2.2.2.2.2.1 (Int32.toNatClampNeg (zt_row x g1 g2))) (Int64.toInt32 g3)) g1).2.2.1)])), (a1, .inl (cI, 10, .inl ((zk_add x.2.2.2.2.2.2 g4 (zw_dec (x.2.2.2.2.2.2.2.2.2.2.1 (Int32.toNatClampNeg (zt_row x g1 g2))) (Int64.toInt32 g3)) g1).2.2.2.1))), (a2, .inl (cI, 10, .inl ((zk_add x.2.2.2.2.2.2 g4 (zw_dec (x.2.2.2.2.2.2.2.2.2.2.1 (Int32.toNatClampNeg (zt_row x g1 g2))) (Int64.toInt32 g3)) g1).2.2.2.2.1))), (a3, .inl (cI, 10, .inl ((zk_add x.2.2.2.2.2.2 g4 (zw_dec (x.2.2.2.2.2.2.2.2.2.2.1 (Int32.toNatClampNeg (zt_row x g1 g2))) (Int64.toInt32 g3)) g1).2.2.2.2.2.1))), (a4, .inl (cI, 10, .inl ((zk_add x.2.2.2.2.2.2 g4 (zw_dec (x.2.2.2.2.2.2.2.2.2.2.1 (Int32.toNatClampNeg (zt_row x g1 g2))) (Int64.toInt32 g3)) g1).2.2.2.2.2.2)))]) (va_runVN (As := [.int g4, .int (zw_dec (x.2.2.2.2.2.2.2.2.2.2.1 (Int32.toNatClampNeg (zt_row x g1 g2))) (Int64.toInt32 g3)), .int g1]) (rest := []) ⟨hx, hb, hml, hown, hts⟩ (kk_add l D cI cZ ak a1 a2 a3 a4 x.2.2.2.2.2.2 g4 (zw_dec (x.2.2.2.2.2.2.2.2.2.2.1 (Int32.toNatClampNeg (zt_row x g1 g2))) (Int64.toInt32 g3)) g1 (hn) _) ⟨(va_cnB 3 hts gd_yK_add rfl rfl rfl (hNw _ mw170) (hts _ mw26) (by decide +kernel) ⟨Nat.le_of_ble_eq_true rfl, Nat.le_of_ble_eq_true rfl⟩), hts _ mw172, hts _ mw9⟩ (kpreV hNw hP hD hK [3, 4, 5, 6, 7] rfl (by decide) 3 rfl (ci := 2) rfl) rfl rfl hl.1 rfl (lv_room (Nat.le_of_ble_eq_true rfl)) dT_unwrap_114 ⟨Nat.le_of_ble_eq_true rfl, Nat.le_of_ble_eq_true rfl⟩) hP hD hS hA [0, 1, 2, 3, 4, 5, 6, 7] rfl rfl (by decide) (by decide) (by decide) rfl (fun H locs hP hD hS => ?_)
        exact kretI (wf := fun st => wX cI ao au af ak a1 a2 a3 a4 st) (st := (x.1, x.2.1, x.2.2.1, x.2.2.2.1, x.2.2.2.2.1, x.2.2.2.2.2.1, (zk_add x.2.2.2.2.2.2 g4 (zw_dec (x.2.2.2.2.2.2.2.2.2.2.1 (Int32.toNatClampNeg (zt_row x g1 g2))) (Int64.toInt32 g3)) g1).2)) (by first | (rw [zt_unwrap, if_pos h1, if_pos h4, if_pos h5]; done) | exact ((if_pos h1).trans ((if_pos h4).trans (if_pos h5)))) hx hb hr hlk hS hP hD hK dT_unwrap_117
      ·
        refine lv_bipush (v := (-7)) hx hb dT_unwrap_102 (by decide) ?_
        exact kretI (wf := fun st => wX cI ao au af ak a1 a2 a3 a4 st) (st := x) (by first | (rw [zt_unwrap, if_pos h1, if_pos h4, if_neg h5]; done) | exact ((if_pos h1).trans ((if_pos h4).trans (if_neg h5)))) hx hb hr hlk hS hP hD hK dT_unwrap_104
    ·
      refine lv_iload hx hb dT_unwrap_63 (lv_at hl 0 rfl) ?_
      exact kretI (wf := fun st => wX cI ao au af ak a1 a2 a3 a4 st) (st := x) (by first | (rw [zt_unwrap, if_pos h1, if_neg h4]; done) | exact ((if_pos h1).trans (if_neg h4))) hx hb hr hlk hS hP hD hK dT_unwrap_65
  ·
    refine lv_iload hx hb dT_unwrap_13 (lv_at hl 0 rfl) ?_
    exact kretI (wf := fun st => wX cI ao au af ak a1 a2 a3 a4 st) (st := x) (by first | (rw [zt_unwrap, if_neg h1]; done) | exact (if_neg h1)) hx hb hr hlk hS hP hD hK dT_unwrap_15

def zt_fnd (x : XS) (k : Int32) : Nat → Nat → Int32 → Int32
  | 0, _, _ => 0
  | f + 1, i, b => if zt_isVisible x (nI i) = 0 then zt_fnd x k f (i + 1) b else if b = k then x.2.2.2.2.2.2.2.2.1 i else zt_fnd x k f (i + 1) (b + 1)
def zt_find (x : XS) (g1 g2 : Int32) : Int32 := if zt_isOpen x g1 = 0 then (-1) else zt_fnd x g2 x.2.2.2.2.2.2.1 0 0

set_option maxHeartbeats 4000000 in
set_option maxRecDepth 100000 in
theorem kt_find (l : Launch) (D : va_G) (cI cZ : ClassId) (ao au af ak a1 a2 a3 a4 : Nat) (x : XS) (g1 : Int32) (g2 : Int32) (hn : x.2.2.2.2.2.2.1 ≤ 10) : kI l yT_find wsT_find (rmOf 2 43) D (kT cI cZ) [.ref ao, .int g1, .int g2] (wX cI ao au af ak a1 a2 a3 a4 x) (zt_find x g1 g2) (wX cI ao au af ak a1 a2 a3 a4 x) := by
  intro sz
  refine kOf (Qc := fun A => kQi D (kT cI cZ) A (zt_find x g1 g2) (wX cI ao au af ak a1 a2 a3 a4 x)) (cc := cT_find) (maxL := 5) (ret := some .int) (by decide) rfl (Nat.le_of_ble_eq_true rfl) ?_ sz
  intro p e s m args below meth c A ls hx hb hml hown hts hNw hr hlk hin hA hS hP hD hK hl
  show W p l e (rmOf 2 43) s m args below meth c s.heap [] 0 0 (MQ below (kQi D (kT cI cZ) A (zt_find x g1 g2) (wX cI ao au af ak a1 a2 a3 a4 x)) args s 0 0 A) (F0 m 0 ls [])
  have hts : ∀ q ∈ lw_g, q.before args s = true := fun q h => hts q (List.mem_cons_of_mem _ h)
  have hown : s.vm.findClass cnT = some m.cls := hown
  have hl : lv_has ls 5 [(0, .ref ao), (1, .int g1), (2, .int g2)] := hl
  have hP : va_P D vwCl [(ao, .inr (0, [.ref au, .ref af, .ref ak, .int x.2.2.1, .int x.2.2.2.1, .int x.2.2.2.2.1, .int x.2.2.2.2.2.1])), (au, .inr (1, [.int x.1.1, .int x.1.2])), (af, .inr (1, [.int x.2.1.1, .int x.2.1.2])), (ak, .inr (2, [.ref a1, .ref a2, .ref a3, .ref a4, .int (nI x.2.2.2.2.2.2.1), .int x.2.2.2.2.2.2.2.1])), (a1, .inl (cI, 10, .inl x.2.2.2.2.2.2.2.2.1)), (a2, .inl (cI, 10, .inl x.2.2.2.2.2.2.2.2.2.1)), (a3, .inl (cI, 10, .inl x.2.2.2.2.2.2.2.2.2.2.1)), (a4, .inl (cI, 10, .inl x.2.2.2.2.2.2.2.2.2.2.2))] s.heap := hP
  have hD : va_D A [(ao, .inr (0, [.ref au, .ref af, .ref ak, .int x.2.2.1, .int x.2.2.2.1, .int x.2.2.2.2.1, .int x.2.2.2.2.2.1])), (au, .inr (1, [.int x.1.1, .int x.1.2])), (af, .inr (1, [.int x.2.1.1, .int x.2.1.2])), (ak, .inr (2, [.ref a1, .ref a2, .ref a3, .ref a4, .int (nI x.2.2.2.2.2.2.1), .int x.2.2.2.2.2.2.2.1])), (a1, .inl (cI, 10, .inl x.2.2.2.2.2.2.2.2.1)), (a2, .inl (cI, 10, .inl x.2.2.2.2.2.2.2.2.2.1)), (a3, .inl (cI, 10, .inl x.2.2.2.2.2.2.2.2.2.2.1)), (a4, .inl (cI, 10, .inl x.2.2.2.2.2.2.2.2.2.2.2))] := hD
  have L : ∀ (f : Nat) (i : Nat) (b : Int32) (ls : Array Slot) (H : Heap) (locs : List Loc), (i + f = x.2.2.2.2.2.2.1) → (zt_find x g1 g2 = zt_fnd x g2 f i b) → lv_has ls 5 [(4, .int (nI i)), (3, .int b), (0, .ref ao), (1, .int g1), (2, .int g2)] → va_P D vwCl [(ao, .inr (0, [.ref au, .ref af, .ref ak, .int x.2.2.1, .int x.2.2.2.1, .int x.2.2.2.2.1, .int x.2.2.2.2.2.1])), (au, .inr (1, [.int x.1.1, .int x.1.2])), (af, .inr (1, [.int x.2.1.1, .int x.2.1.2])), (ak, .inr (2, [.ref a1, .ref a2, .ref a3, .ref a4, .int (nI x.2.2.2.2.2.2.1), .int x.2.2.2.2.2.2.2.1])), (a1, .inl (cI, 10, .inl x.2.2.2.2.2.2.2.2.1)), (a2, .inl (cI, 10, .inl x.2.2.2.2.2.2.2.2.2.1)), (a3, .inl (cI, 10, .inl x.2.2.2.2.2.2.2.2.2.2.1)), (a4, .inl (cI, 10, .inl x.2.2.2.2.2.2.2.2.2.2.2))] H → va_D A [(ao, .inr (0, [.ref au, .ref af, .ref ak, .int x.2.2.1, .int x.2.2.2.1, .int x.2.2.2.2.1, .int x.2.2.2.2.2.1])), (au, .inr (1, [.int x.1.1, .int x.1.2])), (af, .inr (1, [.int x.2.1.1, .int x.2.1.2])), (ak, .inr (2, [.ref a1, .ref a2, .ref a3, .ref a4, .int (nI x.2.2.2.2.2.2.1), .int x.2.2.2.2.2.2.2.1])), (a1, .inl (cI, 10, .inl x.2.2.2.2.2.2.2.2.1)), (a2, .inl (cI, 10, .inl x.2.2.2.2.2.2.2.2.2.1)), (a3, .inl (cI, 10, .inl x.2.2.2.2.2.2.2.2.2.2.1)), (a4, .inl (cI, 10, .inl x.2.2.2.2.2.2.2.2.2.2.2))] → va_S A s.heap H locs → W p l e (rmOf 2 43) s m args below meth c H locs 0 0 (MQ below (kQi D (kT cI cZ) A (zt_find x g1 g2) (wX cI ao au af ak a1 a2 a3 a4 x)) args s 0 0 A) (F0 m 15 ls []) := by
    intro f
    induction f with
    | zero =>
      intro i b ls H locs hf he hl hP hD hS
      refine lv_iload hx hb dT_find_15 (lv_at hl 0 rfl) ?_
      refine lv_aload_n hx hb dT_find_17 rfl (lv_at hl 2 rfl) ?_
      refine va_get (D := D) (ci := 0) (v := .ref ak) (C := cnT) (T := ftT) (N := 7) hx hb hts inT hown hK hP 0 rfl rfl 2 (by decide) (hts _ mw84) (fun _ h9 => h9) rfl dT_find_18 ?_
      refine va_getN (D := D) (ci := 2) (v := .int (nI x.2.2.2.2.2.2.1)) (C := cnK) (T := ftK) (N := 6) hx hb hts inK hown hK hP 3 rfl rfl 4 (by decide) (va_Nw.use rfl (hNw _ mw65)) (fun _ h9 => h9) rfl dT_find_21 ?_
      refine lv_icmp_ge (tgt := 61) hx hb dT_find_24 (by decide) (fun _ => ?_) (fun h => absurd (nI_le (by omega) (by omega)) h)
      refine lv_iconst (v := 0) hx hb dT_find_61 (by decide) ?_
      exact kretP (he) hx hb hr hlk hS hP hD hK dT_find_62
    | succ f ih =>
      intro i b ls H locs hf he hl hP hD hS
      refine lv_iload hx hb dT_find_15 (lv_at hl 0 rfl) ?_
      refine lv_aload_n hx hb dT_find_17 rfl (lv_at hl 2 rfl) ?_
      refine va_get (D := D) (ci := 0) (v := .ref ak) (C := cnT) (T := ftT) (N := 7) hx hb hts inT hown hK hP 0 rfl rfl 2 (by decide) (hts _ mw84) (fun _ h9 => h9) rfl dT_find_18 ?_
      refine va_getN (D := D) (ci := 2) (v := .int (nI x.2.2.2.2.2.2.1)) (C := cnK) (T := ftK) (N := 6) hx hb hts inK hown hK hP 3 rfl rfl 4 (by decide) (va_Nw.use rfl (hNw _ mw65)) (fun _ h9 => h9) rfl dT_find_21 ?_
      refine lv_icmp_ge (tgt := 61) hx hb dT_find_24 (by decide) (fun h => absurd h (nI_ge (by omega) (by omega))) (fun _ => ?_)
      refine lv_aload_n hx hb dT_find_27 rfl (lv_at hl 2 rfl) ?_
      refine lv_iload hx hb dT_find_28 (lv_at hl 0 rfl) ?_
      refine kcI (isR := []) (isC := [0, 1, 2, 3, 4, 5, 6, 7]) (wr := []) (w2 := [(ao, .inr (0, [.ref au, .ref af, .ref ak, .int x.2.2.1, .int x.2.2.2.1, .int x.2.2.2.2.1, .int x.2.2.2.2.2.1])), (au, .inr (1, [.int x.1.1, .int x.1.2])), (af, .inr (1, [.int x.2.1.1, .int x.2.1.2])), (ak, .inr (2, [.ref a1, .ref a2, .ref a3, .ref a4, .int (nI x.2.2.2.2.2.2.1), .int x.2.2.2.2.2.2.2.1])), (a1, .inl (cI, 10, .inl x.2.2.2.2.2.2.2.2.1)), (a2, .inl (cI, 10, .inl x.2.2.2.2.2.2.2.2.2.1)), (a3, .inl (cI, 10, .inl x.2.2.2.2.2.2.2.2.2.2.1)), (a4, .inl (cI, 10, .inl x.2.2.2.2.2.2.2.2.2.2.2))]) (va_runV (As := [.int (nI i)]) (rest := []) ⟨hx, hb, hml, hown, hts⟩ (kt_isVisible l D cI cZ ao au af ak a1 a2 a3 a4 x (nI i) (hn) _) ⟨(callB_of 1 hts gd_yT_isVisible rfl rfl rfl (hts _ mw24) (hts _ mw201) (by decide +kernel) ⟨Nat.le_of_ble_eq_true rfl, Nat.le_of_ble_eq_true rfl⟩), hts _ mw203, hts _ mw12⟩ (kpreV hNw hP hD hK [0, 1, 2, 3, 4, 5, 6, 7] rfl (by decide) 0 rfl (ci := 0) rfl) rfl rfl hl.1 rfl (lv_room (Nat.le_of_ble_eq_true rfl)) dT_find_30 ⟨Nat.le_of_ble_eq_true rfl, Nat.le_of_ble_eq_true rfl⟩) hP hD hS hA [0, 1, 2, 3, 4, 5, 6, 7] rfl rfl (by decide) (by decide) (by decide) rfl (fun H locs hP hD hS => ?_)
      refine lv_if_eq (tgt := 55) hx hb dT_find_33 (by decide) (fun h1 => ?_) (fun h1 => ?_)
      ·
        refine lv_iinc (k := 0) (v := (nI (i + 1))) hx hb dT_find_55 hl rfl (kincN1 _) (by decide) rfl (fun ls hl => ?_)
        have hl : lv_has ls 5 [(4, .int (nI (i + 1))), (3, .int b), (0, .ref ao), (1, .int g1), (2, .int g2)] := hl
        refine lv_goto hx hb dT_find_58 (tgt := 15) (by decide) ?_
        exact ih (i + 1) b _ _ _ (by omega) (by rw [he, zt_fnd, if_pos h1]) (lv_sub hl [0, 1, 2, 3, 4] rfl) hP hD hS
      ·
        refine lv_iload_n hx hb dT_find_36 rfl (lv_at hl 1 rfl) ?_
        refine lv_iload_n hx hb dT_find_37 rfl (lv_at hl 4 rfl) ?_
        refine lv_icmp_ne (tgt := 52) hx hb dT_find_38 (by decide) (fun h2 => ?_) (fun h2 => ?_)
        ·
          refine lv_iinc (k := 1) (v := (b + 1)) hx hb dT_find_52 hl rfl (kinc1 _) (by decide) rfl (fun ls hl => ?_)
          have hl : lv_has ls 5 [(3, .int (b + 1)), (4, .int (nI i)), (0, .ref ao), (1, .int g1), (2, .int g2)] := hl
          refine lv_iinc (k := 1) (v := (nI (i + 1))) hx hb dT_find_55 hl rfl (kincN1 _) (by decide) rfl (fun ls hl => ?_)
          have hl : lv_has ls 5 [(4, .int (nI (i + 1))), (3, .int (b + 1)), (0, .ref ao), (1, .int g1), (2, .int g2)] := hl
          refine lv_goto hx hb dT_find_58 (tgt := 15) (by decide) ?_
          exact ih (i + 1) (b + 1) _ _ _ (by omega) (by rw [he, zt_fnd, if_neg h1, if_neg h2]) (lv_sub hl [0, 1, 2, 3, 4] rfl) hP hD hS
        ·
          refine lv_aload_n hx hb dT_find_41 rfl (lv_at hl 2 rfl) ?_
          refine va_get (D := D) (ci := 0) (v := .ref ak) (C := cnT) (T := ftT) (N := 7) hx hb hts inT hown hK hP 0 rfl rfl 2 (by decide) (hts _ mw84) (fun _ h9 => h9) rfl dT_find_42 ?_
          refine va_getN (D := D) (ci := 2) (v := .ref a1) (C := cnK) (T := ftK) (N := 6) hx hb hts inK hown hK hP 3 rfl rfl 0 (by decide) (va_Nw.use rfl (hNw _ mw58)) (fun _ h9 => h9) rfl dT_find_45 ?_
          refine lv_iload hx hb dT_find_48 (lv_at hl 0 rfl) ?_
          refine va_iald hx hb hK hP 4 0 rfl rfl (vp_in_nI (by omega) (by decide)) dT_find_50 ?_
          refine kTop (y := (x.2.2.2.2.2.2.2.2.1 i)) (by rw [nI_clamp (by omega)]) ?_
          exact kretP (by rw [he, zt_fnd, if_neg h1, if_pos h2]) hx hb hr hlk hS hP hD hK dT_find_51
  refine lv_aload_n hx hb dT_find_0 rfl (lv_at hl 0 rfl) ?_
  refine lv_iload_n hx hb dT_find_1 rfl (lv_at hl 1 rfl) ?_
  refine kcI (isR := []) (isC := [0, 1, 2, 3, 4, 5, 6, 7]) (wr := []) (w2 := [(ao, .inr (0, [.ref au, .ref af, .ref ak, .int x.2.2.1, .int x.2.2.2.1, .int x.2.2.2.2.1, .int x.2.2.2.2.2.1])), (au, .inr (1, [.int x.1.1, .int x.1.2])), (af, .inr (1, [.int x.2.1.1, .int x.2.1.2])), (ak, .inr (2, [.ref a1, .ref a2, .ref a3, .ref a4, .int (nI x.2.2.2.2.2.2.1), .int x.2.2.2.2.2.2.2.1])), (a1, .inl (cI, 10, .inl x.2.2.2.2.2.2.2.2.1)), (a2, .inl (cI, 10, .inl x.2.2.2.2.2.2.2.2.2.1)), (a3, .inl (cI, 10, .inl x.2.2.2.2.2.2.2.2.2.2.1)), (a4, .inl (cI, 10, .inl x.2.2.2.2.2.2.2.2.2.2.2))]) (va_runV (As := [.int g1]) (rest := []) ⟨hx, hb, hml, hown, hts⟩ (kt_isOpen l D cI cZ ao au af ak a1 a2 a3 a4 x g1 _) ⟨(callB_of 1 hts gd_yT_isOpen rfl rfl rfl (hts _ mw24) (hts _ mw108) (by decide +kernel) ⟨Nat.le_of_ble_eq_true rfl, Nat.le_of_ble_eq_true rfl⟩), hts _ mw110, hts _ mw0⟩ (kpreV hNw hP hD hK [0, 1, 2, 3, 4, 5, 6, 7] rfl (by decide) 0 rfl (ci := 0) rfl) rfl rfl hl.1 rfl (lv_room (Nat.le_of_ble_eq_true rfl)) dT_find_2 ⟨Nat.le_of_ble_eq_true rfl, Nat.le_of_ble_eq_true rfl⟩) hP hD hS hA [0, 1, 2, 3, 4, 5, 6, 7] rfl rfl (by decide) (by decide) (by decide) rfl (fun H locs hP hD hS => ?_)
  refine lv_if_ne (tgt := 10) hx hb dT_find_5 (by decide) (fun h1 => ?_) (fun h1 => ?_)
  ·
    refine lv_iconst (v := 0) hx hb dT_find_10 (by decide) ?_
    refine lv_istore_n hx hb dT_find_11 rfl hl (by decide) rfl (fun ls hl => ?_)
    have hl : lv_has ls 5 [(3, .int 0), (0, .ref ao), (1, .int g1), (2, .int g2)] := hl
    refine lv_iconst (v := 0) hx hb dT_find_12 (by decide) ?_
    refine lv_istore hx hb dT_find_13 hl (by decide) rfl (fun ls hl => ?_)
    have hl : lv_has ls 5 [(4, .int 0), (3, .int 0), (0, .ref ao), (1, .int g1), (2, .int g2)] := hl
    exact L x.2.2.2.2.2.2.1 0 0 _ _ _ (by omega) (by rw [zt_find, if_neg h1]) (lv_sub hl [0, 1, 2, 3, 4] rfl) hP hD hS
  ·
    refine lv_iconst (v := (-1)) hx hb dT_find_8 (by decide) ?_
    exact kretP (by first | (rw [zt_find, if_pos h1]; done) | exact (if_pos h1)) hx hb hr hlk hS hP hD hK dT_find_9

def zt_status (x : XS) (g1 : Int32) : Int32 := (if g1 = 0 then x.2.2.1 else (if g1 = 1 then (x.2.2.2.2.1 + (8 * x.2.2.2.2.2.1)) else (if g1 = 2 then x.1.2 else (if g1 = 3 then x.2.1.2 else (if g1 = 4 then (nI x.2.2.2.2.2.2.1) else (if g1 = 5 then x.2.2.2.2.2.2.2.1 else (-1)))))))

set_option maxHeartbeats 4000000 in
set_option maxRecDepth 100000 in
theorem kt_status (l : Launch) (D : va_G) (cI cZ : ClassId) (ao au af ak a1 a2 a3 a4 : Nat) (x : XS) (g1 : Int32) (hn : x.2.2.2.2.2.2.1 ≤ 10) : kI l yT_status wsT_status (rmOf 0 0) D (kT cI cZ) [.ref ao, .int g1] (wX cI ao au af ak a1 a2 a3 a4 x) (zt_status x g1) (wX cI ao au af ak a1 a2 a3 a4 x) := by
  intro sz
  refine kOf (Qc := fun A => kQi D (kT cI cZ) A (zt_status x g1) (wX cI ao au af ak a1 a2 a3 a4 x)) (cc := cT_status) (maxL := 2) (ret := some .int) (by decide) rfl (Nat.le_of_ble_eq_true rfl) ?_ sz
  intro p e s m args below meth c A ls hx hb hml hown hts hNw hr hlk hin hA hS hP hD hK hl
  show W p l e (rmOf 0 0) s m args below meth c s.heap [] 0 0 (MQ below (kQi D (kT cI cZ) A (zt_status x g1) (wX cI ao au af ak a1 a2 a3 a4 x)) args s 0 0 A) (F0 m 0 ls [])
  have hts : ∀ q ∈ lw_g, q.before args s = true := fun q h => hts q (List.mem_cons_of_mem _ h)
  have hown : s.vm.findClass cnT = some m.cls := hown
  have hl : lv_has ls 2 [(0, .ref ao), (1, .int g1)] := hl
  have hP : va_P D vwCl [(ao, .inr (0, [.ref au, .ref af, .ref ak, .int x.2.2.1, .int x.2.2.2.1, .int x.2.2.2.2.1, .int x.2.2.2.2.2.1])), (au, .inr (1, [.int x.1.1, .int x.1.2])), (af, .inr (1, [.int x.2.1.1, .int x.2.1.2])), (ak, .inr (2, [.ref a1, .ref a2, .ref a3, .ref a4, .int (nI x.2.2.2.2.2.2.1), .int x.2.2.2.2.2.2.2.1])), (a1, .inl (cI, 10, .inl x.2.2.2.2.2.2.2.2.1)), (a2, .inl (cI, 10, .inl x.2.2.2.2.2.2.2.2.2.1)), (a3, .inl (cI, 10, .inl x.2.2.2.2.2.2.2.2.2.2.1)), (a4, .inl (cI, 10, .inl x.2.2.2.2.2.2.2.2.2.2.2))] s.heap := hP
  have hD : va_D A [(ao, .inr (0, [.ref au, .ref af, .ref ak, .int x.2.2.1, .int x.2.2.2.1, .int x.2.2.2.2.1, .int x.2.2.2.2.2.1])), (au, .inr (1, [.int x.1.1, .int x.1.2])), (af, .inr (1, [.int x.2.1.1, .int x.2.1.2])), (ak, .inr (2, [.ref a1, .ref a2, .ref a3, .ref a4, .int (nI x.2.2.2.2.2.2.1), .int x.2.2.2.2.2.2.2.1])), (a1, .inl (cI, 10, .inl x.2.2.2.2.2.2.2.2.1)), (a2, .inl (cI, 10, .inl x.2.2.2.2.2.2.2.2.2.1)), (a3, .inl (cI, 10, .inl x.2.2.2.2.2.2.2.2.2.2.1)), (a4, .inl (cI, 10, .inl x.2.2.2.2.2.2.2.2.2.2.2))] := hD
  refine lv_iload_n hx hb dT_status_0 rfl (lv_at hl 1 rfl) ?_
  by_cases q0 : g1 = 0
  ·
    subst q0
    refine lv_tableIn (x := 0) (off := 39) (tgt := 40) hx hb dT_status_1 (by decide) (by decide) (by decide) (by decide) ?_
    refine lv_aload_n hx hb dT_status_40 rfl (lv_at hl 0 rfl) ?_
    refine va_get (D := D) (ci := 0) (v := .int x.2.2.1) (C := cnT) (T := ftT) (N := 7) hx hb hts inT hown hK hP 0 rfl rfl 3 (by decide) (hts _ mw85) (fun _ h9 => h9) rfl dT_status_41 ?_
    exact kretP (by first | (rw [zt_status, if_pos (rfl : (0 : Int32) = 0)]; done) | exact (if_pos (rfl : (0 : Int32) = 0))) hx hb hr hlk hS hP hD hK dT_status_44
  by_cases q1 : g1 = 1
  ·
    subst q1
    refine lv_tableIn (x := 1) (off := 44) (tgt := 45) hx hb dT_status_1 (by decide) (by decide) (by decide) (by decide) ?_
    refine lv_aload_n hx hb dT_status_45 rfl (lv_at hl 0 rfl) ?_
    refine va_get (D := D) (ci := 0) (v := .int x.2.2.2.2.1) (C := cnT) (T := ftT) (N := 7) hx hb hts inT hown hK hP 0 rfl rfl 5 (by decide) (hts _ mw87) (fun _ h9 => h9) rfl dT_status_46 ?_
    refine lv_bipush (v := 8) hx hb dT_status_49 (by decide) ?_
    refine lv_aload_n hx hb dT_status_51 rfl (lv_at hl 0 rfl) ?_
    refine va_get (D := D) (ci := 0) (v := .int x.2.2.2.2.2.1) (C := cnT) (T := ftT) (N := 7) hx hb hts inT hown hK hP 0 rfl rfl 6 (by decide) (hts _ mw88) (fun _ h9 => h9) rfl dT_status_52 ?_
    refine lv_imul hx hb dT_status_55 ?_
    refine lv_iadd hx hb dT_status_56 ?_
    exact kretP (by first | (rw [zt_status, if_neg (show ¬ (1 : Int32) = 0 by decide), if_pos (rfl : (1 : Int32) = 1)]; done) | exact ((if_neg (show ¬ (1 : Int32) = 0 by decide)).trans (if_pos (rfl : (1 : Int32) = 1)))) hx hb hr hlk hS hP hD hK dT_status_57
  by_cases q2 : g1 = 2
  ·
    subst q2
    refine lv_tableIn (x := 2) (off := 57) (tgt := 58) hx hb dT_status_1 (by decide) (by decide) (by decide) (by decide) ?_
    refine lv_aload_n hx hb dT_status_58 rfl (lv_at hl 0 rfl) ?_
    refine va_get (D := D) (ci := 0) (v := .ref au) (C := cnT) (T := ftT) (N := 7) hx hb hts inT hown hK hP 0 rfl rfl 0 (by decide) (hts _ mw82) (fun _ h9 => h9) rfl dT_status_59 ?_
    refine va_getN (D := D) (ci := 1) (v := .int x.1.2) (C := cnR) (T := ftR) (N := 2) hx hb hts inR hown hK hP 1 rfl rfl 1 (by decide) (va_Nw.use rfl (hNw _ mw45)) (fun _ h9 => h9) rfl dT_status_62 ?_
    exact kretP (by first | (rw [zt_status, if_neg (show ¬ (2 : Int32) = 0 by decide), if_neg (show ¬ (2 : Int32) = 1 by decide), if_pos (rfl : (2 : Int32) = 2)]; done) | exact ((if_neg (show ¬ (2 : Int32) = 0 by decide)).trans ((if_neg (show ¬ (2 : Int32) = 1 by decide)).trans (if_pos (rfl : (2 : Int32) = 2))))) hx hb hr hlk hS hP hD hK dT_status_65
  by_cases q3 : g1 = 3
  ·
    subst q3
    refine lv_tableIn (x := 3) (off := 65) (tgt := 66) hx hb dT_status_1 (by decide) (by decide) (by decide) (by decide) ?_
    refine lv_aload_n hx hb dT_status_66 rfl (lv_at hl 0 rfl) ?_
    refine va_get (D := D) (ci := 0) (v := .ref af) (C := cnT) (T := ftT) (N := 7) hx hb hts inT hown hK hP 0 rfl rfl 1 (by decide) (hts _ mw83) (fun _ h9 => h9) rfl dT_status_67 ?_
    refine va_getN (D := D) (ci := 1) (v := .int x.2.1.2) (C := cnR) (T := ftR) (N := 2) hx hb hts inR hown hK hP 2 rfl rfl 1 (by decide) (va_Nw.use rfl (hNw _ mw45)) (fun _ h9 => h9) rfl dT_status_70 ?_
    exact kretP (by first | (rw [zt_status, if_neg (show ¬ (3 : Int32) = 0 by decide), if_neg (show ¬ (3 : Int32) = 1 by decide), if_neg (show ¬ (3 : Int32) = 2 by decide), if_pos (rfl : (3 : Int32) = 3)]; done) | exact ((if_neg (show ¬ (3 : Int32) = 0 by decide)).trans ((if_neg (show ¬ (3 : Int32) = 1 by decide)).trans ((if_neg (show ¬ (3 : Int32) = 2 by decide)).trans (if_pos (rfl : (3 : Int32) = 3)))))) hx hb hr hlk hS hP hD hK dT_status_73
  by_cases q4 : g1 = 4
  ·
    subst q4
    refine lv_tableIn (x := 4) (off := 73) (tgt := 74) hx hb dT_status_1 (by decide) (by decide) (by decide) (by decide) ?_
    refine lv_aload_n hx hb dT_status_74 rfl (lv_at hl 0 rfl) ?_
    refine va_get (D := D) (ci := 0) (v := .ref ak) (C := cnT) (T := ftT) (N := 7) hx hb hts inT hown hK hP 0 rfl rfl 2 (by decide) (hts _ mw84) (fun _ h9 => h9) rfl dT_status_75 ?_
    refine va_getN (D := D) (ci := 2) (v := .int (nI x.2.2.2.2.2.2.1)) (C := cnK) (T := ftK) (N := 6) hx hb hts inK hown hK hP 3 rfl rfl 4 (by decide) (va_Nw.use rfl (hNw _ mw65)) (fun _ h9 => h9) rfl dT_status_78 ?_
    exact kretP (by first | (rw [zt_status, if_neg (show ¬ (4 : Int32) = 0 by decide), if_neg (show ¬ (4 : Int32) = 1 by decide), if_neg (show ¬ (4 : Int32) = 2 by decide), if_neg (show ¬ (4 : Int32) = 3 by decide), if_pos (rfl : (4 : Int32) = 4)]; done) | exact ((if_neg (show ¬ (4 : Int32) = 0 by decide)).trans ((if_neg (show ¬ (4 : Int32) = 1 by decide)).trans ((if_neg (show ¬ (4 : Int32) = 2 by decide)).trans ((if_neg (show ¬ (4 : Int32) = 3 by decide)).trans (if_pos (rfl : (4 : Int32) = 4))))))) hx hb hr hlk hS hP hD hK dT_status_81
  by_cases q5 : g1 = 5
  ·
    subst q5
    refine lv_tableIn (x := 5) (off := 81) (tgt := 82) hx hb dT_status_1 (by decide) (by decide) (by decide) (by decide) ?_
    refine lv_aload_n hx hb dT_status_82 rfl (lv_at hl 0 rfl) ?_
    refine va_get (D := D) (ci := 0) (v := .ref ak) (C := cnT) (T := ftT) (N := 7) hx hb hts inT hown hK hP 0 rfl rfl 2 (by decide) (hts _ mw84) (fun _ h9 => h9) rfl dT_status_83 ?_
    refine va_getN (D := D) (ci := 2) (v := .int x.2.2.2.2.2.2.2.1) (C := cnK) (T := ftK) (N := 6) hx hb hts inK hown hK hP 3 rfl rfl 5 (by decide) (va_Nw.use rfl (hNw _ mw67)) (fun _ h9 => h9) rfl dT_status_86 ?_
    exact kretP (by first | (rw [zt_status, if_neg (show ¬ (5 : Int32) = 0 by decide), if_neg (show ¬ (5 : Int32) = 1 by decide), if_neg (show ¬ (5 : Int32) = 2 by decide), if_neg (show ¬ (5 : Int32) = 3 by decide), if_neg (show ¬ (5 : Int32) = 4 by decide), if_pos (rfl : (5 : Int32) = 5)]; done) | exact ((if_neg (show ¬ (5 : Int32) = 0 by decide)).trans ((if_neg (show ¬ (5 : Int32) = 1 by decide)).trans ((if_neg (show ¬ (5 : Int32) = 2 by decide)).trans ((if_neg (show ¬ (5 : Int32) = 3 by decide)).trans ((if_neg (show ¬ (5 : Int32) = 4 by decide)).trans (if_pos (rfl : (5 : Int32) = 5)))))))) hx hb hr hlk hS hP hD hK dT_status_89
  refine lv_tableOut (tgt := 90) hx hb dT_status_1 (ksw6 q0 q1 q2 q3 q4 q5) (by decide) ?_
  refine lv_iconst (v := (-1)) hx hb dT_status_90 (by decide) ?_
  exact kretP (by first | (rw [zt_status, if_neg q0, if_neg q1, if_neg q2, if_neg q3, if_neg q4, if_neg q5]; done) | exact ((if_neg q0).trans ((if_neg q1).trans ((if_neg q2).trans ((if_neg q3).trans ((if_neg q4).trans (if_neg q5))))))) hx hb hr hlk hS hP hD hK dT_status_91
end
