-- ===== PART A: goes FIRST, ahead of the names: the tables' words, and 'selects' of the private methods out of them =====
/-- a private method of a class that the tables say can be made, by its rows of tables_1 -/
def lw_okq (q : MethodName × Nat) : Prop := (q.1.cls ≠ "java/lang/invoke/MethodHandle" ∧ q.1.cls ≠ "java/lang/invoke/VarHandle") ∧ Cond.instantiable q.1.cls q.2 ∈ tables_1 ∧ Cond.privateMethod q.1 ∈ tables_1 ∧ Cond.instanceMethod q.1 ∈ tables_1
theorem lw_p0 : lw_okq (⟨"HandleToken", "isOpen", "(I)Z"⟩, 7) := ⟨⟨by decide +kernel, by decide +kernel⟩, List.mem_of_getElem? (i := 7) (by decide +kernel), List.mem_of_getElem? (i := 86) (by decide +kernel), List.mem_of_getElem? (i := 87) (by decide +kernel)⟩
theorem lw_p1 : lw_okq (⟨"HandleToken$KeyTable", "removeOwnedBy", "(I)V"⟩, 6) := ⟨⟨by decide +kernel, by decide +kernel⟩, List.mem_of_getElem? (i := 29) (by decide +kernel), List.mem_of_getElem? (i := 94) (by decide +kernel), List.mem_of_getElem? (i := 95) (by decide +kernel)⟩
theorem lw_p2 : lw_okq (⟨"HandleToken$KeyTable", "removeRow", "(I)V"⟩, 6) := ⟨⟨by decide +kernel, by decide +kernel⟩, List.mem_of_getElem? (i := 29) (by decide +kernel), List.mem_of_getElem? (i := 98) (by decide +kernel), List.mem_of_getElem? (i := 99) (by decide +kernel)⟩
theorem lw_p3 : lw_okq (⟨"HandleToken$Role", "tryPin", "(I)I"⟩, 2) := ⟨⟨by decide +kernel, by decide +kernel⟩, List.mem_of_getElem? (i := 15) (by decide +kernel), List.mem_of_getElem? (i := 106) (by decide +kernel), List.mem_of_getElem? (i := 107) (by decide +kernel)⟩
theorem lw_p4 : lw_okq (⟨"HandleToken$KeyTable", "removePrivateSessionKeys", "()V"⟩, 6) := ⟨⟨by decide +kernel, by decide +kernel⟩, List.mem_of_getElem? (i := 29) (by decide +kernel), List.mem_of_getElem? (i := 114) (by decide +kernel), List.mem_of_getElem? (i := 115) (by decide +kernel)⟩
theorem lw_p5 : lw_okq (⟨"HandleToken$KeyTable", "has", "(II)Z"⟩, 6) := ⟨⟨by decide +kernel, by decide +kernel⟩, List.mem_of_getElem? (i := 29) (by decide +kernel), List.mem_of_getElem? (i := 118) (by decide +kernel), List.mem_of_getElem? (i := 119) (by decide +kernel)⟩
theorem lw_p6 : lw_okq (⟨"HandleToken$Role", "renew", "(I)V"⟩, 2) := ⟨⟨by decide +kernel, by decide +kernel⟩, List.mem_of_getElem? (i := 15) (by decide +kernel), List.mem_of_getElem? (i := 126) (by decide +kernel), List.mem_of_getElem? (i := 127) (by decide +kernel)⟩
theorem lw_p7 : lw_okq (⟨"HandleToken", "refusalToMake", "(IIZ)I"⟩, 7) := ⟨⟨by decide +kernel, by decide +kernel⟩, List.mem_of_getElem? (i := 7) (by decide +kernel), List.mem_of_getElem? (i := 134) (by decide +kernel), List.mem_of_getElem? (i := 135) (by decide +kernel)⟩
theorem lw_p8 : lw_okq (⟨"HandleToken", "isReadWrite", "(I)Z"⟩, 7) := ⟨⟨by decide +kernel, by decide +kernel⟩, List.mem_of_getElem? (i := 7) (by decide +kernel), List.mem_of_getElem? (i := 138) (by decide +kernel), List.mem_of_getElem? (i := 139) (by decide +kernel)⟩
theorem lw_p9 : lw_okq (⟨"HandleToken$KeyTable", "add", "(III)I"⟩, 6) := ⟨⟨by decide +kernel, by decide +kernel⟩, List.mem_of_getElem? (i := 29) (by decide +kernel), List.mem_of_getElem? (i := 148) (by decide +kernel), List.mem_of_getElem? (i := 149) (by decide +kernel)⟩
theorem lw_p10 : lw_okq (⟨"HandleToken", "rowOrRefusal", "(II)I"⟩, 7) := ⟨⟨by decide +kernel, by decide +kernel⟩, List.mem_of_getElem? (i := 7) (by decide +kernel), List.mem_of_getElem? (i := 171) (by decide +kernel), List.mem_of_getElem? (i := 172) (by decide +kernel)⟩
theorem lw_p11 : lw_okq (⟨"HandleToken$KeyTable", "rowWith", "(I)I"⟩, 6) := ⟨⟨by decide +kernel, by decide +kernel⟩, List.mem_of_getElem? (i := 29) (by decide +kernel), List.mem_of_getElem? (i := 175) (by decide +kernel), List.mem_of_getElem? (i := 176) (by decide +kernel)⟩
theorem lw_p12 : lw_okq (⟨"HandleToken", "isVisible", "(I)Z"⟩, 7) := ⟨⟨by decide +kernel, by decide +kernel⟩, List.mem_of_getElem? (i := 7) (by decide +kernel), List.mem_of_getElem? (i := 179) (by decide +kernel), List.mem_of_getElem? (i := 180) (by decide +kernel)⟩
theorem lw_p13 : lw_okq (⟨"HandleToken", "isFixedFor", "(II)Z"⟩, 7) := ⟨⟨by decide +kernel, by decide +kernel⟩, List.mem_of_getElem? (i := 7) (by decide +kernel), List.mem_of_getElem? (i := 184) (by decide +kernel), List.mem_of_getElem? (i := 185) (by decide +kernel)⟩
theorem lw_p14 : lw_okq (⟨"HandleToken", "rowForUse", "(III)I"⟩, 7) := ⟨⟨by decide +kernel, by decide +kernel⟩, List.mem_of_getElem? (i := 7) (by decide +kernel), List.mem_of_getElem? (i := 214) (by decide +kernel), List.mem_of_getElem? (i := 215) (by decide +kernel)⟩
theorem lw_p15 : lw_okq (⟨"HandleTokenModel", "closed", "(I)Z"⟩, 10) := ⟨⟨by decide +kernel, by decide +kernel⟩, List.mem_of_getElem? (i := 261) (by decide +kernel), List.mem_of_getElem? (i := 307) (by decide +kernel), List.mem_of_getElem? (i := 308) (by decide +kernel)⟩
def lw_privs_1 : List (MethodName × Nat) := [(⟨"HandleToken", "isOpen", "(I)Z"⟩, 7), (⟨"HandleToken$KeyTable", "removeOwnedBy", "(I)V"⟩, 6), (⟨"HandleToken$KeyTable", "removeRow", "(I)V"⟩, 6), (⟨"HandleToken$Role", "tryPin", "(I)I"⟩, 2), (⟨"HandleToken$KeyTable", "removePrivateSessionKeys", "()V"⟩, 6), (⟨"HandleToken$KeyTable", "has", "(II)Z"⟩, 6), (⟨"HandleToken$Role", "renew", "(I)V"⟩, 2), (⟨"HandleToken", "refusalToMake", "(IIZ)I"⟩, 7), (⟨"HandleToken", "isReadWrite", "(I)Z"⟩, 7), (⟨"HandleToken$KeyTable", "add", "(III)I"⟩, 6), (⟨"HandleToken", "rowOrRefusal", "(II)I"⟩, 7), (⟨"HandleToken$KeyTable", "rowWith", "(I)I"⟩, 6), (⟨"HandleToken", "isVisible", "(I)Z"⟩, 7), (⟨"HandleToken", "isFixedFor", "(II)Z"⟩, 7), (⟨"HandleToken", "rowForUse", "(III)I"⟩, 7), (⟨"HandleTokenModel", "closed", "(I)Z"⟩, 10)]
theorem lw_r1 : ∀ q ∈ lw_privs_1, lw_okq q := List.forall_mem_cons.mpr ⟨lw_p0, List.forall_mem_cons.mpr ⟨lw_p1, List.forall_mem_cons.mpr ⟨lw_p2, List.forall_mem_cons.mpr ⟨lw_p3, List.forall_mem_cons.mpr ⟨lw_p4, List.forall_mem_cons.mpr ⟨lw_p5, List.forall_mem_cons.mpr ⟨lw_p6, List.forall_mem_cons.mpr ⟨lw_p7, List.forall_mem_cons.mpr ⟨lw_p8, List.forall_mem_cons.mpr ⟨lw_p9, List.forall_mem_cons.mpr ⟨lw_p10, List.forall_mem_cons.mpr ⟨lw_p11, List.forall_mem_cons.mpr ⟨lw_p12, List.forall_mem_cons.mpr ⟨lw_p13, List.forall_mem_cons.mpr ⟨lw_p14, List.forall_mem_cons.mpr ⟨lw_p15, fun _ h => absurd h List.not_mem_nil⟩⟩⟩⟩⟩⟩⟩⟩⟩⟩⟩⟩⟩⟩⟩⟩
theorem lw_p16 : lw_okq (⟨"HandleTokenModel", "obstacle", "(IIZ)I"⟩, 10) := ⟨⟨by decide +kernel, by decide +kernel⟩, List.mem_of_getElem? (i := 261) (by decide +kernel), List.mem_of_getElem? (i := 330) (by decide +kernel), List.mem_of_getElem? (i := 331) (by decide +kernel)⟩
theorem lw_p17 : lw_okq (⟨"HandleTokenModel", "readOnly", "(II)Z"⟩, 10) := ⟨⟨by decide +kernel, by decide +kernel⟩, List.mem_of_getElem? (i := 261) (by decide +kernel), List.mem_of_getElem? (i := 334) (by decide +kernel), List.mem_of_getElem? (i := 335) (by decide +kernel)⟩
theorem lw_p18 : lw_okq (⟨"HandleTokenModel", "count", "()I"⟩, 10) := ⟨⟨by decide +kernel, by decide +kernel⟩, List.mem_of_getElem? (i := 261) (by decide +kernel), List.mem_of_getElem? (i := 341) (by decide +kernel), List.mem_of_getElem? (i := 342) (by decide +kernel)⟩
theorem lw_p19 : lw_okq (⟨"HandleTokenModel", "enter", "(III)I"⟩, 10) := ⟨⟨by decide +kernel, by decide +kernel⟩, List.mem_of_getElem? (i := 261) (by decide +kernel), List.mem_of_getElem? (i := 345) (by decide +kernel), List.mem_of_getElem? (i := 346) (by decide +kernel)⟩
theorem lw_p20 : lw_okq (⟨"HandleTokenModel", "hidden", "(I)Z"⟩, 10) := ⟨⟨by decide +kernel, by decide +kernel⟩, List.mem_of_getElem? (i := 261) (by decide +kernel), List.mem_of_getElem? (i := 362) (by decide +kernel), List.mem_of_getElem? (i := 363) (by decide +kernel)⟩
theorem lw_p21 : lw_okq (⟨"HandleTokenModel", "visible", "(I)Z"⟩, 10) := ⟨⟨by decide +kernel, by decide +kernel⟩, List.mem_of_getElem? (i := 261) (by decide +kernel), List.mem_of_getElem? (i := 366) (by decide +kernel), List.mem_of_getElem? (i := 367) (by decide +kernel)⟩
theorem lw_p22 : lw_okq (⟨"HandleTokenModel", "bar", "(IIII)I"⟩, 10) := ⟨⟨by decide +kernel, by decide +kernel⟩, List.mem_of_getElem? (i := 261) (by decide +kernel), List.mem_of_getElem? (i := 386) (by decide +kernel), List.mem_of_getElem? (i := 387) (by decide +kernel)⟩
def lw_privs_2 : List (MethodName × Nat) := [(⟨"HandleTokenModel", "obstacle", "(IIZ)I"⟩, 10), (⟨"HandleTokenModel", "readOnly", "(II)Z"⟩, 10), (⟨"HandleTokenModel", "count", "()I"⟩, 10), (⟨"HandleTokenModel", "enter", "(III)I"⟩, 10), (⟨"HandleTokenModel", "hidden", "(I)Z"⟩, 10), (⟨"HandleTokenModel", "visible", "(I)Z"⟩, 10), (⟨"HandleTokenModel", "bar", "(IIII)I"⟩, 10)]
theorem lw_r2 : ∀ q ∈ lw_privs_2, lw_okq q := List.forall_mem_cons.mpr ⟨lw_p16, List.forall_mem_cons.mpr ⟨lw_p17, List.forall_mem_cons.mpr ⟨lw_p18, List.forall_mem_cons.mpr ⟨lw_p19, List.forall_mem_cons.mpr ⟨lw_p20, List.forall_mem_cons.mpr ⟨lw_p21, List.forall_mem_cons.mpr ⟨lw_p22, fun _ h => absurd h List.not_mem_nil⟩⟩⟩⟩⟩⟩⟩
def lw_privs : List (MethodName × Nat) := lw_privs_1 ++ (lw_privs_2)
def lw_tbl : List Cond := k2_sels lw_privs ++ tables_1
theorem lw_privs_ok : ∀ q ∈ lw_privs, lw_okq q := by
  show ∀ q ∈ lw_privs_1 ++ (lw_privs_2), lw_okq q
  exact List.forall_mem_append.mpr ⟨lw_r1, lw_r2⟩
-- ===== end of PART A; then your names; then what follows =====
/-! THE CLAIM OUT OF ONE WALK OF THE LAW'S BODY. Your part is whole_start (and what it stands on); all else here is the same for every law, but numbers. -/
def R_law : String := "HandleTokenLaw"
def lw_P (b : Addr) (xs : List Int32) (args : Array Value) (s : State) : Prop := args = #[.ref b] ∧ s.IntsAt b xs ∧ xs.length ≤ 3074 ∧ (Jvm.Cond.and given_1 narrow_1).before args s = true
def lw_Q (_ : Array Value) (s : State) (o : Outcome) (t : State) : Prop := o = .returned (some (.int 1)) ∧ Framed s o t [] 16 2124
def lw_Z (below : List Frame) (a : Array Value) (s : State) : State → Prop := fun t => ∃ o, t.status = .running ∧ Ended t below o ∧ lw_Q a s o t
/-- the law's own end, with 1 on the stack, nothing written that was there before, its room as the claim has it -/
theorem lw_ret {p : Program} {l : Launch} {e : Env} {s : State} {m : MethodId} {below : List Frame} {meth : Method} {c : Code} {b : Nat} (hx : p.tables.exec = Jvm.exec) (hb : c.code = code) (hr : meth.sig.returnType = ret) (hlocks : meth.locks = false) {pc : Nat} {H : Heap} {ls : Array Slot} (hdg : decode code pc = .ok (.ireturn, 1)) : W p l e room_1 s m #[Value.ref b] below meth c H [] 16 2124 (lw_Z below #[Value.ref b] s) (F0 m pc ls [.int 1]) := by
  intro T hT X
  obtain ⟨fs, hret, hrun, hended, hW, hframe⟩ := X.leave (v := some (.int 1)) (hlocks := hlocks) (fun h => by rw [hr] at h; cases h)
  have hmeth' : T.vm.method? m = some meth := X.method'
  refine ⟨T.setFrames fs, ?_, .returned (some (.int 1)), hrun, hended, rfl, ⟨_, rfl⟩, hW, hframe⟩
  jvm_step X.here [X.here.top, hx, hb, hdg, hmeth', hr, ret, narrow_b1]
  (try refine ⟨rfl, ?_⟩); (try refine ⟨rfl, ?_⟩)
  first | (intro acts; rw [hret _ acts rfl rfl rfl]) | rw [hret _ _ rfl rfl rfl]
  exact Steps.refl _
/-- what holds at the law's entry: the machine, the code, the tables' words (any of lw_tbl by 'hts w (by decide +kernel)'), the script of L ints xs at the cell b, what the Statement gives of the start (any of its parts by flat_of_before) -/
def lw_At (p : Program) (s : State) (m : MethodId) (meth : Method) (c : Code) (b L : Nat) (xs : Nat → Int32) : Prop :=
  p.tables.exec = Jvm.exec ∧ c.code = code ∧ meth.sig.returnType = ret ∧ c.maxLocals = 4 ∧ s.vm.findClass R_law = some m.cls ∧ (∀ w ∈ lw_tbl, w.before #[Value.ref b] s = true) ∧ va_X b L xs s s.heap ∧ b < s.heap.size ∧ meth.locks = false ∧ (Jvm.Cond.and given_1 narrow_1).before #[Value.ref b] s = true
/-- the words of the tables that hold in a callee too -/
def lw_g : List Cond := lw_tbl.filter goodWord
def cnT : String := "HandleToken"
def ftT : u_T := fun k => match k with
  | 0 => ("HandleToken", "userRole", "LHandleToken$Role;", true)
  | 1 => ("HandleToken", "officerRole", "LHandleToken$Role;", true)
  | 2 => ("HandleToken", "keys", "LHandleToken$KeyTable;", true)
  | 3 => ("HandleToken", "loggedIn", "I", false)
  | 4 => ("HandleToken", "generatedCount", "I", false)
  | 5 => ("HandleToken", "openSessions", "I", false)
  | _ => ("HandleToken", "readWriteSessions", "I", false)
def tyT : Nat → FieldType := fun k => match k with
  | 0 => (.object "HandleToken$Role")
  | 1 => (.object "HandleToken$Role")
  | 2 => (.object "HandleToken$KeyTable")
  | 3 => (.int)
  | 4 => (.int)
  | 5 => (.int)
  | _ => (.int)
theorem nmT : ∀ a, a < 7 → ∀ b, b < 7 → a ≠ b → (ftT a).2.1 ≠ (ftT b).2.1 := by decide +kernel
theorem tyT_ok : ∀ k, k < 7 → parseFieldDescriptor (ftT k).2.2.1 = some (tyT k) := by decide +kernel
theorem inT : ∀ w ∈ u_ws cnT ftT 7, w ∈ lw_g := by decide +kernel
def cnR : String := "HandleToken$Role"
def ftR : u_T := fun k => match k with
  | 0 => ("HandleToken$Role", "pin", "I", false)
  | _ => ("HandleToken$Role", "failures", "I", false)
def tyR : Nat → FieldType := fun k => match k with
  | 0 => (.int)
  | _ => (.int)
theorem nmR : ∀ a, a < 2 → ∀ b, b < 2 → a ≠ b → (ftR a).2.1 ≠ (ftR b).2.1 := by decide +kernel
theorem tyR_ok : ∀ k, k < 2 → parseFieldDescriptor (ftR k).2.2.1 = some (tyR k) := by decide +kernel
theorem inR : ∀ w ∈ u_ws cnR ftR 2, w ∈ lw_g := by decide +kernel
def cnK : String := "HandleToken$KeyTable"
def ftK : u_T := fun k => match k with
  | 0 => ("HandleToken$KeyTable", "handleOf", "[I", true)
  | 1 => ("HandleToken$KeyTable", "attributesOf", "[I", true)
  | 2 => ("HandleToken$KeyTable", "valueOf", "[I", true)
  | 3 => ("HandleToken$KeyTable", "ownerOf", "[I", true)
  | 4 => ("HandleToken$KeyTable", "size", "I", false)
  | _ => ("HandleToken$KeyTable", "made", "I", false)
def tyK : Nat → FieldType := fun k => match k with
  | 0 => (.array .int)
  | 1 => (.array .int)
  | 2 => (.array .int)
  | 3 => (.array .int)
  | 4 => (.int)
  | _ => (.int)
theorem nmK : ∀ a, a < 6 → ∀ b, b < 6 → a ≠ b → (ftK a).2.1 ≠ (ftK b).2.1 := by decide +kernel
theorem tyK_ok : ∀ k, k < 6 → parseFieldDescriptor (ftK k).2.2.1 = some (tyK k) := by decide +kernel
theorem inK : ∀ w ∈ u_ws cnK ftK 6, w ∈ lw_g := by decide +kernel
def cnM : String := "HandleTokenModel"
def ftM : u_T := fun k => match k with
  | 0 => ("HandleTokenModel", "session", "[I", false)
  | 1 => ("HandleTokenModel", "inside", "I", false)
  | 2 => ("HandleTokenModel", "pins", "[I", false)
  | 3 => ("HandleTokenModel", "failures", "[I", false)
  | 4 => ("HandleTokenModel", "made", "I", false)
  | 5 => ("HandleTokenModel", "generated", "I", false)
  | 6 => ("HandleTokenModel", "there", "[Z", false)
  | 7 => ("HandleTokenModel", "value", "[I", false)
  | 8 => ("HandleTokenModel", "owner", "[I", false)
  | _ => ("HandleTokenModel", "marks", "[I", false)
def tyM : Nat → FieldType := fun k => match k with
  | 0 => (.array .int)
  | 1 => (.int)
  | 2 => (.array .int)
  | 3 => (.array .int)
  | 4 => (.int)
  | 5 => (.int)
  | 6 => (.array .boolean)
  | 7 => (.array .int)
  | 8 => (.array .int)
  | _ => (.array .int)
theorem nmM : ∀ a, a < 10 → ∀ b, b < 10 → a ≠ b → (ftM a).2.1 ≠ (ftM b).2.1 := by decide +kernel
theorem tyM_ok : ∀ k, k < 10 → parseFieldDescriptor (ftM k).2.2.1 = some (tyM k) := by decide +kernel
theorem inM : ∀ w ∈ u_ws cnM ftM 10, w ∈ lw_g := by decide +kernel
def cnW : String := "HandleToken$Words"
abbrev vwCl : List vw_C := [(cnT, ftT, 7), (cnR, ftR, 2), (cnK, ftK, 6), (cnM, ftM, 10)]
abbrev cT_init : ByteArray := prog_1_method_1_code
def yT_init : MethodName := ⟨cnT, "<init>", "(II)V"⟩
def wsT_init : List Cond := .code yT_init cT_init 3 none :: lw_g
abbrev cT_open : ByteArray := prog_1_method_2_code
def yT_open : MethodName := ⟨cnT, "open", "(Z)I"⟩
def wsT_open : List Cond := .code yT_open cT_open 3 (some .int) :: lw_g
abbrev cT_close : ByteArray := prog_1_method_3_code
def yT_close : MethodName := ⟨cnT, "close", "(I)I"⟩
def wsT_close : List Cond := .code yT_close cT_close 2 (some .int) :: lw_g
abbrev cT_login : ByteArray := prog_1_method_4_code
def yT_login : MethodName := ⟨cnT, "login", "(IZI)I"⟩
def wsT_login : List Cond := .code yT_login cT_login 6 (some .int) :: lw_g
abbrev cT_logout : ByteArray := prog_1_method_5_code
def yT_logout : MethodName := ⟨cnT, "logout", "(I)I"⟩
def wsT_logout : List Cond := .code yT_logout cT_logout 2 (some .int) :: lw_g
abbrev cT_unlock : ByteArray := prog_1_method_6_code
def yT_unlock : MethodName := ⟨cnT, "unlock", "(II)I"⟩
def wsT_unlock : List Cond := .code yT_unlock cT_unlock 3 (some .int) :: lw_g
abbrev cT_create : ByteArray := prog_1_method_7_code
def yT_create : MethodName := ⟨cnT, "create", "(III)I"⟩
def wsT_create : List Cond := .code yT_create cT_create 5 (some .int) :: lw_g
abbrev cT_generate : ByteArray := prog_1_method_8_code
def yT_generate : MethodName := ⟨cnT, "generate", "(II)I"⟩
def wsT_generate : List Cond := .code yT_generate cT_generate 5 (some .int) :: lw_g
abbrev cT_destroy : ByteArray := prog_1_method_9_code
def yT_destroy : MethodName := ⟨cnT, "destroy", "(II)I"⟩
def wsT_destroy : List Cond := .code yT_destroy cT_destroy 4 (some .int) :: lw_g
abbrev cT_attributes : ByteArray := prog_1_method_10_code
def yT_attributes : MethodName := ⟨cnT, "attributes", "(II)I"⟩
def wsT_attributes : List Cond := .code yT_attributes cT_attributes 4 (some .int) :: lw_g
abbrev cT_limit : ByteArray := prog_1_method_11_code
def yT_limit : MethodName := ⟨cnT, "limit", "(III)I"⟩
def wsT_limit : List Cond := .code yT_limit cT_limit 6 (some .int) :: lw_g
abbrev cT_trust : ByteArray := prog_1_method_12_code
def yT_trust : MethodName := ⟨cnT, "trust", "(II)I"⟩
def wsT_trust : List Cond := .code yT_trust cT_trust 4 (some .int) :: lw_g
abbrev cT_read : ByteArray := prog_1_method_13_code
def yT_read : MethodName := ⟨cnT, "read", "(II)J"⟩
def wsT_read : List Cond := .code yT_read cT_read 4 (some .long) :: lw_g
abbrev cT_encrypt : ByteArray := prog_1_method_14_code
def yT_encrypt : MethodName := ⟨cnT, "encrypt", "(III)J"⟩
def wsT_encrypt : List Cond := .code yT_encrypt cT_encrypt 5 (some .long) :: lw_g
abbrev cT_decrypt : ByteArray := prog_1_method_15_code
def yT_decrypt : MethodName := ⟨cnT, "decrypt", "(III)J"⟩
def wsT_decrypt : List Cond := .code yT_decrypt cT_decrypt 5 (some .long) :: lw_g
abbrev cT_sign : ByteArray := prog_1_method_16_code
def yT_sign : MethodName := ⟨cnT, "sign", "(III)J"⟩
def wsT_sign : List Cond := .code yT_sign cT_sign 5 (some .long) :: lw_g
abbrev cT_wrap : ByteArray := prog_1_method_17_code
def yT_wrap : MethodName := ⟨cnT, "wrap", "(III)J"⟩
def wsT_wrap : List Cond := .code yT_wrap cT_wrap 9 (some .long) :: lw_g
abbrev cT_unwrap : ByteArray := prog_1_method_18_code
def yT_unwrap : MethodName := ⟨cnT, "unwrap", "(IIJI)I"⟩
def wsT_unwrap : List Cond := .code yT_unwrap cT_unwrap 11 (some .int) :: lw_g
abbrev cT_find : ByteArray := prog_1_method_19_code
def yT_find : MethodName := ⟨cnT, "find", "(II)I"⟩
def wsT_find : List Cond := .code yT_find cT_find 5 (some .int) :: lw_g
abbrev cT_status : ByteArray := prog_1_method_20_code
def yT_status : MethodName := ⟨cnT, "status", "(I)I"⟩
def wsT_status : List Cond := .code yT_status cT_status 2 (some .int) :: lw_g
abbrev cT_isOpen : ByteArray := prog_1_method_21_code
def yT_isOpen : MethodName := ⟨cnT, "isOpen", "(I)Z"⟩
def wsT_isOpen : List Cond := .code yT_isOpen cT_isOpen 2 (some .boolean) :: lw_g
abbrev cT_isReadWrite : ByteArray := prog_1_method_22_code
def yT_isReadWrite : MethodName := ⟨cnT, "isReadWrite", "(I)Z"⟩
def wsT_isReadWrite : List Cond := .code yT_isReadWrite cT_isReadWrite 2 (some .boolean) :: lw_g
abbrev cT_isVisible : ByteArray := prog_1_method_23_code
def yT_isVisible : MethodName := ⟨cnT, "isVisible", "(I)Z"⟩
def wsT_isVisible : List Cond := .code yT_isVisible cT_isVisible 2 (some .boolean) :: lw_g
abbrev cT_isFixedFor : ByteArray := prog_1_method_24_code
def yT_isFixedFor : MethodName := ⟨cnT, "isFixedFor", "(II)Z"⟩
def wsT_isFixedFor : List Cond := .code yT_isFixedFor cT_isFixedFor 3 (some .boolean) :: lw_g
abbrev cT_rowOrRefusal : ByteArray := prog_1_method_25_code
def yT_rowOrRefusal : MethodName := ⟨cnT, "rowOrRefusal", "(II)I"⟩
def wsT_rowOrRefusal : List Cond := .code yT_rowOrRefusal cT_rowOrRefusal 4 (some .int) :: lw_g
abbrev cT_rowForUse : ByteArray := prog_1_method_26_code
def yT_rowForUse : MethodName := ⟨cnT, "rowForUse", "(III)I"⟩
def wsT_rowForUse : List Cond := .code yT_rowForUse cT_rowForUse 5 (some .int) :: lw_g
abbrev cT_refusalToMake : ByteArray := prog_1_method_27_code
def yT_refusalToMake : MethodName := ⟨cnT, "refusalToMake", "(IIZ)I"⟩
def wsT_refusalToMake : List Cond := .code yT_refusalToMake cT_refusalToMake 4 (some .int) :: lw_g
abbrev cT_areGood : ByteArray := prog_1_method_28_code
def yT_areGood : MethodName := ⟨cnT, "areGood", "(I)Z"⟩
def wsT_areGood : List Cond := .code yT_areGood cT_areGood 1 (some .boolean) :: lw_g
abbrev cT_hasBoth : ByteArray := prog_1_method_29_code
def yT_hasBoth : MethodName := ⟨cnT, "hasBoth", "(III)Z"⟩
def wsT_hasBoth : List Cond := .code yT_hasBoth cT_hasBoth 3 (some .boolean) :: lw_g
abbrev cT_originOf : ByteArray := prog_1_method_30_code
def yT_originOf : MethodName := ⟨cnT, "originOf", "(I)I"⟩
def wsT_originOf : List Cond := .code yT_originOf cT_originOf 3 (some .int) :: lw_g
abbrev cT_answered : ByteArray := prog_1_method_31_code
def yT_answered : MethodName := ⟨cnT, "answered", "(I)J"⟩
def wsT_answered : List Cond := .code yT_answered cT_answered 1 (some .long) :: lw_g
abbrev cT_tagOf : ByteArray := prog_1_method_32_code
def yT_tagOf : MethodName := ⟨cnT, "tagOf", "(II)J"⟩
def wsT_tagOf : List Cond := .code yT_tagOf cT_tagOf 2 (some .long) :: lw_g
abbrev cR_init : ByteArray := prog_3_method_1_code
def yR_init : MethodName := ⟨cnR, "<init>", "(I)V"⟩
def wsR_init : List Cond := .code yR_init cR_init 2 none :: lw_g
abbrev cR_tryPin : ByteArray := prog_3_method_2_code
def yR_tryPin : MethodName := ⟨cnR, "tryPin", "(I)I"⟩
def wsR_tryPin : List Cond := .code yR_tryPin cR_tryPin 2 (some .int) :: lw_g
abbrev cR_renew : ByteArray := prog_3_method_3_code
def yR_renew : MethodName := ⟨cnR, "renew", "(I)V"⟩
def wsR_renew : List Cond := .code yR_renew cR_renew 2 none :: lw_g
abbrev cK_init : ByteArray := prog_2_method_1_code
def yK_init : MethodName := ⟨cnK, "<init>", "()V"⟩
def wsK_init : List Cond := .code yK_init cK_init 1 none :: lw_g
abbrev cK_has : ByteArray := prog_2_method_2_code
def yK_has : MethodName := ⟨cnK, "has", "(II)Z"⟩
def wsK_has : List Cond := .code yK_has cK_has 3 (some .boolean) :: lw_g
abbrev cK_rowWith : ByteArray := prog_2_method_3_code
def yK_rowWith : MethodName := ⟨cnK, "rowWith", "(I)I"⟩
def wsK_rowWith : List Cond := .code yK_rowWith cK_rowWith 3 (some .int) :: lw_g
abbrev cK_add : ByteArray := prog_2_method_4_code
def yK_add : MethodName := ⟨cnK, "add", "(III)I"⟩
def wsK_add : List Cond := .code yK_add cK_add 4 (some .int) :: lw_g
abbrev cK_removeRow : ByteArray := prog_2_method_5_code
def yK_removeRow : MethodName := ⟨cnK, "removeRow", "(I)V"⟩
def wsK_removeRow : List Cond := .code yK_removeRow cK_removeRow 3 none :: lw_g
abbrev cK_removeOwnedBy : ByteArray := prog_2_method_6_code
def yK_removeOwnedBy : MethodName := ⟨cnK, "removeOwnedBy", "(I)V"⟩
def wsK_removeOwnedBy : List Cond := .code yK_removeOwnedBy cK_removeOwnedBy 3 none :: lw_g
abbrev cK_removePrivateSessionKeys : ByteArray := prog_2_method_7_code
def yK_removePrivateSessionKeys : MethodName := ⟨cnK, "removePrivateSessionKeys", "()V"⟩
def wsK_removePrivateSessionKeys : List Cond := .code yK_removePrivateSessionKeys cK_removePrivateSessionKeys 2 none :: lw_g
abbrev cW_half : ByteArray := prog_4_method_2_code
def yW_half : MethodName := ⟨cnW, "half", "(III)I"⟩
def wsW_half : List Cond := .code yW_half cW_half 4 (some .int) :: lw_g
abbrev cW_enc : ByteArray := prog_4_method_3_code
def yW_enc : MethodName := ⟨cnW, "enc", "(II)I"⟩
def wsW_enc : List Cond := .code yW_enc cW_enc 6 (some .int) :: lw_g
abbrev cW_dec : ByteArray := prog_4_method_4_code
def yW_dec : MethodName := ⟨cnW, "dec", "(II)I"⟩
def wsW_dec : List Cond := .code yW_dec cW_dec 6 (some .int) :: lw_g
abbrev cW_mac : ByteArray := prog_4_method_5_code
def yW_mac : MethodName := ⟨cnW, "mac", "(II)I"⟩
def wsW_mac : List Cond := .code yW_mac cW_mac 4 (some .int) :: lw_g
abbrev cW_byteOf : ByteArray := prog_4_method_6_code
def yW_byteOf : MethodName := ⟨cnW, "byteOf", "(II)I"⟩
def wsW_byteOf : List Cond := .code yW_byteOf cW_byteOf 2 (some .int) :: lw_g
abbrev cM_init : ByteArray := prog_6_method_1_code
def yM_init : MethodName := ⟨cnM, "<init>", "(II)V"⟩
def wsM_init : List Cond := .code yM_init cM_init 3 none :: lw_g
abbrev cM_has : ByteArray := prog_6_method_2_code
def yM_has : MethodName := ⟨cnM, "has", "(II)Z"⟩
def wsM_has : List Cond := .code yM_has cM_has 2 (some .boolean) :: lw_g
abbrev cM_half : ByteArray := prog_6_method_3_code
def yM_half : MethodName := ⟨cnM, "half", "(III)I"⟩
def wsM_half : List Cond := .code yM_half cM_half 4 (some .int) :: lw_g
abbrev cM_rounds : ByteArray := prog_6_method_4_code
def yM_rounds : MethodName := ⟨cnM, "rounds", "(IIZ)I"⟩
def wsM_rounds : List Cond := .code yM_rounds cM_rounds 7 (some .int) :: lw_g
abbrev cM_mac : ByteArray := prog_6_method_5_code
def yM_mac : MethodName := ⟨cnM, "mac", "(II)I"⟩
def wsM_mac : List Cond := .code yM_mac cM_mac 4 (some .int) :: lw_g
abbrev cM_answer : ByteArray := prog_6_method_6_code
def yM_answer : MethodName := ⟨cnM, "answer", "(I)J"⟩
def wsM_answer : List Cond := .code yM_answer cM_answer 1 (some .long) :: lw_g
abbrev cM_closed : ByteArray := prog_6_method_7_code
def yM_closed : MethodName := ⟨cnM, "closed", "(I)Z"⟩
def wsM_closed : List Cond := .code yM_closed cM_closed 2 (some .boolean) :: lw_g
abbrev cM_visible : ByteArray := prog_6_method_8_code
def yM_visible : MethodName := ⟨cnM, "visible", "(I)Z"⟩
def wsM_visible : List Cond := .code yM_visible cM_visible 2 (some .boolean) :: lw_g
abbrev cM_hidden : ByteArray := prog_6_method_9_code
def yM_hidden : MethodName := ⟨cnM, "hidden", "(I)Z"⟩
def wsM_hidden : List Cond := .code yM_hidden cM_hidden 2 (some .boolean) :: lw_g
abbrev cM_readOnly : ByteArray := prog_6_method_10_code
def yM_readOnly : MethodName := ⟨cnM, "readOnly", "(II)Z"⟩
def wsM_readOnly : List Cond := .code yM_readOnly cM_readOnly 3 (some .boolean) :: lw_g
abbrev cM_count : ByteArray := prog_6_method_11_code
def yM_count : MethodName := ⟨cnM, "count", "()I"⟩
def wsM_count : List Cond := .code yM_count cM_count 3 (some .int) :: lw_g
abbrev cM_good : ByteArray := prog_6_method_12_code
def yM_good : MethodName := ⟨cnM, "good", "(I)Z"⟩
def wsM_good : List Cond := .code yM_good cM_good 1 (some .boolean) :: lw_g
abbrev cM_obstacle : ByteArray := prog_6_method_13_code
def yM_obstacle : MethodName := ⟨cnM, "obstacle", "(IIZ)I"⟩
def wsM_obstacle : List Cond := .code yM_obstacle cM_obstacle 4 (some .int) :: lw_g
abbrev cM_enter : ByteArray := prog_6_method_14_code
def yM_enter : MethodName := ⟨cnM, "enter", "(III)I"⟩
def wsM_enter : List Cond := .code yM_enter cM_enter 4 (some .int) :: lw_g
abbrev cM_open : ByteArray := prog_6_method_15_code
def yM_open : MethodName := ⟨cnM, "open", "(Z)I"⟩
def wsM_open : List Cond := .code yM_open cM_open 3 (some .int) :: lw_g
abbrev cM_close : ByteArray := prog_6_method_16_code
def yM_close : MethodName := ⟨cnM, "close", "(I)I"⟩
def wsM_close : List Cond := .code yM_close cM_close 3 (some .int) :: lw_g
abbrev cM_login : ByteArray := prog_6_method_17_code
def yM_login : MethodName := ⟨cnM, "login", "(IZI)I"⟩
def wsM_login : List Cond := .code yM_login cM_login 5 (some .int) :: lw_g
abbrev cM_logout : ByteArray := prog_6_method_18_code
def yM_logout : MethodName := ⟨cnM, "logout", "(I)I"⟩
def wsM_logout : List Cond := .code yM_logout cM_logout 3 (some .int) :: lw_g
abbrev cM_unlock : ByteArray := prog_6_method_19_code
def yM_unlock : MethodName := ⟨cnM, "unlock", "(II)I"⟩
def wsM_unlock : List Cond := .code yM_unlock cM_unlock 3 (some .int) :: lw_g
abbrev cM_create : ByteArray := prog_6_method_20_code
def yM_create : MethodName := ⟨cnM, "create", "(III)I"⟩
def wsM_create : List Cond := .code yM_create cM_create 5 (some .int) :: lw_g
abbrev cM_generate : ByteArray := prog_6_method_21_code
def yM_generate : MethodName := ⟨cnM, "generate", "(II)I"⟩
def wsM_generate : List Cond := .code yM_generate cM_generate 6 (some .int) :: lw_g
abbrev cM_destroy : ByteArray := prog_6_method_22_code
def yM_destroy : MethodName := ⟨cnM, "destroy", "(II)I"⟩
def wsM_destroy : List Cond := .code yM_destroy cM_destroy 3 (some .int) :: lw_g
abbrev cM_attributes : ByteArray := prog_6_method_23_code
def yM_attributes : MethodName := ⟨cnM, "attributes", "(II)I"⟩
def wsM_attributes : List Cond := .code yM_attributes cM_attributes 3 (some .int) :: lw_g
abbrev cM_limit : ByteArray := prog_6_method_24_code
def yM_limit : MethodName := ⟨cnM, "limit", "(III)I"⟩
def wsM_limit : List Cond := .code yM_limit cM_limit 6 (some .int) :: lw_g
abbrev cM_trust : ByteArray := prog_6_method_25_code
def yM_trust : MethodName := ⟨cnM, "trust", "(II)I"⟩
def wsM_trust : List Cond := .code yM_trust cM_trust 3 (some .int) :: lw_g
abbrev cM_bar : ByteArray := prog_6_method_26_code
def yM_bar : MethodName := ⟨cnM, "bar", "(IIII)I"⟩
def wsM_bar : List Cond := .code yM_bar cM_bar 6 (some .int) :: lw_g
abbrev cM_read : ByteArray := prog_6_method_27_code
def yM_read : MethodName := ⟨cnM, "read", "(II)J"⟩
def wsM_read : List Cond := .code yM_read cM_read 4 (some .long) :: lw_g
abbrev cM_encrypt : ByteArray := prog_6_method_28_code
def yM_encrypt : MethodName := ⟨cnM, "encrypt", "(III)J"⟩
def wsM_encrypt : List Cond := .code yM_encrypt cM_encrypt 5 (some .long) :: lw_g
abbrev cM_decrypt : ByteArray := prog_6_method_29_code
def yM_decrypt : MethodName := ⟨cnM, "decrypt", "(III)J"⟩
def wsM_decrypt : List Cond := .code yM_decrypt cM_decrypt 5 (some .long) :: lw_g
abbrev cM_sign : ByteArray := prog_6_method_30_code
def yM_sign : MethodName := ⟨cnM, "sign", "(III)J"⟩
def wsM_sign : List Cond := .code yM_sign cM_sign 5 (some .long) :: lw_g
abbrev cM_wrap : ByteArray := prog_6_method_31_code
def yM_wrap : MethodName := ⟨cnM, "wrap", "(III)J"⟩
def wsM_wrap : List Cond := .code yM_wrap cM_wrap 8 (some .long) :: lw_g
abbrev cM_unwrap : ByteArray := prog_6_method_32_code
def yM_unwrap : MethodName := ⟨cnM, "unwrap", "(IIJI)I"⟩
def wsM_unwrap : List Cond := .code yM_unwrap cM_unwrap 11 (some .int) :: lw_g
abbrev cM_find : ByteArray := prog_6_method_33_code
def yM_find : MethodName := ⟨cnM, "find", "(II)I"⟩
def wsM_find : List Cond := .code yM_find cM_find 5 (some .int) :: lw_g
abbrev cM_status : ByteArray := prog_6_method_34_code
def yM_status : MethodName := ⟨cnM, "status", "(I)I"⟩
def wsM_status : List Cond := .code yM_status cM_status 4 (some .int) :: lw_g
abbrev cL_cell : ByteArray := method_2_code
def yL_cell : MethodName := ⟨R_law, "cell", "([II)I"⟩
def wsL_cell : List Cond := .code yL_cell cL_cell 2 (some .int) :: lw_g
theorem lw_good : ∀ w ∈ lw_g, (w.onTables && w.keeps) = true ∨ ∃ ty, w = .arrayClass ty := fun w h => good_of_word (List.mem_filter.mp h).2
theorem lw_goodIn {c : Cond} (hc : c ∈ lw_g) : GoodIn lw_g (c :: lw_g) := fun w h => (List.mem_cons.mp h).elim (fun e => by rw [e]; exact ⟨hc, lw_good c hc⟩) (fun h => ⟨h, lw_good w h⟩)
/-- links to private members of a nest mate: they go from caller to callee by the contract -/
def lw_n : List Cond := [.methodLinkNest cnT 67 yW_mac "HandleToken", .methodLinkNest cnT 90 yK_has "HandleToken", .methodLinkNest cnT 133 yK_rowWith "HandleToken", .fieldLinkNest cnT 115 "HandleToken$KeyTable" "size" "I" "HandleToken", .methodLinkNest cnT 42 yK_removeOwnedBy "HandleToken", .methodLinkNest cnT 45 yR_tryPin "HandleToken", .methodLinkNest cnT 49 yK_removePrivateSessionKeys "HandleToken", .methodLinkNest cnT 52 yR_renew "HandleToken", .methodLinkNest cnT 59 yK_add "HandleToken", .methodLinkNest cnT 83 yK_removeRow "HandleToken", .fieldLinkNest cnT 86 "HandleToken$KeyTable" "attributesOf" "[I" "HandleToken", .fieldLinkNest cnT 95 "HandleToken$KeyTable" "valueOf" "[I" "HandleToken", .methodLinkNest cnT 105 yW_enc "HandleToken", .methodLinkNest cnT 108 yW_dec "HandleToken", .fieldLinkNest cnT 121 "HandleToken$KeyTable" "handleOf" "[I" "HandleToken", .fieldLinkNest cnT 124 "HandleToken$Role" "failures" "I" "HandleToken", .fieldLinkNest cnT 127 "HandleToken$KeyTable" "made" "I" "HandleToken", .methodLinkNest cnT 11 yR_init "HandleToken", .methodLinkNest cnT 23 yK_init "HandleToken"]
theorem mw179 : (.methodLinkNest cnT 67 yW_mac "HandleToken" : Cond) ∈ lw_n := List.mem_of_getElem? (i := 0) rfl
theorem mw205 : (.methodLinkNest cnT 90 yK_has "HandleToken" : Cond) ∈ lw_n := List.mem_of_getElem? (i := 1) rfl
theorem mw197 : (.methodLinkNest cnT 133 yK_rowWith "HandleToken" : Cond) ∈ lw_n := List.mem_of_getElem? (i := 2) rfl
theorem mw65 : (.fieldLinkNest cnT 115 "HandleToken$KeyTable" "size" "I" "HandleToken" : Cond) ∈ lw_n := List.mem_of_getElem? (i := 3) rfl
theorem mw116 : (.methodLinkNest cnT 42 yK_removeOwnedBy "HandleToken" : Cond) ∈ lw_n := List.mem_of_getElem? (i := 4) rfl
theorem mw128 : (.methodLinkNest cnT 45 yR_tryPin "HandleToken" : Cond) ∈ lw_n := List.mem_of_getElem? (i := 5) rfl
theorem mw136 : (.methodLinkNest cnT 49 yK_removePrivateSessionKeys "HandleToken" : Cond) ∈ lw_n := List.mem_of_getElem? (i := 6) rfl
theorem mw148 : (.methodLinkNest cnT 52 yR_renew "HandleToken" : Cond) ∈ lw_n := List.mem_of_getElem? (i := 7) rfl
theorem mw170 : (.methodLinkNest cnT 59 yK_add "HandleToken" : Cond) ∈ lw_n := List.mem_of_getElem? (i := 8) rfl
theorem mw210 : (.methodLinkNest cnT 83 yK_removeRow "HandleToken" : Cond) ∈ lw_n := List.mem_of_getElem? (i := 9) rfl
theorem mw60 : (.fieldLinkNest cnT 86 "HandleToken$KeyTable" "attributesOf" "[I" "HandleToken" : Cond) ∈ lw_n := List.mem_of_getElem? (i := 10) rfl
theorem mw62 : (.fieldLinkNest cnT 95 "HandleToken$KeyTable" "valueOf" "[I" "HandleToken" : Cond) ∈ lw_n := List.mem_of_getElem? (i := 11) rfl
theorem mw240 : (.methodLinkNest cnT 105 yW_enc "HandleToken" : Cond) ∈ lw_n := List.mem_of_getElem? (i := 12) rfl
theorem mw253 : (.methodLinkNest cnT 108 yW_dec "HandleToken" : Cond) ∈ lw_n := List.mem_of_getElem? (i := 13) rfl
theorem mw58 : (.fieldLinkNest cnT 121 "HandleToken$KeyTable" "handleOf" "[I" "HandleToken" : Cond) ∈ lw_n := List.mem_of_getElem? (i := 14) rfl
theorem mw45 : (.fieldLinkNest cnT 124 "HandleToken$Role" "failures" "I" "HandleToken" : Cond) ∈ lw_n := List.mem_of_getElem? (i := 15) rfl
theorem mw67 : (.fieldLinkNest cnT 127 "HandleToken$KeyTable" "made" "I" "HandleToken" : Cond) ∈ lw_n := List.mem_of_getElem? (i := 16) rfl
theorem mw39 : (.methodLinkNest cnT 11 yR_init "HandleToken" : Cond) ∈ lw_n := List.mem_of_getElem? (i := 17) rfl
theorem mw53 : (.methodLinkNest cnT 23 yK_init "HandleToken" : Cond) ∈ lw_n := List.mem_of_getElem? (i := 18) rfl
theorem lw_n_in : ∀ w ∈ lw_n, w ∈ lw_tbl := by decide +kernel
theorem mw247 : (.constant cnW 7 (40503) : Cond) ∈ lw_g := List.mem_filter.mpr ⟨List.mem_of_getElem? (i := 247) (by decide +kernel), by decide +kernel⟩
theorem mw182 : (.methodLink cnW 8 yW_byteOf : Cond) ∈ lw_g := List.mem_filter.mpr ⟨List.mem_of_getElem? (i := 182) (by decide +kernel), by decide +kernel⟩
theorem mw184 : (.code yW_byteOf cW_byteOf 2 (some .int) : Cond) ∈ lw_g := List.mem_filter.mpr ⟨List.mem_of_getElem? (i := 184) (by decide +kernel), by decide +kernel⟩
theorem mw28 : (.initialized cnW : Cond) ∈ lw_g := List.mem_filter.mpr ⟨List.mem_of_getElem? (i := 28) (by decide +kernel), by decide +kernel⟩
theorem mw183 : (.static yW_byteOf : Cond) ∈ lw_g := List.mem_filter.mpr ⟨List.mem_of_getElem? (i := 183) (by decide +kernel), by decide +kernel⟩
theorem mw243 : (.constant cnW 14 (65535) : Cond) ∈ lw_g := List.mem_filter.mpr ⟨List.mem_of_getElem? (i := 243) (by decide +kernel), by decide +kernel⟩
theorem mw244 : (.methodLink cnW 15 yW_half : Cond) ∈ lw_g := List.mem_filter.mpr ⟨List.mem_of_getElem? (i := 244) (by decide +kernel), by decide +kernel⟩
theorem mw246 : (.code yW_half cW_half 4 (some .int) : Cond) ∈ lw_g := List.mem_filter.mpr ⟨List.mem_of_getElem? (i := 246) (by decide +kernel), by decide +kernel⟩
theorem mw245 : (.static yW_half : Cond) ∈ lw_g := List.mem_filter.mpr ⟨List.mem_of_getElem? (i := 245) (by decide +kernel), by decide +kernel⟩
theorem mw248 : (.constant cnW 19 (65536) : Cond) ∈ lw_g := List.mem_filter.mpr ⟨List.mem_of_getElem? (i := 248) (by decide +kernel), by decide +kernel⟩
theorem mw185 : (.constant cnW 20 (16777619) : Cond) ∈ lw_g := List.mem_filter.mpr ⟨List.mem_of_getElem? (i := 185) (by decide +kernel), by decide +kernel⟩
theorem mw167 : (.methodLink cnT 139 yT_hasBoth : Cond) ∈ lw_g := List.mem_filter.mpr ⟨List.mem_of_getElem? (i := 167) (by decide +kernel), by decide +kernel⟩
theorem mw169 : (.code yT_hasBoth cT_hasBoth 3 (some .boolean) : Cond) ∈ lw_g := List.mem_filter.mpr ⟨List.mem_of_getElem? (i := 169) (by decide +kernel), by decide +kernel⟩
theorem mw24 : (.initialized cnT : Cond) ∈ lw_g := List.mem_filter.mpr ⟨List.mem_of_getElem? (i := 24) (by decide +kernel), by decide +kernel⟩
theorem mw168 : (.static yT_hasBoth : Cond) ∈ lw_g := List.mem_filter.mpr ⟨List.mem_of_getElem? (i := 168) (by decide +kernel), by decide +kernel⟩
theorem mw231 : (.constantLong cnT 143 (4294967295) : Cond) ∈ lw_g := List.mem_filter.mpr ⟨List.mem_of_getElem? (i := 231) (by decide +kernel), by decide +kernel⟩
theorem mw181 : (.code yW_mac cW_mac 4 (some .int) : Cond) ∈ lw_g := List.mem_filter.mpr ⟨List.mem_of_getElem? (i := 181) (by decide +kernel), by decide +kernel⟩
theorem mw180 : (.static yW_mac : Cond) ∈ lw_g := List.mem_filter.mpr ⟨List.mem_of_getElem? (i := 180) (by decide +kernel), by decide +kernel⟩
theorem mw267 : (.constant cnT 145 (2147483647) : Cond) ∈ lw_g := List.mem_filter.mpr ⟨List.mem_of_getElem? (i := 267) (by decide +kernel), by decide +kernel⟩
theorem mw427 : (.constant cnM 32 (40503) : Cond) ∈ lw_g := List.mem_filter.mpr ⟨List.mem_of_getElem? (i := 427) (by decide +kernel), by decide +kernel⟩
theorem mw423 : (.constant cnM 33 (65535) : Cond) ∈ lw_g := List.mem_filter.mpr ⟨List.mem_of_getElem? (i := 423) (by decide +kernel), by decide +kernel⟩
theorem mw424 : (.methodLink cnM 34 yM_half : Cond) ∈ lw_g := List.mem_filter.mpr ⟨List.mem_of_getElem? (i := 424) (by decide +kernel), by decide +kernel⟩
theorem mw426 : (.code yM_half cM_half 4 (some .int) : Cond) ∈ lw_g := List.mem_filter.mpr ⟨List.mem_of_getElem? (i := 426) (by decide +kernel), by decide +kernel⟩
theorem mw27 : (.initialized cnM : Cond) ∈ lw_g := List.mem_filter.mpr ⟨List.mem_of_getElem? (i := 27) (by decide +kernel), by decide +kernel⟩
theorem mw425 : (.static yM_half : Cond) ∈ lw_g := List.mem_filter.mpr ⟨List.mem_of_getElem? (i := 425) (by decide +kernel), by decide +kernel⟩
theorem mw428 : (.constant cnM 38 (65536) : Cond) ∈ lw_g := List.mem_filter.mpr ⟨List.mem_of_getElem? (i := 428) (by decide +kernel), by decide +kernel⟩
theorem mw379 : (.constant cnM 39 (16777619) : Cond) ∈ lw_g := List.mem_filter.mpr ⟨List.mem_of_getElem? (i := 379) (by decide +kernel), by decide +kernel⟩
theorem mw415 : (.constantLong cnM 40 (4294967296) : Cond) ∈ lw_g := List.mem_filter.mpr ⟨List.mem_of_getElem? (i := 415) (by decide +kernel), by decide +kernel⟩
theorem mw333 : (.methodLink cnM 42 yM_has : Cond) ∈ lw_g := List.mem_filter.mpr ⟨List.mem_of_getElem? (i := 333) (by decide +kernel), by decide +kernel⟩
theorem mw335 : (.code yM_has cM_has 2 (some .boolean) : Cond) ∈ lw_g := List.mem_filter.mpr ⟨List.mem_of_getElem? (i := 335) (by decide +kernel), by decide +kernel⟩
theorem mw334 : (.static yM_has : Cond) ∈ lw_g := List.mem_filter.mpr ⟨List.mem_of_getElem? (i := 334) (by decide +kernel), by decide +kernel⟩
theorem mw64 : (.fieldLink cnK 24 "HandleToken$KeyTable" "size" "I" : Cond) ∈ lw_g := List.mem_filter.mpr ⟨List.mem_of_getElem? (i := 64) (by decide +kernel), by decide +kernel⟩
theorem mw59 : (.fieldLink cnK 15 "HandleToken$KeyTable" "attributesOf" "[I" : Cond) ∈ lw_g := List.mem_filter.mpr ⟨List.mem_of_getElem? (i := 59) (by decide +kernel), by decide +kernel⟩
theorem mw57 : (.fieldLink cnK 9 "HandleToken$KeyTable" "handleOf" "[I" : Cond) ∈ lw_g := List.mem_filter.mpr ⟨List.mem_of_getElem? (i := 57) (by decide +kernel), by decide +kernel⟩
theorem mw61 : (.fieldLink cnK 18 "HandleToken$KeyTable" "valueOf" "[I" : Cond) ∈ lw_g := List.mem_filter.mpr ⟨List.mem_of_getElem? (i := 61) (by decide +kernel), by decide +kernel⟩
theorem mw63 : (.fieldLink cnK 21 "HandleToken$KeyTable" "ownerOf" "[I" : Cond) ∈ lw_g := List.mem_filter.mpr ⟨List.mem_of_getElem? (i := 63) (by decide +kernel), by decide +kernel⟩
theorem mw66 : (.fieldLink cnK 28 "HandleToken$KeyTable" "made" "I" : Cond) ∈ lw_g := List.mem_filter.mpr ⟨List.mem_of_getElem? (i := 66) (by decide +kernel), by decide +kernel⟩
theorem mw120 : (.methodLink cnK 31 yK_removeRow : Cond) ∈ lw_g := List.mem_filter.mpr ⟨List.mem_of_getElem? (i := 120) (by decide +kernel), by decide +kernel⟩
theorem mw123 : (.code yK_removeRow cK_removeRow 3 none : Cond) ∈ lw_g := List.mem_filter.mpr ⟨List.mem_of_getElem? (i := 123) (by decide +kernel), by decide +kernel⟩
theorem mw26 : (.initialized cnK : Cond) ∈ lw_g := List.mem_filter.mpr ⟨List.mem_of_getElem? (i := 26) (by decide +kernel), by decide +kernel⟩
theorem mw122 : (.instanceMethod yK_removeRow : Cond) ∈ lw_g := List.mem_filter.mpr ⟨List.mem_of_getElem? (i := 122) (by decide +kernel), by decide +kernel⟩
theorem mw2 : (.selects cnK yK_removeRow yK_removeRow : Cond) ∈ lw_g := List.mem_filter.mpr ⟨List.mem_of_getElem? (i := 2) (by decide +kernel), by decide +kernel⟩
theorem mw140 : (.methodLink cnK 35 yK_has : Cond) ∈ lw_g := List.mem_filter.mpr ⟨List.mem_of_getElem? (i := 140) (by decide +kernel), by decide +kernel⟩
theorem mw143 : (.code yK_has cK_has 3 (some .boolean) : Cond) ∈ lw_g := List.mem_filter.mpr ⟨List.mem_of_getElem? (i := 143) (by decide +kernel), by decide +kernel⟩
theorem mw142 : (.instanceMethod yK_has : Cond) ∈ lw_g := List.mem_filter.mpr ⟨List.mem_of_getElem? (i := 142) (by decide +kernel), by decide +kernel⟩
theorem mw5 : (.selects cnK yK_has yK_has : Cond) ∈ lw_g := List.mem_filter.mpr ⟨List.mem_of_getElem? (i := 5) (by decide +kernel), by decide +kernel⟩
theorem mw44 : (.fieldLink cnR 15 "HandleToken$Role" "failures" "I" : Cond) ∈ lw_g := List.mem_filter.mpr ⟨List.mem_of_getElem? (i := 44) (by decide +kernel), by decide +kernel⟩
theorem mw43 : (.fieldLink cnR 9 "HandleToken$Role" "pin" "I" : Cond) ∈ lw_g := List.mem_filter.mpr ⟨List.mem_of_getElem? (i := 43) (by decide +kernel), by decide +kernel⟩
theorem mw87 : (.fieldLink cnT 36 "HandleToken" "openSessions" "I" : Cond) ∈ lw_g := List.mem_filter.mpr ⟨List.mem_of_getElem? (i := 87) (by decide +kernel), by decide +kernel⟩
theorem mw108 : (.methodLink cnT 32 yT_isOpen : Cond) ∈ lw_g := List.mem_filter.mpr ⟨List.mem_of_getElem? (i := 108) (by decide +kernel), by decide +kernel⟩
theorem mw111 : (.code yT_isOpen cT_isOpen 2 (some .boolean) : Cond) ∈ lw_g := List.mem_filter.mpr ⟨List.mem_of_getElem? (i := 111) (by decide +kernel), by decide +kernel⟩
theorem mw110 : (.instanceMethod yT_isOpen : Cond) ∈ lw_g := List.mem_filter.mpr ⟨List.mem_of_getElem? (i := 110) (by decide +kernel), by decide +kernel⟩
theorem mw0 : (.selects cnT yT_isOpen yT_isOpen : Cond) ∈ lw_g := List.mem_filter.mpr ⟨List.mem_of_getElem? (i := 0) (by decide +kernel), by decide +kernel⟩
theorem mw88 : (.fieldLink cnT 39 "HandleToken" "readWriteSessions" "I" : Cond) ∈ lw_g := List.mem_filter.mpr ⟨List.mem_of_getElem? (i := 88) (by decide +kernel), by decide +kernel⟩
theorem mw85 : (.fieldLink cnT 28 "HandleToken" "loggedIn" "I" : Cond) ∈ lw_g := List.mem_filter.mpr ⟨List.mem_of_getElem? (i := 85) (by decide +kernel), by decide +kernel⟩
theorem mw84 : (.fieldLink cnT 24 "HandleToken" "keys" "LHandleToken$KeyTable;" : Cond) ∈ lw_g := List.mem_filter.mpr ⟨List.mem_of_getElem? (i := 84) (by decide +kernel), by decide +kernel⟩
theorem mw160 : (.methodLink cnT 130 yT_isReadWrite : Cond) ∈ lw_g := List.mem_filter.mpr ⟨List.mem_of_getElem? (i := 160) (by decide +kernel), by decide +kernel⟩
theorem mw163 : (.code yT_isReadWrite cT_isReadWrite 2 (some .boolean) : Cond) ∈ lw_g := List.mem_filter.mpr ⟨List.mem_of_getElem? (i := 163) (by decide +kernel), by decide +kernel⟩
theorem mw162 : (.instanceMethod yT_isReadWrite : Cond) ∈ lw_g := List.mem_filter.mpr ⟨List.mem_of_getElem? (i := 162) (by decide +kernel), by decide +kernel⟩
theorem mw8 : (.selects cnT yT_isReadWrite yT_isReadWrite : Cond) ∈ lw_g := List.mem_filter.mpr ⟨List.mem_of_getElem? (i := 8) (by decide +kernel), by decide +kernel⟩
theorem mw200 : (.code yK_rowWith cK_rowWith 3 (some .int) : Cond) ∈ lw_g := List.mem_filter.mpr ⟨List.mem_of_getElem? (i := 200) (by decide +kernel), by decide +kernel⟩
theorem mw199 : (.instanceMethod yK_rowWith : Cond) ∈ lw_g := List.mem_filter.mpr ⟨List.mem_of_getElem? (i := 199) (by decide +kernel), by decide +kernel⟩
theorem mw11 : (.selects cnK yK_rowWith yK_rowWith : Cond) ∈ lw_g := List.mem_filter.mpr ⟨List.mem_of_getElem? (i := 11) (by decide +kernel), by decide +kernel⟩
theorem mw201 : (.methodLink cnT 118 yT_isVisible : Cond) ∈ lw_g := List.mem_filter.mpr ⟨List.mem_of_getElem? (i := 201) (by decide +kernel), by decide +kernel⟩
theorem mw204 : (.code yT_isVisible cT_isVisible 2 (some .boolean) : Cond) ∈ lw_g := List.mem_filter.mpr ⟨List.mem_of_getElem? (i := 204) (by decide +kernel), by decide +kernel⟩
theorem mw203 : (.instanceMethod yT_isVisible : Cond) ∈ lw_g := List.mem_filter.mpr ⟨List.mem_of_getElem? (i := 203) (by decide +kernel), by decide +kernel⟩
theorem mw12 : (.selects cnT yT_isVisible yT_isVisible : Cond) ∈ lw_g := List.mem_filter.mpr ⟨List.mem_of_getElem? (i := 12) (by decide +kernel), by decide +kernel⟩
theorem mw193 : (.methodLink cnT 76 yT_rowOrRefusal : Cond) ∈ lw_g := List.mem_filter.mpr ⟨List.mem_of_getElem? (i := 193) (by decide +kernel), by decide +kernel⟩
theorem mw196 : (.code yT_rowOrRefusal cT_rowOrRefusal 4 (some .int) : Cond) ∈ lw_g := List.mem_filter.mpr ⟨List.mem_of_getElem? (i := 196) (by decide +kernel), by decide +kernel⟩
theorem mw195 : (.instanceMethod yT_rowOrRefusal : Cond) ∈ lw_g := List.mem_filter.mpr ⟨List.mem_of_getElem? (i := 195) (by decide +kernel), by decide +kernel⟩
theorem mw10 : (.selects cnT yT_rowOrRefusal yT_rowOrRefusal : Cond) ∈ lw_g := List.mem_filter.mpr ⟨List.mem_of_getElem? (i := 10) (by decide +kernel), by decide +kernel⟩
theorem mw164 : (.methodLink cnT 136 yT_areGood : Cond) ∈ lw_g := List.mem_filter.mpr ⟨List.mem_of_getElem? (i := 164) (by decide +kernel), by decide +kernel⟩
theorem mw166 : (.code yT_areGood cT_areGood 1 (some .boolean) : Cond) ∈ lw_g := List.mem_filter.mpr ⟨List.mem_of_getElem? (i := 166) (by decide +kernel), by decide +kernel⟩
theorem mw165 : (.static yT_areGood : Cond) ∈ lw_g := List.mem_filter.mpr ⟨List.mem_of_getElem? (i := 165) (by decide +kernel), by decide +kernel⟩
theorem mw119 : (.code yK_removeOwnedBy cK_removeOwnedBy 3 none : Cond) ∈ lw_g := List.mem_filter.mpr ⟨List.mem_of_getElem? (i := 119) (by decide +kernel), by decide +kernel⟩
theorem mw118 : (.instanceMethod yK_removeOwnedBy : Cond) ∈ lw_g := List.mem_filter.mpr ⟨List.mem_of_getElem? (i := 118) (by decide +kernel), by decide +kernel⟩
theorem mw1 : (.selects cnK yK_removeOwnedBy yK_removeOwnedBy : Cond) ∈ lw_g := List.mem_filter.mpr ⟨List.mem_of_getElem? (i := 1) (by decide +kernel), by decide +kernel⟩
theorem mw82 : (.fieldLink cnT 14 "HandleToken" "userRole" "LHandleToken$Role;" : Cond) ∈ lw_g := List.mem_filter.mpr ⟨List.mem_of_getElem? (i := 82) (by decide +kernel), by decide +kernel⟩
theorem mw131 : (.code yR_tryPin cR_tryPin 2 (some .int) : Cond) ∈ lw_g := List.mem_filter.mpr ⟨List.mem_of_getElem? (i := 131) (by decide +kernel), by decide +kernel⟩
theorem mw25 : (.initialized cnR : Cond) ∈ lw_g := List.mem_filter.mpr ⟨List.mem_of_getElem? (i := 25) (by decide +kernel), by decide +kernel⟩
theorem mw130 : (.instanceMethod yR_tryPin : Cond) ∈ lw_g := List.mem_filter.mpr ⟨List.mem_of_getElem? (i := 130) (by decide +kernel), by decide +kernel⟩
theorem mw3 : (.selects cnR yR_tryPin yR_tryPin : Cond) ∈ lw_g := List.mem_filter.mpr ⟨List.mem_of_getElem? (i := 3) (by decide +kernel), by decide +kernel⟩
theorem mw83 : (.fieldLink cnT 18 "HandleToken" "officerRole" "LHandleToken$Role;" : Cond) ∈ lw_g := List.mem_filter.mpr ⟨List.mem_of_getElem? (i := 83) (by decide +kernel), by decide +kernel⟩
theorem mw139 : (.code yK_removePrivateSessionKeys cK_removePrivateSessionKeys 2 none : Cond) ∈ lw_g := List.mem_filter.mpr ⟨List.mem_of_getElem? (i := 139) (by decide +kernel), by decide +kernel⟩
theorem mw138 : (.instanceMethod yK_removePrivateSessionKeys : Cond) ∈ lw_g := List.mem_filter.mpr ⟨List.mem_of_getElem? (i := 138) (by decide +kernel), by decide +kernel⟩
theorem mw4 : (.selects cnK yK_removePrivateSessionKeys yK_removePrivateSessionKeys : Cond) ∈ lw_g := List.mem_filter.mpr ⟨List.mem_of_getElem? (i := 4) (by decide +kernel), by decide +kernel⟩
theorem mw151 : (.code yR_renew cR_renew 2 none : Cond) ∈ lw_g := List.mem_filter.mpr ⟨List.mem_of_getElem? (i := 151) (by decide +kernel), by decide +kernel⟩
theorem mw150 : (.instanceMethod yR_renew : Cond) ∈ lw_g := List.mem_filter.mpr ⟨List.mem_of_getElem? (i := 150) (by decide +kernel), by decide +kernel⟩
theorem mw6 : (.selects cnR yR_renew yR_renew : Cond) ∈ lw_g := List.mem_filter.mpr ⟨List.mem_of_getElem? (i := 6) (by decide +kernel), by decide +kernel⟩
theorem mw156 : (.methodLink cnT 55 yT_refusalToMake : Cond) ∈ lw_g := List.mem_filter.mpr ⟨List.mem_of_getElem? (i := 156) (by decide +kernel), by decide +kernel⟩
theorem mw159 : (.code yT_refusalToMake cT_refusalToMake 4 (some .int) : Cond) ∈ lw_g := List.mem_filter.mpr ⟨List.mem_of_getElem? (i := 159) (by decide +kernel), by decide +kernel⟩
theorem mw158 : (.instanceMethod yT_refusalToMake : Cond) ∈ lw_g := List.mem_filter.mpr ⟨List.mem_of_getElem? (i := 158) (by decide +kernel), by decide +kernel⟩
theorem mw7 : (.selects cnT yT_refusalToMake yT_refusalToMake : Cond) ∈ lw_g := List.mem_filter.mpr ⟨List.mem_of_getElem? (i := 7) (by decide +kernel), by decide +kernel⟩
theorem mw173 : (.code yK_add cK_add 4 (some .int) : Cond) ∈ lw_g := List.mem_filter.mpr ⟨List.mem_of_getElem? (i := 173) (by decide +kernel), by decide +kernel⟩
theorem mw172 : (.instanceMethod yK_add : Cond) ∈ lw_g := List.mem_filter.mpr ⟨List.mem_of_getElem? (i := 172) (by decide +kernel), by decide +kernel⟩
theorem mw9 : (.selects cnK yK_add yK_add : Cond) ∈ lw_g := List.mem_filter.mpr ⟨List.mem_of_getElem? (i := 9) (by decide +kernel), by decide +kernel⟩
theorem mw86 : (.fieldLink cnT 63 "HandleToken" "generatedCount" "I" : Cond) ∈ lw_g := List.mem_filter.mpr ⟨List.mem_of_getElem? (i := 86) (by decide +kernel), by decide +kernel⟩
theorem mw178 : (.constant cnT 66 (1234567) : Cond) ∈ lw_g := List.mem_filter.mpr ⟨List.mem_of_getElem? (i := 178) (by decide +kernel), by decide +kernel⟩
theorem mw186 : (.methodLink cnT 73 yT_originOf : Cond) ∈ lw_g := List.mem_filter.mpr ⟨List.mem_of_getElem? (i := 186) (by decide +kernel), by decide +kernel⟩
theorem mw188 : (.code yT_originOf cT_originOf 3 (some .int) : Cond) ∈ lw_g := List.mem_filter.mpr ⟨List.mem_of_getElem? (i := 188) (by decide +kernel), by decide +kernel⟩
theorem mw187 : (.static yT_originOf : Cond) ∈ lw_g := List.mem_filter.mpr ⟨List.mem_of_getElem? (i := 187) (by decide +kernel), by decide +kernel⟩
theorem mw206 : (.methodLink cnT 79 yT_isFixedFor : Cond) ∈ lw_g := List.mem_filter.mpr ⟨List.mem_of_getElem? (i := 206) (by decide +kernel), by decide +kernel⟩
theorem mw209 : (.code yT_isFixedFor cT_isFixedFor 3 (some .boolean) : Cond) ∈ lw_g := List.mem_filter.mpr ⟨List.mem_of_getElem? (i := 209) (by decide +kernel), by decide +kernel⟩
theorem mw208 : (.instanceMethod yT_isFixedFor : Cond) ∈ lw_g := List.mem_filter.mpr ⟨List.mem_of_getElem? (i := 208) (by decide +kernel), by decide +kernel⟩
theorem mw13 : (.selects cnT yT_isFixedFor yT_isFixedFor : Cond) ∈ lw_g := List.mem_filter.mpr ⟨List.mem_of_getElem? (i := 13) (by decide +kernel), by decide +kernel⟩
theorem mw228 : (.methodLink cnT 98 yT_answered : Cond) ∈ lw_g := List.mem_filter.mpr ⟨List.mem_of_getElem? (i := 228) (by decide +kernel), by decide +kernel⟩
theorem mw230 : (.code yT_answered cT_answered 1 (some .long) : Cond) ∈ lw_g := List.mem_filter.mpr ⟨List.mem_of_getElem? (i := 230) (by decide +kernel), by decide +kernel⟩
theorem mw229 : (.static yT_answered : Cond) ∈ lw_g := List.mem_filter.mpr ⟨List.mem_of_getElem? (i := 229) (by decide +kernel), by decide +kernel⟩
theorem mw227 : (.constantLong cnT 93 (-5) : Cond) ∈ lw_g := List.mem_filter.mpr ⟨List.mem_of_getElem? (i := 227) (by decide +kernel), by decide +kernel⟩
theorem mw236 : (.methodLink cnT 102 yT_rowForUse : Cond) ∈ lw_g := List.mem_filter.mpr ⟨List.mem_of_getElem? (i := 236) (by decide +kernel), by decide +kernel⟩
theorem mw239 : (.code yT_rowForUse cT_rowForUse 5 (some .int) : Cond) ∈ lw_g := List.mem_filter.mpr ⟨List.mem_of_getElem? (i := 239) (by decide +kernel), by decide +kernel⟩
theorem mw238 : (.instanceMethod yT_rowForUse : Cond) ∈ lw_g := List.mem_filter.mpr ⟨List.mem_of_getElem? (i := 238) (by decide +kernel), by decide +kernel⟩
theorem mw14 : (.selects cnT yT_rowForUse yT_rowForUse : Cond) ∈ lw_g := List.mem_filter.mpr ⟨List.mem_of_getElem? (i := 14) (by decide +kernel), by decide +kernel⟩
theorem mw242 : (.code yW_enc cW_enc 6 (some .int) : Cond) ∈ lw_g := List.mem_filter.mpr ⟨List.mem_of_getElem? (i := 242) (by decide +kernel), by decide +kernel⟩
theorem mw241 : (.static yW_enc : Cond) ∈ lw_g := List.mem_filter.mpr ⟨List.mem_of_getElem? (i := 241) (by decide +kernel), by decide +kernel⟩
theorem mw255 : (.code yW_dec cW_dec 6 (some .int) : Cond) ∈ lw_g := List.mem_filter.mpr ⟨List.mem_of_getElem? (i := 255) (by decide +kernel), by decide +kernel⟩
theorem mw254 : (.static yW_dec : Cond) ∈ lw_g := List.mem_filter.mpr ⟨List.mem_of_getElem? (i := 254) (by decide +kernel), by decide +kernel⟩
theorem mw264 : (.methodLink cnT 111 yT_tagOf : Cond) ∈ lw_g := List.mem_filter.mpr ⟨List.mem_of_getElem? (i := 264) (by decide +kernel), by decide +kernel⟩
theorem mw266 : (.code yT_tagOf cT_tagOf 2 (some .long) : Cond) ∈ lw_g := List.mem_filter.mpr ⟨List.mem_of_getElem? (i := 266) (by decide +kernel), by decide +kernel⟩
theorem mw265 : (.static yT_tagOf : Cond) ∈ lw_g := List.mem_filter.mpr ⟨List.mem_of_getElem? (i := 265) (by decide +kernel), by decide +kernel⟩
theorem mw289 : (.fieldLink cnM 7 "HandleTokenModel" "session" "[I" : Cond) ∈ lw_g := List.mem_filter.mpr ⟨List.mem_of_getElem? (i := 289) (by decide +kernel), by decide +kernel⟩
theorem mw295 : (.fieldLink cnM 19 "HandleTokenModel" "there" "[Z" : Cond) ∈ lw_g := List.mem_filter.mpr ⟨List.mem_of_getElem? (i := 295) (by decide +kernel), by decide +kernel⟩
theorem mw298 : (.fieldLink cnM 29 "HandleTokenModel" "marks" "[I" : Cond) ∈ lw_g := List.mem_filter.mpr ⟨List.mem_of_getElem? (i := 298) (by decide +kernel), by decide +kernel⟩
theorem mw290 : (.fieldLink cnM 46 "HandleTokenModel" "inside" "I" : Cond) ∈ lw_g := List.mem_filter.mpr ⟨List.mem_of_getElem? (i := 290) (by decide +kernel), by decide +kernel⟩
theorem mw293 : (.fieldLink cnM 50 "HandleTokenModel" "made" "I" : Cond) ∈ lw_g := List.mem_filter.mpr ⟨List.mem_of_getElem? (i := 293) (by decide +kernel), by decide +kernel⟩
theorem mw388 : (.methodLink cnM 53 yM_visible : Cond) ∈ lw_g := List.mem_filter.mpr ⟨List.mem_of_getElem? (i := 388) (by decide +kernel), by decide +kernel⟩
theorem mw391 : (.code yM_visible cM_visible 2 (some .boolean) : Cond) ∈ lw_g := List.mem_filter.mpr ⟨List.mem_of_getElem? (i := 391) (by decide +kernel), by decide +kernel⟩
theorem mw390 : (.instanceMethod yM_visible : Cond) ∈ lw_g := List.mem_filter.mpr ⟨List.mem_of_getElem? (i := 390) (by decide +kernel), by decide +kernel⟩
theorem mw21 : (.selects cnM yM_visible yM_visible : Cond) ∈ lw_g := List.mem_filter.mpr ⟨List.mem_of_getElem? (i := 21) (by decide +kernel), by decide +kernel⟩
theorem mw356 : (.methodLink cnM 57 yM_readOnly : Cond) ∈ lw_g := List.mem_filter.mpr ⟨List.mem_of_getElem? (i := 356) (by decide +kernel), by decide +kernel⟩
theorem mw359 : (.code yM_readOnly cM_readOnly 3 (some .boolean) : Cond) ∈ lw_g := List.mem_filter.mpr ⟨List.mem_of_getElem? (i := 359) (by decide +kernel), by decide +kernel⟩
theorem mw358 : (.instanceMethod yM_readOnly : Cond) ∈ lw_g := List.mem_filter.mpr ⟨List.mem_of_getElem? (i := 358) (by decide +kernel), by decide +kernel⟩
theorem mw17 : (.selects cnM yM_readOnly yM_readOnly : Cond) ∈ lw_g := List.mem_filter.mpr ⟨List.mem_of_getElem? (i := 17) (by decide +kernel), by decide +kernel⟩
theorem mw360 : (.methodLink cnM 60 yM_good : Cond) ∈ lw_g := List.mem_filter.mpr ⟨List.mem_of_getElem? (i := 360) (by decide +kernel), by decide +kernel⟩
theorem mw362 : (.code yM_good cM_good 1 (some .boolean) : Cond) ∈ lw_g := List.mem_filter.mpr ⟨List.mem_of_getElem? (i := 362) (by decide +kernel), by decide +kernel⟩
theorem mw361 : (.static yM_good : Cond) ∈ lw_g := List.mem_filter.mpr ⟨List.mem_of_getElem? (i := 361) (by decide +kernel), by decide +kernel⟩
theorem mw363 : (.methodLink cnM 63 yM_count : Cond) ∈ lw_g := List.mem_filter.mpr ⟨List.mem_of_getElem? (i := 363) (by decide +kernel), by decide +kernel⟩
theorem mw366 : (.code yM_count cM_count 3 (some .int) : Cond) ∈ lw_g := List.mem_filter.mpr ⟨List.mem_of_getElem? (i := 366) (by decide +kernel), by decide +kernel⟩
theorem mw365 : (.instanceMethod yM_count : Cond) ∈ lw_g := List.mem_filter.mpr ⟨List.mem_of_getElem? (i := 365) (by decide +kernel), by decide +kernel⟩
theorem mw18 : (.selects cnM yM_count yM_count : Cond) ∈ lw_g := List.mem_filter.mpr ⟨List.mem_of_getElem? (i := 18) (by decide +kernel), by decide +kernel⟩
theorem mw296 : (.fieldLink cnM 23 "HandleTokenModel" "value" "[I" : Cond) ∈ lw_g := List.mem_filter.mpr ⟨List.mem_of_getElem? (i := 296) (by decide +kernel), by decide +kernel⟩
theorem mw297 : (.fieldLink cnM 26 "HandleTokenModel" "owner" "[I" : Cond) ∈ lw_g := List.mem_filter.mpr ⟨List.mem_of_getElem? (i := 297) (by decide +kernel), by decide +kernel⟩
theorem mw329 : (.methodLink cnM 67 yM_closed : Cond) ∈ lw_g := List.mem_filter.mpr ⟨List.mem_of_getElem? (i := 329) (by decide +kernel), by decide +kernel⟩
theorem mw332 : (.code yM_closed cM_closed 2 (some .boolean) : Cond) ∈ lw_g := List.mem_filter.mpr ⟨List.mem_of_getElem? (i := 332) (by decide +kernel), by decide +kernel⟩
theorem mw331 : (.instanceMethod yM_closed : Cond) ∈ lw_g := List.mem_filter.mpr ⟨List.mem_of_getElem? (i := 331) (by decide +kernel), by decide +kernel⟩
theorem mw15 : (.selects cnM yM_closed yM_closed : Cond) ∈ lw_g := List.mem_filter.mpr ⟨List.mem_of_getElem? (i := 15) (by decide +kernel), by decide +kernel⟩
theorem mw292 : (.fieldLink cnM 16 "HandleTokenModel" "failures" "[I" : Cond) ∈ lw_g := List.mem_filter.mpr ⟨List.mem_of_getElem? (i := 292) (by decide +kernel), by decide +kernel⟩
theorem mw291 : (.fieldLink cnM 13 "HandleTokenModel" "pins" "[I" : Cond) ∈ lw_g := List.mem_filter.mpr ⟨List.mem_of_getElem? (i := 291) (by decide +kernel), by decide +kernel⟩
theorem mw352 : (.methodLink cnM 70 yM_obstacle : Cond) ∈ lw_g := List.mem_filter.mpr ⟨List.mem_of_getElem? (i := 352) (by decide +kernel), by decide +kernel⟩
theorem mw355 : (.code yM_obstacle cM_obstacle 4 (some .int) : Cond) ∈ lw_g := List.mem_filter.mpr ⟨List.mem_of_getElem? (i := 355) (by decide +kernel), by decide +kernel⟩
theorem mw354 : (.instanceMethod yM_obstacle : Cond) ∈ lw_g := List.mem_filter.mpr ⟨List.mem_of_getElem? (i := 354) (by decide +kernel), by decide +kernel⟩
theorem mw16 : (.selects cnM yM_obstacle yM_obstacle : Cond) ∈ lw_g := List.mem_filter.mpr ⟨List.mem_of_getElem? (i := 16) (by decide +kernel), by decide +kernel⟩
theorem mw367 : (.methodLink cnM 74 yM_enter : Cond) ∈ lw_g := List.mem_filter.mpr ⟨List.mem_of_getElem? (i := 367) (by decide +kernel), by decide +kernel⟩
theorem mw370 : (.code yM_enter cM_enter 4 (some .int) : Cond) ∈ lw_g := List.mem_filter.mpr ⟨List.mem_of_getElem? (i := 370) (by decide +kernel), by decide +kernel⟩
theorem mw369 : (.instanceMethod yM_enter : Cond) ∈ lw_g := List.mem_filter.mpr ⟨List.mem_of_getElem? (i := 369) (by decide +kernel), by decide +kernel⟩
theorem mw19 : (.selects cnM yM_enter yM_enter : Cond) ∈ lw_g := List.mem_filter.mpr ⟨List.mem_of_getElem? (i := 19) (by decide +kernel), by decide +kernel⟩
theorem mw294 : (.fieldLink cnM 77 "HandleTokenModel" "generated" "I" : Cond) ∈ lw_g := List.mem_filter.mpr ⟨List.mem_of_getElem? (i := 294) (by decide +kernel), by decide +kernel⟩
theorem mw375 : (.constant cnM 80 (1234567) : Cond) ∈ lw_g := List.mem_filter.mpr ⟨List.mem_of_getElem? (i := 375) (by decide +kernel), by decide +kernel⟩
theorem mw376 : (.methodLink cnM 81 yM_mac : Cond) ∈ lw_g := List.mem_filter.mpr ⟨List.mem_of_getElem? (i := 376) (by decide +kernel), by decide +kernel⟩
theorem mw378 : (.code yM_mac cM_mac 4 (some .int) : Cond) ∈ lw_g := List.mem_filter.mpr ⟨List.mem_of_getElem? (i := 378) (by decide +kernel), by decide +kernel⟩
theorem mw377 : (.static yM_mac : Cond) ∈ lw_g := List.mem_filter.mpr ⟨List.mem_of_getElem? (i := 377) (by decide +kernel), by decide +kernel⟩
theorem mw384 : (.methodLink cnM 85 yM_hidden : Cond) ∈ lw_g := List.mem_filter.mpr ⟨List.mem_of_getElem? (i := 384) (by decide +kernel), by decide +kernel⟩
theorem mw387 : (.code yM_hidden cM_hidden 2 (some .boolean) : Cond) ∈ lw_g := List.mem_filter.mpr ⟨List.mem_of_getElem? (i := 387) (by decide +kernel), by decide +kernel⟩
theorem mw386 : (.instanceMethod yM_hidden : Cond) ∈ lw_g := List.mem_filter.mpr ⟨List.mem_of_getElem? (i := 386) (by decide +kernel), by decide +kernel⟩
theorem mw20 : (.selects cnM yM_hidden yM_hidden : Cond) ∈ lw_g := List.mem_filter.mpr ⟨List.mem_of_getElem? (i := 20) (by decide +kernel), by decide +kernel⟩
theorem mw408 : (.methodLink cnM 88 yM_bar : Cond) ∈ lw_g := List.mem_filter.mpr ⟨List.mem_of_getElem? (i := 408) (by decide +kernel), by decide +kernel⟩
theorem mw411 : (.code yM_bar cM_bar 6 (some .int) : Cond) ∈ lw_g := List.mem_filter.mpr ⟨List.mem_of_getElem? (i := 411) (by decide +kernel), by decide +kernel⟩
theorem mw410 : (.instanceMethod yM_bar : Cond) ∈ lw_g := List.mem_filter.mpr ⟨List.mem_of_getElem? (i := 410) (by decide +kernel), by decide +kernel⟩
theorem mw22 : (.selects cnM yM_bar yM_bar : Cond) ∈ lw_g := List.mem_filter.mpr ⟨List.mem_of_getElem? (i := 22) (by decide +kernel), by decide +kernel⟩
theorem mw412 : (.methodLink cnM 92 yM_answer : Cond) ∈ lw_g := List.mem_filter.mpr ⟨List.mem_of_getElem? (i := 412) (by decide +kernel), by decide +kernel⟩
theorem mw414 : (.code yM_answer cM_answer 1 (some .long) : Cond) ∈ lw_g := List.mem_filter.mpr ⟨List.mem_of_getElem? (i := 414) (by decide +kernel), by decide +kernel⟩
theorem mw413 : (.static yM_answer : Cond) ∈ lw_g := List.mem_filter.mpr ⟨List.mem_of_getElem? (i := 413) (by decide +kernel), by decide +kernel⟩
theorem mw420 : (.methodLink cnM 96 yM_rounds : Cond) ∈ lw_g := List.mem_filter.mpr ⟨List.mem_of_getElem? (i := 420) (by decide +kernel), by decide +kernel⟩
theorem mw422 : (.code yM_rounds cM_rounds 7 (some .int) : Cond) ∈ lw_g := List.mem_filter.mpr ⟨List.mem_of_getElem? (i := 422) (by decide +kernel), by decide +kernel⟩
theorem mw421 : (.static yM_rounds : Cond) ∈ lw_g := List.mem_filter.mpr ⟨List.mem_of_getElem? (i := 421) (by decide +kernel), by decide +kernel⟩
theorem mw442 : (.constantLong cnM 101 (-2) : Cond) ∈ lw_g := List.mem_filter.mpr ⟨List.mem_of_getElem? (i := 442) (by decide +kernel), by decide +kernel⟩
theorem mw443 : (.constantLong cnM 103 (-5) : Cond) ∈ lw_g := List.mem_filter.mpr ⟨List.mem_of_getElem? (i := 443) (by decide +kernel), by decide +kernel⟩
theorem mw444 : (.constant cnM 105 (2147483647) : Cond) ∈ lw_g := List.mem_filter.mpr ⟨List.mem_of_getElem? (i := 444) (by decide +kernel), by decide +kernel⟩
theorem mw441 : (.constantLong cnM 99 (-1) : Cond) ∈ lw_g := List.mem_filter.mpr ⟨List.mem_of_getElem? (i := 441) (by decide +kernel), by decide +kernel⟩
theorem mw42 : (.methodLink cnR 3 objectInit : Cond) ∈ lw_g := List.mem_filter.mpr ⟨List.mem_of_getElem? (i := 42) (by decide +kernel), by decide +kernel⟩
theorem mw35 : (.instanceMethod objectInit : Cond) ∈ lw_g := List.mem_filter.mpr ⟨List.mem_of_getElem? (i := 35) (by decide +kernel), by decide +kernel⟩
theorem mw36 : (.code objectInit ⟨#[0xb1]⟩ 1 none : Cond) ∈ lw_g := List.mem_filter.mpr ⟨List.mem_of_getElem? (i := 36) (by decide +kernel), by decide +kernel⟩
theorem mw56 : (.methodLink cnK 3 objectInit : Cond) ∈ lw_g := List.mem_filter.mpr ⟨List.mem_of_getElem? (i := 56) (by decide +kernel), by decide +kernel⟩
theorem mw81 : (.arrayClass .int : Cond) ∈ lw_g := List.mem_filter.mpr ⟨List.mem_of_getElem? (i := 81) (by decide +kernel), by decide +kernel⟩
theorem mw34 : (.methodLink cnT 3 objectInit : Cond) ∈ lw_g := List.mem_filter.mpr ⟨List.mem_of_getElem? (i := 34) (by decide +kernel), by decide +kernel⟩
theorem mw37 : (.classLink cnT 9 cnR : Cond) ∈ lw_g := List.mem_filter.mpr ⟨List.mem_of_getElem? (i := 37) (by decide +kernel), by decide +kernel⟩
theorem mw38 : (.instantiable cnR 2 : Cond) ∈ lw_g := List.mem_filter.mpr ⟨List.mem_of_getElem? (i := 38) (by decide +kernel), by decide +kernel⟩
theorem mw41 : (.code yR_init cR_init 2 none : Cond) ∈ lw_g := List.mem_filter.mpr ⟨List.mem_of_getElem? (i := 41) (by decide +kernel), by decide +kernel⟩
theorem mw40 : (.instanceMethod yR_init : Cond) ∈ lw_g := List.mem_filter.mpr ⟨List.mem_of_getElem? (i := 40) (by decide +kernel), by decide +kernel⟩
theorem mw51 : (.classLink cnT 21 cnK : Cond) ∈ lw_g := List.mem_filter.mpr ⟨List.mem_of_getElem? (i := 51) (by decide +kernel), by decide +kernel⟩
theorem mw52 : (.instantiable cnK 6 : Cond) ∈ lw_g := List.mem_filter.mpr ⟨List.mem_of_getElem? (i := 52) (by decide +kernel), by decide +kernel⟩
theorem mw55 : (.code yK_init cK_init 1 none : Cond) ∈ lw_g := List.mem_filter.mpr ⟨List.mem_of_getElem? (i := 55) (by decide +kernel), by decide +kernel⟩
theorem mw54 : (.instanceMethod yK_init : Cond) ∈ lw_g := List.mem_filter.mpr ⟨List.mem_of_getElem? (i := 54) (by decide +kernel), by decide +kernel⟩
theorem mw288 : (.methodLink cnM 1 objectInit : Cond) ∈ lw_g := List.mem_filter.mpr ⟨List.mem_of_getElem? (i := 288) (by decide +kernel), by decide +kernel⟩
theorem mw320 : (.arrayClass .boolean : Cond) ∈ lw_g := List.mem_filter.mpr ⟨List.mem_of_getElem? (i := 320) (by decide +kernel), by decide +kernel⟩
theorem mw104 : (.methodLink R_law 21 yT_open : Cond) ∈ lw_g := List.mem_filter.mpr ⟨List.mem_of_getElem? (i := 104) (by decide +kernel), by decide +kernel⟩
theorem mw107 : (.code yT_open cT_open 3 (some .int) : Cond) ∈ lw_g := List.mem_filter.mpr ⟨List.mem_of_getElem? (i := 107) (by decide +kernel), by decide +kernel⟩
theorem mw105 : (.instanceMethod yT_open : Cond) ∈ lw_g := List.mem_filter.mpr ⟨List.mem_of_getElem? (i := 105) (by decide +kernel), by decide +kernel⟩
theorem mw106 : (.selects cnT yT_open yT_open : Cond) ∈ lw_g := List.mem_filter.mpr ⟨List.mem_of_getElem? (i := 106) (by decide +kernel), by decide +kernel⟩
theorem mw321 : (.methodLink R_law 25 yM_open : Cond) ∈ lw_g := List.mem_filter.mpr ⟨List.mem_of_getElem? (i := 321) (by decide +kernel), by decide +kernel⟩
theorem mw324 : (.code yM_open cM_open 3 (some .int) : Cond) ∈ lw_g := List.mem_filter.mpr ⟨List.mem_of_getElem? (i := 324) (by decide +kernel), by decide +kernel⟩
theorem mw322 : (.instanceMethod yM_open : Cond) ∈ lw_g := List.mem_filter.mpr ⟨List.mem_of_getElem? (i := 322) (by decide +kernel), by decide +kernel⟩
theorem mw323 : (.selects cnM yM_open yM_open : Cond) ∈ lw_g := List.mem_filter.mpr ⟨List.mem_of_getElem? (i := 323) (by decide +kernel), by decide +kernel⟩
theorem mw112 : (.methodLink R_law 26 yT_close : Cond) ∈ lw_g := List.mem_filter.mpr ⟨List.mem_of_getElem? (i := 112) (by decide +kernel), by decide +kernel⟩
theorem mw115 : (.code yT_close cT_close 2 (some .int) : Cond) ∈ lw_g := List.mem_filter.mpr ⟨List.mem_of_getElem? (i := 115) (by decide +kernel), by decide +kernel⟩
theorem mw113 : (.instanceMethod yT_close : Cond) ∈ lw_g := List.mem_filter.mpr ⟨List.mem_of_getElem? (i := 113) (by decide +kernel), by decide +kernel⟩
theorem mw114 : (.selects cnT yT_close yT_close : Cond) ∈ lw_g := List.mem_filter.mpr ⟨List.mem_of_getElem? (i := 114) (by decide +kernel), by decide +kernel⟩
theorem mw325 : (.methodLink R_law 30 yM_close : Cond) ∈ lw_g := List.mem_filter.mpr ⟨List.mem_of_getElem? (i := 325) (by decide +kernel), by decide +kernel⟩
theorem mw328 : (.code yM_close cM_close 3 (some .int) : Cond) ∈ lw_g := List.mem_filter.mpr ⟨List.mem_of_getElem? (i := 328) (by decide +kernel), by decide +kernel⟩
theorem mw326 : (.instanceMethod yM_close : Cond) ∈ lw_g := List.mem_filter.mpr ⟨List.mem_of_getElem? (i := 326) (by decide +kernel), by decide +kernel⟩
theorem mw327 : (.selects cnM yM_close yM_close : Cond) ∈ lw_g := List.mem_filter.mpr ⟨List.mem_of_getElem? (i := 327) (by decide +kernel), by decide +kernel⟩
theorem mw124 : (.methodLink R_law 31 yT_login : Cond) ∈ lw_g := List.mem_filter.mpr ⟨List.mem_of_getElem? (i := 124) (by decide +kernel), by decide +kernel⟩
theorem mw127 : (.code yT_login cT_login 6 (some .int) : Cond) ∈ lw_g := List.mem_filter.mpr ⟨List.mem_of_getElem? (i := 127) (by decide +kernel), by decide +kernel⟩
theorem mw125 : (.instanceMethod yT_login : Cond) ∈ lw_g := List.mem_filter.mpr ⟨List.mem_of_getElem? (i := 125) (by decide +kernel), by decide +kernel⟩
theorem mw126 : (.selects cnT yT_login yT_login : Cond) ∈ lw_g := List.mem_filter.mpr ⟨List.mem_of_getElem? (i := 126) (by decide +kernel), by decide +kernel⟩
theorem mw336 : (.methodLink R_law 35 yM_login : Cond) ∈ lw_g := List.mem_filter.mpr ⟨List.mem_of_getElem? (i := 336) (by decide +kernel), by decide +kernel⟩
theorem mw339 : (.code yM_login cM_login 5 (some .int) : Cond) ∈ lw_g := List.mem_filter.mpr ⟨List.mem_of_getElem? (i := 339) (by decide +kernel), by decide +kernel⟩
theorem mw337 : (.instanceMethod yM_login : Cond) ∈ lw_g := List.mem_filter.mpr ⟨List.mem_of_getElem? (i := 337) (by decide +kernel), by decide +kernel⟩
theorem mw338 : (.selects cnM yM_login yM_login : Cond) ∈ lw_g := List.mem_filter.mpr ⟨List.mem_of_getElem? (i := 338) (by decide +kernel), by decide +kernel⟩
theorem mw132 : (.methodLink R_law 36 yT_logout : Cond) ∈ lw_g := List.mem_filter.mpr ⟨List.mem_of_getElem? (i := 132) (by decide +kernel), by decide +kernel⟩
theorem mw135 : (.code yT_logout cT_logout 2 (some .int) : Cond) ∈ lw_g := List.mem_filter.mpr ⟨List.mem_of_getElem? (i := 135) (by decide +kernel), by decide +kernel⟩
theorem mw133 : (.instanceMethod yT_logout : Cond) ∈ lw_g := List.mem_filter.mpr ⟨List.mem_of_getElem? (i := 133) (by decide +kernel), by decide +kernel⟩
theorem mw134 : (.selects cnT yT_logout yT_logout : Cond) ∈ lw_g := List.mem_filter.mpr ⟨List.mem_of_getElem? (i := 134) (by decide +kernel), by decide +kernel⟩
theorem mw340 : (.methodLink R_law 39 yM_logout : Cond) ∈ lw_g := List.mem_filter.mpr ⟨List.mem_of_getElem? (i := 340) (by decide +kernel), by decide +kernel⟩
theorem mw343 : (.code yM_logout cM_logout 3 (some .int) : Cond) ∈ lw_g := List.mem_filter.mpr ⟨List.mem_of_getElem? (i := 343) (by decide +kernel), by decide +kernel⟩
theorem mw341 : (.instanceMethod yM_logout : Cond) ∈ lw_g := List.mem_filter.mpr ⟨List.mem_of_getElem? (i := 341) (by decide +kernel), by decide +kernel⟩
theorem mw342 : (.selects cnM yM_logout yM_logout : Cond) ∈ lw_g := List.mem_filter.mpr ⟨List.mem_of_getElem? (i := 342) (by decide +kernel), by decide +kernel⟩
theorem mw144 : (.methodLink R_law 40 yT_unlock : Cond) ∈ lw_g := List.mem_filter.mpr ⟨List.mem_of_getElem? (i := 144) (by decide +kernel), by decide +kernel⟩
theorem mw147 : (.code yT_unlock cT_unlock 3 (some .int) : Cond) ∈ lw_g := List.mem_filter.mpr ⟨List.mem_of_getElem? (i := 147) (by decide +kernel), by decide +kernel⟩
theorem mw145 : (.instanceMethod yT_unlock : Cond) ∈ lw_g := List.mem_filter.mpr ⟨List.mem_of_getElem? (i := 145) (by decide +kernel), by decide +kernel⟩
theorem mw146 : (.selects cnT yT_unlock yT_unlock : Cond) ∈ lw_g := List.mem_filter.mpr ⟨List.mem_of_getElem? (i := 146) (by decide +kernel), by decide +kernel⟩
theorem mw344 : (.methodLink R_law 44 yM_unlock : Cond) ∈ lw_g := List.mem_filter.mpr ⟨List.mem_of_getElem? (i := 344) (by decide +kernel), by decide +kernel⟩
theorem mw347 : (.code yM_unlock cM_unlock 3 (some .int) : Cond) ∈ lw_g := List.mem_filter.mpr ⟨List.mem_of_getElem? (i := 347) (by decide +kernel), by decide +kernel⟩
theorem mw345 : (.instanceMethod yM_unlock : Cond) ∈ lw_g := List.mem_filter.mpr ⟨List.mem_of_getElem? (i := 345) (by decide +kernel), by decide +kernel⟩
theorem mw346 : (.selects cnM yM_unlock yM_unlock : Cond) ∈ lw_g := List.mem_filter.mpr ⟨List.mem_of_getElem? (i := 346) (by decide +kernel), by decide +kernel⟩
theorem mw152 : (.methodLink R_law 45 yT_create : Cond) ∈ lw_g := List.mem_filter.mpr ⟨List.mem_of_getElem? (i := 152) (by decide +kernel), by decide +kernel⟩
theorem mw155 : (.code yT_create cT_create 5 (some .int) : Cond) ∈ lw_g := List.mem_filter.mpr ⟨List.mem_of_getElem? (i := 155) (by decide +kernel), by decide +kernel⟩
theorem mw153 : (.instanceMethod yT_create : Cond) ∈ lw_g := List.mem_filter.mpr ⟨List.mem_of_getElem? (i := 153) (by decide +kernel), by decide +kernel⟩
theorem mw154 : (.selects cnT yT_create yT_create : Cond) ∈ lw_g := List.mem_filter.mpr ⟨List.mem_of_getElem? (i := 154) (by decide +kernel), by decide +kernel⟩
theorem mw348 : (.methodLink R_law 49 yM_create : Cond) ∈ lw_g := List.mem_filter.mpr ⟨List.mem_of_getElem? (i := 348) (by decide +kernel), by decide +kernel⟩
theorem mw351 : (.code yM_create cM_create 5 (some .int) : Cond) ∈ lw_g := List.mem_filter.mpr ⟨List.mem_of_getElem? (i := 351) (by decide +kernel), by decide +kernel⟩
theorem mw349 : (.instanceMethod yM_create : Cond) ∈ lw_g := List.mem_filter.mpr ⟨List.mem_of_getElem? (i := 349) (by decide +kernel), by decide +kernel⟩
theorem mw350 : (.selects cnM yM_create yM_create : Cond) ∈ lw_g := List.mem_filter.mpr ⟨List.mem_of_getElem? (i := 350) (by decide +kernel), by decide +kernel⟩
theorem mw174 : (.methodLink R_law 50 yT_generate : Cond) ∈ lw_g := List.mem_filter.mpr ⟨List.mem_of_getElem? (i := 174) (by decide +kernel), by decide +kernel⟩
theorem mw177 : (.code yT_generate cT_generate 5 (some .int) : Cond) ∈ lw_g := List.mem_filter.mpr ⟨List.mem_of_getElem? (i := 177) (by decide +kernel), by decide +kernel⟩
theorem mw175 : (.instanceMethod yT_generate : Cond) ∈ lw_g := List.mem_filter.mpr ⟨List.mem_of_getElem? (i := 175) (by decide +kernel), by decide +kernel⟩
theorem mw176 : (.selects cnT yT_generate yT_generate : Cond) ∈ lw_g := List.mem_filter.mpr ⟨List.mem_of_getElem? (i := 176) (by decide +kernel), by decide +kernel⟩
theorem mw371 : (.methodLink R_law 53 yM_generate : Cond) ∈ lw_g := List.mem_filter.mpr ⟨List.mem_of_getElem? (i := 371) (by decide +kernel), by decide +kernel⟩
theorem mw374 : (.code yM_generate cM_generate 6 (some .int) : Cond) ∈ lw_g := List.mem_filter.mpr ⟨List.mem_of_getElem? (i := 374) (by decide +kernel), by decide +kernel⟩
theorem mw372 : (.instanceMethod yM_generate : Cond) ∈ lw_g := List.mem_filter.mpr ⟨List.mem_of_getElem? (i := 372) (by decide +kernel), by decide +kernel⟩
theorem mw373 : (.selects cnM yM_generate yM_generate : Cond) ∈ lw_g := List.mem_filter.mpr ⟨List.mem_of_getElem? (i := 373) (by decide +kernel), by decide +kernel⟩
theorem mw189 : (.methodLink R_law 54 yT_destroy : Cond) ∈ lw_g := List.mem_filter.mpr ⟨List.mem_of_getElem? (i := 189) (by decide +kernel), by decide +kernel⟩
theorem mw192 : (.code yT_destroy cT_destroy 4 (some .int) : Cond) ∈ lw_g := List.mem_filter.mpr ⟨List.mem_of_getElem? (i := 192) (by decide +kernel), by decide +kernel⟩
theorem mw190 : (.instanceMethod yT_destroy : Cond) ∈ lw_g := List.mem_filter.mpr ⟨List.mem_of_getElem? (i := 190) (by decide +kernel), by decide +kernel⟩
theorem mw191 : (.selects cnT yT_destroy yT_destroy : Cond) ∈ lw_g := List.mem_filter.mpr ⟨List.mem_of_getElem? (i := 191) (by decide +kernel), by decide +kernel⟩
theorem mw380 : (.methodLink R_law 57 yM_destroy : Cond) ∈ lw_g := List.mem_filter.mpr ⟨List.mem_of_getElem? (i := 380) (by decide +kernel), by decide +kernel⟩
theorem mw383 : (.code yM_destroy cM_destroy 3 (some .int) : Cond) ∈ lw_g := List.mem_filter.mpr ⟨List.mem_of_getElem? (i := 383) (by decide +kernel), by decide +kernel⟩
theorem mw381 : (.instanceMethod yM_destroy : Cond) ∈ lw_g := List.mem_filter.mpr ⟨List.mem_of_getElem? (i := 381) (by decide +kernel), by decide +kernel⟩
theorem mw382 : (.selects cnM yM_destroy yM_destroy : Cond) ∈ lw_g := List.mem_filter.mpr ⟨List.mem_of_getElem? (i := 382) (by decide +kernel), by decide +kernel⟩
theorem mw211 : (.methodLink R_law 58 yT_attributes : Cond) ∈ lw_g := List.mem_filter.mpr ⟨List.mem_of_getElem? (i := 211) (by decide +kernel), by decide +kernel⟩
theorem mw214 : (.code yT_attributes cT_attributes 4 (some .int) : Cond) ∈ lw_g := List.mem_filter.mpr ⟨List.mem_of_getElem? (i := 214) (by decide +kernel), by decide +kernel⟩
theorem mw212 : (.instanceMethod yT_attributes : Cond) ∈ lw_g := List.mem_filter.mpr ⟨List.mem_of_getElem? (i := 212) (by decide +kernel), by decide +kernel⟩
theorem mw213 : (.selects cnT yT_attributes yT_attributes : Cond) ∈ lw_g := List.mem_filter.mpr ⟨List.mem_of_getElem? (i := 213) (by decide +kernel), by decide +kernel⟩
theorem mw392 : (.methodLink R_law 61 yM_attributes : Cond) ∈ lw_g := List.mem_filter.mpr ⟨List.mem_of_getElem? (i := 392) (by decide +kernel), by decide +kernel⟩
theorem mw395 : (.code yM_attributes cM_attributes 3 (some .int) : Cond) ∈ lw_g := List.mem_filter.mpr ⟨List.mem_of_getElem? (i := 395) (by decide +kernel), by decide +kernel⟩
theorem mw393 : (.instanceMethod yM_attributes : Cond) ∈ lw_g := List.mem_filter.mpr ⟨List.mem_of_getElem? (i := 393) (by decide +kernel), by decide +kernel⟩
theorem mw394 : (.selects cnM yM_attributes yM_attributes : Cond) ∈ lw_g := List.mem_filter.mpr ⟨List.mem_of_getElem? (i := 394) (by decide +kernel), by decide +kernel⟩
theorem mw215 : (.methodLink R_law 62 yT_limit : Cond) ∈ lw_g := List.mem_filter.mpr ⟨List.mem_of_getElem? (i := 215) (by decide +kernel), by decide +kernel⟩
theorem mw218 : (.code yT_limit cT_limit 6 (some .int) : Cond) ∈ lw_g := List.mem_filter.mpr ⟨List.mem_of_getElem? (i := 218) (by decide +kernel), by decide +kernel⟩
theorem mw216 : (.instanceMethod yT_limit : Cond) ∈ lw_g := List.mem_filter.mpr ⟨List.mem_of_getElem? (i := 216) (by decide +kernel), by decide +kernel⟩
theorem mw217 : (.selects cnT yT_limit yT_limit : Cond) ∈ lw_g := List.mem_filter.mpr ⟨List.mem_of_getElem? (i := 217) (by decide +kernel), by decide +kernel⟩
theorem mw396 : (.methodLink R_law 65 yM_limit : Cond) ∈ lw_g := List.mem_filter.mpr ⟨List.mem_of_getElem? (i := 396) (by decide +kernel), by decide +kernel⟩
theorem mw399 : (.code yM_limit cM_limit 6 (some .int) : Cond) ∈ lw_g := List.mem_filter.mpr ⟨List.mem_of_getElem? (i := 399) (by decide +kernel), by decide +kernel⟩
theorem mw397 : (.instanceMethod yM_limit : Cond) ∈ lw_g := List.mem_filter.mpr ⟨List.mem_of_getElem? (i := 397) (by decide +kernel), by decide +kernel⟩
theorem mw398 : (.selects cnM yM_limit yM_limit : Cond) ∈ lw_g := List.mem_filter.mpr ⟨List.mem_of_getElem? (i := 398) (by decide +kernel), by decide +kernel⟩
theorem mw219 : (.methodLink R_law 66 yT_trust : Cond) ∈ lw_g := List.mem_filter.mpr ⟨List.mem_of_getElem? (i := 219) (by decide +kernel), by decide +kernel⟩
theorem mw222 : (.code yT_trust cT_trust 4 (some .int) : Cond) ∈ lw_g := List.mem_filter.mpr ⟨List.mem_of_getElem? (i := 222) (by decide +kernel), by decide +kernel⟩
theorem mw220 : (.instanceMethod yT_trust : Cond) ∈ lw_g := List.mem_filter.mpr ⟨List.mem_of_getElem? (i := 220) (by decide +kernel), by decide +kernel⟩
theorem mw221 : (.selects cnT yT_trust yT_trust : Cond) ∈ lw_g := List.mem_filter.mpr ⟨List.mem_of_getElem? (i := 221) (by decide +kernel), by decide +kernel⟩
theorem mw400 : (.methodLink R_law 69 yM_trust : Cond) ∈ lw_g := List.mem_filter.mpr ⟨List.mem_of_getElem? (i := 400) (by decide +kernel), by decide +kernel⟩
theorem mw403 : (.code yM_trust cM_trust 3 (some .int) : Cond) ∈ lw_g := List.mem_filter.mpr ⟨List.mem_of_getElem? (i := 403) (by decide +kernel), by decide +kernel⟩
theorem mw401 : (.instanceMethod yM_trust : Cond) ∈ lw_g := List.mem_filter.mpr ⟨List.mem_of_getElem? (i := 401) (by decide +kernel), by decide +kernel⟩
theorem mw402 : (.selects cnM yM_trust yM_trust : Cond) ∈ lw_g := List.mem_filter.mpr ⟨List.mem_of_getElem? (i := 402) (by decide +kernel), by decide +kernel⟩
theorem mw223 : (.methodLink R_law 70 yT_read : Cond) ∈ lw_g := List.mem_filter.mpr ⟨List.mem_of_getElem? (i := 223) (by decide +kernel), by decide +kernel⟩
theorem mw226 : (.code yT_read cT_read 4 (some .long) : Cond) ∈ lw_g := List.mem_filter.mpr ⟨List.mem_of_getElem? (i := 226) (by decide +kernel), by decide +kernel⟩
theorem mw224 : (.instanceMethod yT_read : Cond) ∈ lw_g := List.mem_filter.mpr ⟨List.mem_of_getElem? (i := 224) (by decide +kernel), by decide +kernel⟩
theorem mw225 : (.selects cnT yT_read yT_read : Cond) ∈ lw_g := List.mem_filter.mpr ⟨List.mem_of_getElem? (i := 225) (by decide +kernel), by decide +kernel⟩
theorem mw404 : (.methodLink R_law 74 yM_read : Cond) ∈ lw_g := List.mem_filter.mpr ⟨List.mem_of_getElem? (i := 404) (by decide +kernel), by decide +kernel⟩
theorem mw407 : (.code yM_read cM_read 4 (some .long) : Cond) ∈ lw_g := List.mem_filter.mpr ⟨List.mem_of_getElem? (i := 407) (by decide +kernel), by decide +kernel⟩
theorem mw405 : (.instanceMethod yM_read : Cond) ∈ lw_g := List.mem_filter.mpr ⟨List.mem_of_getElem? (i := 405) (by decide +kernel), by decide +kernel⟩
theorem mw406 : (.selects cnM yM_read yM_read : Cond) ∈ lw_g := List.mem_filter.mpr ⟨List.mem_of_getElem? (i := 406) (by decide +kernel), by decide +kernel⟩
theorem mw232 : (.methodLink R_law 75 yT_encrypt : Cond) ∈ lw_g := List.mem_filter.mpr ⟨List.mem_of_getElem? (i := 232) (by decide +kernel), by decide +kernel⟩
theorem mw235 : (.code yT_encrypt cT_encrypt 5 (some .long) : Cond) ∈ lw_g := List.mem_filter.mpr ⟨List.mem_of_getElem? (i := 235) (by decide +kernel), by decide +kernel⟩
theorem mw233 : (.instanceMethod yT_encrypt : Cond) ∈ lw_g := List.mem_filter.mpr ⟨List.mem_of_getElem? (i := 233) (by decide +kernel), by decide +kernel⟩
theorem mw234 : (.selects cnT yT_encrypt yT_encrypt : Cond) ∈ lw_g := List.mem_filter.mpr ⟨List.mem_of_getElem? (i := 234) (by decide +kernel), by decide +kernel⟩
theorem mw416 : (.methodLink R_law 79 yM_encrypt : Cond) ∈ lw_g := List.mem_filter.mpr ⟨List.mem_of_getElem? (i := 416) (by decide +kernel), by decide +kernel⟩
theorem mw419 : (.code yM_encrypt cM_encrypt 5 (some .long) : Cond) ∈ lw_g := List.mem_filter.mpr ⟨List.mem_of_getElem? (i := 419) (by decide +kernel), by decide +kernel⟩
theorem mw417 : (.instanceMethod yM_encrypt : Cond) ∈ lw_g := List.mem_filter.mpr ⟨List.mem_of_getElem? (i := 417) (by decide +kernel), by decide +kernel⟩
theorem mw418 : (.selects cnM yM_encrypt yM_encrypt : Cond) ∈ lw_g := List.mem_filter.mpr ⟨List.mem_of_getElem? (i := 418) (by decide +kernel), by decide +kernel⟩
theorem mw249 : (.methodLink R_law 80 yT_decrypt : Cond) ∈ lw_g := List.mem_filter.mpr ⟨List.mem_of_getElem? (i := 249) (by decide +kernel), by decide +kernel⟩
theorem mw252 : (.code yT_decrypt cT_decrypt 5 (some .long) : Cond) ∈ lw_g := List.mem_filter.mpr ⟨List.mem_of_getElem? (i := 252) (by decide +kernel), by decide +kernel⟩
theorem mw250 : (.instanceMethod yT_decrypt : Cond) ∈ lw_g := List.mem_filter.mpr ⟨List.mem_of_getElem? (i := 250) (by decide +kernel), by decide +kernel⟩
theorem mw251 : (.selects cnT yT_decrypt yT_decrypt : Cond) ∈ lw_g := List.mem_filter.mpr ⟨List.mem_of_getElem? (i := 251) (by decide +kernel), by decide +kernel⟩
theorem mw429 : (.methodLink R_law 83 yM_decrypt : Cond) ∈ lw_g := List.mem_filter.mpr ⟨List.mem_of_getElem? (i := 429) (by decide +kernel), by decide +kernel⟩
theorem mw432 : (.code yM_decrypt cM_decrypt 5 (some .long) : Cond) ∈ lw_g := List.mem_filter.mpr ⟨List.mem_of_getElem? (i := 432) (by decide +kernel), by decide +kernel⟩
theorem mw430 : (.instanceMethod yM_decrypt : Cond) ∈ lw_g := List.mem_filter.mpr ⟨List.mem_of_getElem? (i := 430) (by decide +kernel), by decide +kernel⟩
theorem mw431 : (.selects cnM yM_decrypt yM_decrypt : Cond) ∈ lw_g := List.mem_filter.mpr ⟨List.mem_of_getElem? (i := 431) (by decide +kernel), by decide +kernel⟩
theorem mw256 : (.methodLink R_law 84 yT_sign : Cond) ∈ lw_g := List.mem_filter.mpr ⟨List.mem_of_getElem? (i := 256) (by decide +kernel), by decide +kernel⟩
theorem mw259 : (.code yT_sign cT_sign 5 (some .long) : Cond) ∈ lw_g := List.mem_filter.mpr ⟨List.mem_of_getElem? (i := 259) (by decide +kernel), by decide +kernel⟩
theorem mw257 : (.instanceMethod yT_sign : Cond) ∈ lw_g := List.mem_filter.mpr ⟨List.mem_of_getElem? (i := 257) (by decide +kernel), by decide +kernel⟩
theorem mw258 : (.selects cnT yT_sign yT_sign : Cond) ∈ lw_g := List.mem_filter.mpr ⟨List.mem_of_getElem? (i := 258) (by decide +kernel), by decide +kernel⟩
theorem mw433 : (.methodLink R_law 87 yM_sign : Cond) ∈ lw_g := List.mem_filter.mpr ⟨List.mem_of_getElem? (i := 433) (by decide +kernel), by decide +kernel⟩
theorem mw436 : (.code yM_sign cM_sign 5 (some .long) : Cond) ∈ lw_g := List.mem_filter.mpr ⟨List.mem_of_getElem? (i := 436) (by decide +kernel), by decide +kernel⟩
theorem mw434 : (.instanceMethod yM_sign : Cond) ∈ lw_g := List.mem_filter.mpr ⟨List.mem_of_getElem? (i := 434) (by decide +kernel), by decide +kernel⟩
theorem mw435 : (.selects cnM yM_sign yM_sign : Cond) ∈ lw_g := List.mem_filter.mpr ⟨List.mem_of_getElem? (i := 435) (by decide +kernel), by decide +kernel⟩
theorem mw260 : (.methodLink R_law 88 yT_wrap : Cond) ∈ lw_g := List.mem_filter.mpr ⟨List.mem_of_getElem? (i := 260) (by decide +kernel), by decide +kernel⟩
theorem mw263 : (.code yT_wrap cT_wrap 9 (some .long) : Cond) ∈ lw_g := List.mem_filter.mpr ⟨List.mem_of_getElem? (i := 263) (by decide +kernel), by decide +kernel⟩
theorem mw261 : (.instanceMethod yT_wrap : Cond) ∈ lw_g := List.mem_filter.mpr ⟨List.mem_of_getElem? (i := 261) (by decide +kernel), by decide +kernel⟩
theorem mw262 : (.selects cnT yT_wrap yT_wrap : Cond) ∈ lw_g := List.mem_filter.mpr ⟨List.mem_of_getElem? (i := 262) (by decide +kernel), by decide +kernel⟩
theorem mw437 : (.methodLink R_law 91 yM_wrap : Cond) ∈ lw_g := List.mem_filter.mpr ⟨List.mem_of_getElem? (i := 437) (by decide +kernel), by decide +kernel⟩
theorem mw440 : (.code yM_wrap cM_wrap 8 (some .long) : Cond) ∈ lw_g := List.mem_filter.mpr ⟨List.mem_of_getElem? (i := 440) (by decide +kernel), by decide +kernel⟩
theorem mw438 : (.instanceMethod yM_wrap : Cond) ∈ lw_g := List.mem_filter.mpr ⟨List.mem_of_getElem? (i := 438) (by decide +kernel), by decide +kernel⟩
theorem mw439 : (.selects cnM yM_wrap yM_wrap : Cond) ∈ lw_g := List.mem_filter.mpr ⟨List.mem_of_getElem? (i := 439) (by decide +kernel), by decide +kernel⟩
theorem mw457 : (.constantLong R_law 92 (4294967295) : Cond) ∈ lw_g := List.mem_filter.mpr ⟨List.mem_of_getElem? (i := 457) (by decide +kernel), by decide +kernel⟩
theorem mw268 : (.methodLink R_law 94 yT_unwrap : Cond) ∈ lw_g := List.mem_filter.mpr ⟨List.mem_of_getElem? (i := 268) (by decide +kernel), by decide +kernel⟩
theorem mw271 : (.code yT_unwrap cT_unwrap 11 (some .int) : Cond) ∈ lw_g := List.mem_filter.mpr ⟨List.mem_of_getElem? (i := 271) (by decide +kernel), by decide +kernel⟩
theorem mw269 : (.instanceMethod yT_unwrap : Cond) ∈ lw_g := List.mem_filter.mpr ⟨List.mem_of_getElem? (i := 269) (by decide +kernel), by decide +kernel⟩
theorem mw270 : (.selects cnT yT_unwrap yT_unwrap : Cond) ∈ lw_g := List.mem_filter.mpr ⟨List.mem_of_getElem? (i := 270) (by decide +kernel), by decide +kernel⟩
theorem mw445 : (.methodLink R_law 98 yM_unwrap : Cond) ∈ lw_g := List.mem_filter.mpr ⟨List.mem_of_getElem? (i := 445) (by decide +kernel), by decide +kernel⟩
theorem mw448 : (.code yM_unwrap cM_unwrap 11 (some .int) : Cond) ∈ lw_g := List.mem_filter.mpr ⟨List.mem_of_getElem? (i := 448) (by decide +kernel), by decide +kernel⟩
theorem mw446 : (.instanceMethod yM_unwrap : Cond) ∈ lw_g := List.mem_filter.mpr ⟨List.mem_of_getElem? (i := 446) (by decide +kernel), by decide +kernel⟩
theorem mw447 : (.selects cnM yM_unwrap yM_unwrap : Cond) ∈ lw_g := List.mem_filter.mpr ⟨List.mem_of_getElem? (i := 447) (by decide +kernel), by decide +kernel⟩
theorem mw272 : (.methodLink R_law 99 yT_find : Cond) ∈ lw_g := List.mem_filter.mpr ⟨List.mem_of_getElem? (i := 272) (by decide +kernel), by decide +kernel⟩
theorem mw275 : (.code yT_find cT_find 5 (some .int) : Cond) ∈ lw_g := List.mem_filter.mpr ⟨List.mem_of_getElem? (i := 275) (by decide +kernel), by decide +kernel⟩
theorem mw273 : (.instanceMethod yT_find : Cond) ∈ lw_g := List.mem_filter.mpr ⟨List.mem_of_getElem? (i := 273) (by decide +kernel), by decide +kernel⟩
theorem mw274 : (.selects cnT yT_find yT_find : Cond) ∈ lw_g := List.mem_filter.mpr ⟨List.mem_of_getElem? (i := 274) (by decide +kernel), by decide +kernel⟩
theorem mw449 : (.methodLink R_law 102 yM_find : Cond) ∈ lw_g := List.mem_filter.mpr ⟨List.mem_of_getElem? (i := 449) (by decide +kernel), by decide +kernel⟩
theorem mw452 : (.code yM_find cM_find 5 (some .int) : Cond) ∈ lw_g := List.mem_filter.mpr ⟨List.mem_of_getElem? (i := 452) (by decide +kernel), by decide +kernel⟩
theorem mw450 : (.instanceMethod yM_find : Cond) ∈ lw_g := List.mem_filter.mpr ⟨List.mem_of_getElem? (i := 450) (by decide +kernel), by decide +kernel⟩
theorem mw451 : (.selects cnM yM_find yM_find : Cond) ∈ lw_g := List.mem_filter.mpr ⟨List.mem_of_getElem? (i := 451) (by decide +kernel), by decide +kernel⟩
theorem mw276 : (.methodLink R_law 103 yT_status : Cond) ∈ lw_g := List.mem_filter.mpr ⟨List.mem_of_getElem? (i := 276) (by decide +kernel), by decide +kernel⟩
theorem mw279 : (.code yT_status cT_status 2 (some .int) : Cond) ∈ lw_g := List.mem_filter.mpr ⟨List.mem_of_getElem? (i := 279) (by decide +kernel), by decide +kernel⟩
theorem mw277 : (.instanceMethod yT_status : Cond) ∈ lw_g := List.mem_filter.mpr ⟨List.mem_of_getElem? (i := 277) (by decide +kernel), by decide +kernel⟩
theorem mw278 : (.selects cnT yT_status yT_status : Cond) ∈ lw_g := List.mem_filter.mpr ⟨List.mem_of_getElem? (i := 278) (by decide +kernel), by decide +kernel⟩
theorem mw453 : (.methodLink R_law 106 yM_status : Cond) ∈ lw_g := List.mem_filter.mpr ⟨List.mem_of_getElem? (i := 453) (by decide +kernel), by decide +kernel⟩
theorem mw456 : (.code yM_status cM_status 4 (some .int) : Cond) ∈ lw_g := List.mem_filter.mpr ⟨List.mem_of_getElem? (i := 456) (by decide +kernel), by decide +kernel⟩
theorem mw454 : (.instanceMethod yM_status : Cond) ∈ lw_g := List.mem_filter.mpr ⟨List.mem_of_getElem? (i := 454) (by decide +kernel), by decide +kernel⟩
theorem mw455 : (.selects cnM yM_status yM_status : Cond) ∈ lw_g := List.mem_filter.mpr ⟨List.mem_of_getElem? (i := 455) (by decide +kernel), by decide +kernel⟩
theorem mw30 : (.instantiable cnT 7 : Cond) ∈ lw_g := List.mem_filter.mpr ⟨List.mem_of_getElem? (i := 30) (by decide +kernel), by decide +kernel⟩
theorem mw284 : (.instantiable cnM 10 : Cond) ∈ lw_g := List.mem_filter.mpr ⟨List.mem_of_getElem? (i := 284) (by decide +kernel), by decide +kernel⟩
theorem mw29 : (.classLink R_law 7 cnT : Cond) ∈ lw_g := List.mem_filter.mpr ⟨List.mem_of_getElem? (i := 29) (by decide +kernel), by decide +kernel⟩
theorem mw280 : (.methodLink R_law 9 yL_cell : Cond) ∈ lw_g := List.mem_filter.mpr ⟨List.mem_of_getElem? (i := 280) (by decide +kernel), by decide +kernel⟩
theorem mw282 : (.code yL_cell cL_cell 2 (some .int) : Cond) ∈ lw_g := List.mem_filter.mpr ⟨List.mem_of_getElem? (i := 282) (by decide +kernel), by decide +kernel⟩
theorem mw23 : (.initialized R_law : Cond) ∈ lw_g := List.mem_filter.mpr ⟨List.mem_of_getElem? (i := 23) (by decide +kernel), by decide +kernel⟩
theorem mw281 : (.static yL_cell : Cond) ∈ lw_g := List.mem_filter.mpr ⟨List.mem_of_getElem? (i := 281) (by decide +kernel), by decide +kernel⟩
theorem mw31 : (.methodLink R_law 15 yT_init : Cond) ∈ lw_g := List.mem_filter.mpr ⟨List.mem_of_getElem? (i := 31) (by decide +kernel), by decide +kernel⟩
theorem mw33 : (.code yT_init cT_init 3 none : Cond) ∈ lw_g := List.mem_filter.mpr ⟨List.mem_of_getElem? (i := 33) (by decide +kernel), by decide +kernel⟩
theorem mw32 : (.instanceMethod yT_init : Cond) ∈ lw_g := List.mem_filter.mpr ⟨List.mem_of_getElem? (i := 32) (by decide +kernel), by decide +kernel⟩
theorem mw283 : (.classLink R_law 18 cnM : Cond) ∈ lw_g := List.mem_filter.mpr ⟨List.mem_of_getElem? (i := 283) (by decide +kernel), by decide +kernel⟩
theorem mw285 : (.methodLink R_law 20 yM_init : Cond) ∈ lw_g := List.mem_filter.mpr ⟨List.mem_of_getElem? (i := 285) (by decide +kernel), by decide +kernel⟩
theorem mw287 : (.code yM_init cM_init 3 none : Cond) ∈ lw_g := List.mem_filter.mpr ⟨List.mem_of_getElem? (i := 287) (by decide +kernel), by decide +kernel⟩
theorem mw286 : (.instanceMethod yM_init : Cond) ∈ lw_g := List.mem_filter.mpr ⟨List.mem_of_getElem? (i := 286) (by decide +kernel), by decide +kernel⟩
theorem gd_yW_byteOf : GoodIn lw_g wsW_byteOf := lw_goodIn mw184
theorem gd_yW_half : GoodIn lw_g wsW_half := lw_goodIn mw246
theorem gd_yT_hasBoth : GoodIn lw_g wsT_hasBoth := lw_goodIn mw169
theorem gd_yW_mac : GoodIn lw_g wsW_mac := lw_goodIn mw181
theorem gd_yM_half : GoodIn lw_g wsM_half := lw_goodIn mw426
theorem gd_yM_has : GoodIn lw_g wsM_has := lw_goodIn mw335
theorem gd_yK_removeRow : GoodIn lw_g wsK_removeRow := lw_goodIn mw123
theorem gd_yK_has : GoodIn lw_g wsK_has := lw_goodIn mw143
theorem gd_yT_isOpen : GoodIn lw_g wsT_isOpen := lw_goodIn mw111
theorem gd_yT_isReadWrite : GoodIn lw_g wsT_isReadWrite := lw_goodIn mw163
theorem gd_yK_rowWith : GoodIn lw_g wsK_rowWith := lw_goodIn mw200
theorem gd_yT_isVisible : GoodIn lw_g wsT_isVisible := lw_goodIn mw204
theorem gd_yT_rowOrRefusal : GoodIn lw_g wsT_rowOrRefusal := lw_goodIn mw196
theorem gd_yT_areGood : GoodIn lw_g wsT_areGood := lw_goodIn mw166
theorem gd_yK_removeOwnedBy : GoodIn lw_g wsK_removeOwnedBy := lw_goodIn mw119
theorem gd_yR_tryPin : GoodIn lw_g wsR_tryPin := lw_goodIn mw131
theorem gd_yK_removePrivateSessionKeys : GoodIn lw_g wsK_removePrivateSessionKeys := lw_goodIn mw139
theorem gd_yR_renew : GoodIn lw_g wsR_renew := lw_goodIn mw151
theorem gd_yT_refusalToMake : GoodIn lw_g wsT_refusalToMake := lw_goodIn mw159
theorem gd_yK_add : GoodIn lw_g wsK_add := lw_goodIn mw173
theorem gd_yT_originOf : GoodIn lw_g wsT_originOf := lw_goodIn mw188
theorem gd_yT_isFixedFor : GoodIn lw_g wsT_isFixedFor := lw_goodIn mw209
theorem gd_yT_answered : GoodIn lw_g wsT_answered := lw_goodIn mw230
theorem gd_yT_rowForUse : GoodIn lw_g wsT_rowForUse := lw_goodIn mw239
theorem gd_yW_enc : GoodIn lw_g wsW_enc := lw_goodIn mw242
theorem gd_yW_dec : GoodIn lw_g wsW_dec := lw_goodIn mw255
theorem gd_yT_tagOf : GoodIn lw_g wsT_tagOf := lw_goodIn mw266
theorem gd_yM_visible : GoodIn lw_g wsM_visible := lw_goodIn mw391
theorem gd_yM_readOnly : GoodIn lw_g wsM_readOnly := lw_goodIn mw359
theorem gd_yM_good : GoodIn lw_g wsM_good := lw_goodIn mw362
theorem gd_yM_count : GoodIn lw_g wsM_count := lw_goodIn mw366
theorem gd_yM_closed : GoodIn lw_g wsM_closed := lw_goodIn mw332
theorem gd_yM_obstacle : GoodIn lw_g wsM_obstacle := lw_goodIn mw355
theorem gd_yM_enter : GoodIn lw_g wsM_enter := lw_goodIn mw370
theorem gd_yM_mac : GoodIn lw_g wsM_mac := lw_goodIn mw378
theorem gd_yM_hidden : GoodIn lw_g wsM_hidden := lw_goodIn mw387
theorem gd_yM_bar : GoodIn lw_g wsM_bar := lw_goodIn mw411
theorem gd_yM_answer : GoodIn lw_g wsM_answer := lw_goodIn mw414
theorem gd_yM_rounds : GoodIn lw_g wsM_rounds := lw_goodIn mw422
theorem gd_yR_init : GoodIn lw_g wsR_init := lw_goodIn mw41
theorem gd_yK_init : GoodIn lw_g wsK_init := lw_goodIn mw55
theorem gd_yT_open : GoodIn lw_g wsT_open := lw_goodIn mw107
theorem gd_yM_open : GoodIn lw_g wsM_open := lw_goodIn mw324
theorem gd_yT_close : GoodIn lw_g wsT_close := lw_goodIn mw115
theorem gd_yM_close : GoodIn lw_g wsM_close := lw_goodIn mw328
theorem gd_yT_login : GoodIn lw_g wsT_login := lw_goodIn mw127
theorem gd_yM_login : GoodIn lw_g wsM_login := lw_goodIn mw339
theorem gd_yT_logout : GoodIn lw_g wsT_logout := lw_goodIn mw135
theorem gd_yM_logout : GoodIn lw_g wsM_logout := lw_goodIn mw343
theorem gd_yT_unlock : GoodIn lw_g wsT_unlock := lw_goodIn mw147
theorem gd_yM_unlock : GoodIn lw_g wsM_unlock := lw_goodIn mw347
theorem gd_yT_create : GoodIn lw_g wsT_create := lw_goodIn mw155
theorem gd_yM_create : GoodIn lw_g wsM_create := lw_goodIn mw351
theorem gd_yT_generate : GoodIn lw_g wsT_generate := lw_goodIn mw177
theorem gd_yM_generate : GoodIn lw_g wsM_generate := lw_goodIn mw374
theorem gd_yT_destroy : GoodIn lw_g wsT_destroy := lw_goodIn mw192
theorem gd_yM_destroy : GoodIn lw_g wsM_destroy := lw_goodIn mw383
theorem gd_yT_attributes : GoodIn lw_g wsT_attributes := lw_goodIn mw214
theorem gd_yM_attributes : GoodIn lw_g wsM_attributes := lw_goodIn mw395
theorem gd_yT_limit : GoodIn lw_g wsT_limit := lw_goodIn mw218
theorem gd_yM_limit : GoodIn lw_g wsM_limit := lw_goodIn mw399
theorem gd_yT_trust : GoodIn lw_g wsT_trust := lw_goodIn mw222
theorem gd_yM_trust : GoodIn lw_g wsM_trust := lw_goodIn mw403
theorem gd_yT_read : GoodIn lw_g wsT_read := lw_goodIn mw226
theorem gd_yM_read : GoodIn lw_g wsM_read := lw_goodIn mw407
theorem gd_yT_encrypt : GoodIn lw_g wsT_encrypt := lw_goodIn mw235
theorem gd_yM_encrypt : GoodIn lw_g wsM_encrypt := lw_goodIn mw419
theorem gd_yT_decrypt : GoodIn lw_g wsT_decrypt := lw_goodIn mw252
theorem gd_yM_decrypt : GoodIn lw_g wsM_decrypt := lw_goodIn mw432
theorem gd_yT_sign : GoodIn lw_g wsT_sign := lw_goodIn mw259
theorem gd_yM_sign : GoodIn lw_g wsM_sign := lw_goodIn mw436
theorem gd_yT_wrap : GoodIn lw_g wsT_wrap := lw_goodIn mw263
theorem gd_yM_wrap : GoodIn lw_g wsM_wrap := lw_goodIn mw440
theorem gd_yT_unwrap : GoodIn lw_g wsT_unwrap := lw_goodIn mw271
theorem gd_yM_unwrap : GoodIn lw_g wsM_unwrap := lw_goodIn mw448
theorem gd_yT_find : GoodIn lw_g wsT_find := lw_goodIn mw275
theorem gd_yM_find : GoodIn lw_g wsM_find := lw_goodIn mw452
theorem gd_yT_status : GoodIn lw_g wsT_status := lw_goodIn mw279
theorem gd_yM_status : GoodIn lw_g wsM_status := lw_goodIn mw456
theorem gd_yL_cell : GoodIn lw_g wsL_cell := lw_goodIn mw282
theorem gd_yT_init : GoodIn lw_g wsT_init := lw_goodIn mw33
theorem gd_yM_init : GoodIn lw_g wsM_init := lw_goodIn mw287
